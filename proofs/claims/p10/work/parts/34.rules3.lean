/-! ===== clones, rows of objects copied, classes' objects ===== -/
section
variable {Y : XY} {M : XM} {l : Launch} {d k n : Nat} {h : XH} {pc : Nat} {ls st : List Value} {ρ : Nat → Nat} {ow : Nat → Option Nat} {H : Heap} {locs : List Loc} {cells slots : Nat} {lsA : Array Slot}
abbrev xx_ad (t : Nat) : String := if t = 100 then "[I" else if t = 101 then "[Z" else "[B"
theorem sw_clone {idx t N r r2 : Nat} {f : Nat → Value} {ad : String} (O : xx_O Y M l d) (ht : t = 100 ∨ t = 101 ∨ t = 102) (had : ad = xx_ad t) (hd : decode M.2.1 pc = .ok (.invokevirtual idx, 3)) (w : Cond.methodLink M.2.2.2.2.1 idx ⟨ad, "clone", "()Ljava/lang/Object;"⟩ ∈ xx_gws)
    (wx : Cond.sameMethod ad "java/lang/Object" "clone" "()Ljava/lang/Object;" ∈ xx_gws ∧ Cond.native ⟨"java/lang/Object", "clone", "()Ljava/lang/Object;"⟩ ∈ xx_gws ∧ Cond.instanceMethod ⟨"java/lang/Object", "clone", "()Ljava/lang/Object;"⟩ ∈ xx_gws ∧ Cond.selects ad ⟨ad, "clone", "()Ljava/lang/Object;"⟩ ⟨"java/lang/Object", "clone", "()Ljava/lang/Object;"⟩ ∈ xx_gws ∧ Cond.castable ad "java/lang/Cloneable" ∈ xx_nws)
    (hc : h r = some (t, N, f)) (hfit : ∀ j, j < N → ∀ ρ : Nat → Nat, fits (xx_aty t) (xx_v ρ (f j)) = true) (hr : h r2 = none) (h1 : 1000 ≤ r2) (hdd : 1 ≤ d) (hcs : (st.map fun v => v.category).sum ≤ 8)
    (kk : SW Y k n (xx_blk h r2 1 (fun _ => (t, N, f))) (pc + 3) ls (.ref r2 :: st)) (hs0 : 1000 ≤ r := by omega) : SW Y (k + 1) (n + N) h pc ls (.ref r :: st) := by
  subst had
  intro ρ ow H locs cells slots lsA r9 T hT X
  obtain ⟨q1, -⟩ := r9.arr O (by omega) (by omega) hc hs0
  have hnm := xx_arrC O ht
  have hw := O.2.2.2.2.2.1
  have hR := O.2.2.2.2.2.2.2.2.2.2.2.2
  obtain ⟨c0, t0', f1, f2, f3⟩ := Cond.castable_spec (O.2.2.2.2.2.2.2.2.1.use (args := #[]) wx.2.2.2.2)
  cases hnm.symm.trans f1
  have hK0 := (O.2.2.2.2.2.2.2.1.2.2 t (by omega) (by omega)).1
  obtain ⟨-, kA, hkA, comp, hkind⟩ := State.isArrayOf_alike X.warmed.alike (hK0 0 (fun _ => .null))
  obtain ⟨-, kS, hkS, compS, hkindS⟩ := hK0 0 (fun _ => .null)
  have hcat : ((st.map (xx_v ρ)).map fun v => v.category).sum = (st.map fun v => v.category).sum := by
    rw [List.map_map]
    exact congrArg List.sum (List.map_congr_left fun v _ => xx_v_cat ρ v)
  obtain ⟨vm', X', st9⟩ := X.cloneArray O.1 O.2.2.2.2.2.2.1 (hw _ w) (hw _ wx.1) (hw _ wx.2.1) (hw _ wx.2.2.1) (hw _ wx.2.2.2.1) (a := ρ r) (cell := arrV (xd_A (xy_D Y) t) N (fun k => xx_v ρ (f k))) (by rw [hT]; exact q1) (fun k h => by cases h) (fun h => by cases h) hnm f2 f3
    (fun i v hv => by
      have hi : i < N := by
        have := (Array.getElem?_eq_some_iff.mp hv).1
        rw [arrV_size] at this
        exact this
      rw [arrV_read _ _ hi] at hv
      cases hv
      have hk' : T.vm.classes[(arrV (xd_A (xy_D Y) t) N (fun k => xx_v ρ (f k))).cls]? = some kA := hkA
      simpa [State.fitsSlot, State.slotType?, hk', hkind] using hfit i hi ρ)
    (g := F0 (xt_m Y.1) pc lsA (.ref (ρ r) :: st.map (xx_v ρ))) rfl (by show lsA.size = _; exact r9.L.1) rfl (by rw [O.2.1]; exact hd) (by exact Nat.le_trans hdd hR.1) (by show 2 * 0 + _ + 14 ≤ _; rw [hcat]; have h9 := hR.2.1; omega) (by have := r9.2.2.2.1; omega) (by rw [arrV_size]; have := r9.2.2.2.2.1; omega) (hloader := Vm.clonesLoader_of_array hkS hkindS)
  have hf : ∀ i, i < 1 → h (r2 + i) = none := fun i hi => by rw [show r2 + i = r2 by omega]; exact hr
  have hρ : ∀ a, (h a).isSome = true → xx_ρn ρ r2 1 H.size a = ρ a := fun a ha => if_neg (xx_blk_some (c := fun _ => (t, N, f)) hf ha)
  have e5 : xx_ρn ρ r2 1 H.size r2 = H.size := by
    unfold xx_ρn
    rw [if_pos ⟨by omega, by omega⟩]
    omega
  have R1 := r9.news (k := k) (n := n) (a := 1) (b := N) (r0 := r2) (N := 1) (c := fun _ => (t, N, f)) (st' := .ref r2 :: st) (H1 := H.push (arrV (xd_A (xy_D Y) t) N (fun k => xx_v ρ (f k)))) (by omega) (by omega) hf h1 (by simp) (fun a ha => by rw [Array.getElem?_push, if_neg (Nat.ne_of_lt ha)]) (fun j hj => by
    obtain rfl : j = 0 := by omega
    refine xx_cell.mk (by omega) ?_
    unfold xx_newc
    rw [if_neg (show ¬ t < 100 by omega), if_pos (show t < 200 by omega)]
    show _[xx_ρn ρ r2 1 H.size r2]? = _
    rw [e5]
    simp only [Array.getElem?_push_size]
    exact congrArg some (xx_arr_eq fun j hj => (xx_v_eq hρ (r9.1.2.2.2.2 r _ j hc hj)).symm)) (fun i j _ hj => xx_in_blk hf (r9.1.2.2.2.2 r _ j hc hj)) (xx_hc (by show (xx_blk h r2 1 _ r2).isSome = true; rw [xx_blk_0 (by omega)]; rfl) (fun v hv => xx_in_blk hf (xx_ht r9.stk v hv)))
  have k1 := kk _ _ _ locs _ _ lsA R1
  rw [show (Value.ref r2 :: st).map (xx_v (xx_ρn ρ r2 1 H.size)) = Value.ref H.size :: st.map (xx_v ρ) by rw [List.map_cons, xx_map_eq hρ (xx_ht r9.stk)]; show Value.ref (xx_ρn ρ r2 1 H.size r2) :: _ = _; rw [e5]] at k1
  rw [arrV_size] at X'
  obtain ⟨t, b1, b2⟩ := k1 ((T.setVm vm').pushCell (arrV (xd_A (xy_D Y) t) N (fun k => xx_v ρ (f k)))) (by rw [← hT]; rfl) X'
  refine ⟨t, st9 t ?_, b2⟩
  rw [hT]
  exact b1
theorem sw_acmp_eqS {a tgt : Nat} {off : Int} (O : xx_O Y M l d) (hd : decode M.2.1 pc = .ok (.if_acmp .eq off, 3)) (ht : (pc : Int) + off = (tgt : Int)) (kt : SW Y k n h tgt ls st) : SW Y k n h pc ls (.ref a :: .ref a :: st) := fun ρ ow H locs cells slots lsA r9 =>
  lv_acmp_eq (rx := some (ρ a)) (ry := some (ρ a)) O.1 O.2.1 hd ht (fun _ => kt ρ ow H locs cells slots lsA (r9.to (xx_ht (xx_ht r9.stk)))) (fun q => absurd rfl q)
theorem sw_acmp_neS {a tgt : Nat} {off : Int} (O : xx_O Y M l d) (hd : decode M.2.1 pc = .ok (.if_acmp .ne off, 3)) (ht : (pc : Int) + off = (tgt : Int)) (kf : SW Y k n h (pc + 3) ls st) : SW Y k n h pc ls (.ref a :: .ref a :: st) := fun ρ ow H locs cells slots lsA r9 =>
  lv_acmp_ne (rx := some (ρ a)) (ry := some (ρ a)) O.1 O.2.1 hd ht (fun q => absurd rfl q) (fun _ => kf ρ ow H locs cells slots lsA (r9.to (xx_ht (xx_ht r9.stk))))
theorem sw_ldcM {idx : Nat} {c : XC} (O : xx_O Y M l d) (hd : decode M.2.1 pc = .ok (.ldc idx, 2)) (w : Cond.classLink M.2.2.2.2.1 idx "[Ljava/lang/Object;" ∈ xx_gws) (hc : h 3 = some c) (kk : SW Y k n h (pc + 2) ls (.ref 3 :: st)) : SW Y k n h pc ls st := by
  intro ρ ow H locs cells slots lsA r9
  have k1 := kk ρ ow H locs cells slots lsA (r9.to (xx_hc (a := .ref 3) (by show (h 3).isSome = true; rw [hc]; rfl) r9.stk))
  rw [show (Value.ref 3 :: st).map (xx_v ρ) = Value.ref (xd_E (xy_D Y) 3) :: st.map (xx_v ρ) by rw [List.map_cons, ← xx_old r9 hc (by omega)]; rfl] at k1
  exact va_ldcM O.1 O.2.1 O.2.2.2.2.2.2.1 (O.2.2.2.2.2.1 _ w) O.2.2.2.2.2.2.2.1.2.1.2.2.2.2.2.1 hd k1
theorem sw_getC {idx N r : Nat} {f : Nat → Value} {c : XC} (O : xx_O Y M l d) (hd : decode M.2.1 pc = .ok (.invokevirtual idx, 3)) (w : Cond.methodLink M.2.2.2.2.1 idx ⟨"java/lang/Object", "getClass", "()Ljava/lang/Class;"⟩ ∈ xx_gws)
    (wx : Cond.declares ⟨"java/lang/Object", "getClass", "()Ljava/lang/Class;"⟩ ∈ xx_nws ∧ Cond.selects "[Ljava/lang/Object;" ⟨"java/lang/Object", "getClass", "()Ljava/lang/Class;"⟩ ⟨"java/lang/Object", "getClass", "()Ljava/lang/Class;"⟩ ∈ xx_gws ∧ Cond.instanceMethod ⟨"java/lang/Object", "getClass", "()Ljava/lang/Class;"⟩ ∈ xx_gws ∧ Cond.native ⟨"java/lang/Object", "getClass", "()Ljava/lang/Class;"⟩ ∈ xx_gws)
    (hr : h r = some (104, N, f)) (hc : h 3 = some c) (hdd : 1 ≤ d) (hcs : (st.map fun v => v.category).sum ≤ 8) (kk : SW Y k n h (pc + 3) ls (.ref 3 :: st)) (hs0 : 1000 ≤ r := by omega) : SW Y k n h pc ls (.ref r :: st) := by
  intro ρ ow H locs cells slots lsA r9
  have hw := O.2.2.2.2.2.1
  have hR := O.2.2.2.2.2.2.2.2.2.2.2.2
  obtain ⟨q1, -⟩ := r9.arr O (by omega) (by omega) hr hs0
  have k1 := kk ρ ow H locs cells slots lsA (r9.to (xx_hc (a := .ref 3) (by show (h 3).isSome = true; rw [hc]; rfl) (xx_ht r9.stk)))
  rw [show (Value.ref 3 :: st).map (xx_v ρ) = Value.ref (xd_E (xy_D Y) 3) :: st.map (xx_v ρ) by rw [List.map_cons, ← xx_old r9 hc (by omega)]; rfl] at k1
  have hRA : va_RA (xt_s Y.1) (xd_A (xy_D Y) 104) (.object "java/lang/Object") := (O.2.2.2.2.2.2.2.1.2.2 104 (by omega) (by omega)).2 (by omega)
  have hfc : (xt_s Y.1).vm.findClass "[Ljava/lang/Object;" = some (xd_A (xy_D Y) 104) := va_nmO hRA rfl
  have hcat : ((st.map (xx_v ρ)).map fun v => v.category).sum = (st.map fun v => v.category).sum := by
    rw [List.map_map]
    exact congrArg List.sum (List.map_congr_left fun v _ => xx_v_cat ρ v)
  exact va_getC O.1 O.2.1 (by exact r9.L.1.symm) O.2.2.2.2.2.2.1 (hw _ w) (O.2.2.2.2.2.2.2.2.1.use wx.1) (hw _ wx.2.1) (hw _ wx.2.2.1) (hw _ wx.2.2.2) O.2.2.2.2.2.2.2.1.2.1.2.2.2.2.2.1 ⟨_, q1, rfl, hfc⟩ (by exact Nat.le_trans hdd hR.1) (by rw [hcat]; have h9 := hR.2.1; omega) hd k1
theorem sw_copyR {idx N0 N1 r0 r1 : Nat} {f g : Nat → Value} {n9 : Int32} (O : xx_O Y M l d) (K : xx_ac M.2.2.2.2.1 idx) (hd : decode M.2.1 pc = .ok (.invokestatic idx, 3)) (hc0 : h r0 = some (104, N0, f)) (hc1 : h r1 = some (104, N1, g)) (h9 : 1000 ≤ r1) (h3 : ¬ n9 < 0) (h4 : n9.toNatClampNeg ≤ N0) (h5 : n9.toNatClampNeg ≤ N1)
    (hel : ∀ j, j < n9.toNatClampNeg → f j = .null ∨ ∃ x, f j = .ref x ∧ xx_obO h x)
    (hdd : 1 ≤ d) (hw : (st.map fun v => v.category).sum + (nativeFrameWords "java/lang/System" "arraycopy" 5 + 11) ≤ 40) {h2' : XH} (he : xx_up h r1 (104, N1, fun j => if j < n9.toNatClampNeg then f j else g j) = h2') (kk : SW Y k n h2' (pc + 3) ls st) (hs0 : 1000 ≤ r0 := by omega) : SW Y k n h pc ls (.int n9 :: .int 0 :: .ref r1 :: .int 0 :: .ref r0 :: st) := by
  subst he
  intro ρ ow H locs cells slots lsA r9
  have nn : ∀ z : Int32, ¬ z < 0 → z.toInt = (z.toNatClampNeg : Int) := by
    intro z hz
    have hz0 : (0 : Int) ≤ z.toInt := by
      have := Int32.not_lt.mp hz
      simpa using Int32.le_iff_toInt_le.mp this
    show z.toInt = ((z.toInt.toNat : Nat) : Int)
    omega
  have hcat : ((st.map (xx_v ρ)).map fun v => v.category).sum = (st.map fun v => v.category).sum := by
    rw [List.map_map]
    exact congrArg List.sum (List.map_congr_left fun v _ => xx_v_cat ρ v)
  obtain ⟨hK0, hRA⟩ := O.2.2.2.2.2.2.2.1.2.2 104 (by omega) (by omega)
  have hRA := hRA (by omega)
  have hRA : va_RA (xt_s Y.1) (xd_A (xy_D Y) 104) (.object "java/lang/Object") := hRA
  obtain ⟨q0, -⟩ := r9.arr O (by omega) (by omega) hc0 hs0
  obtain ⟨q1, -⟩ := r9.arr O (by omega) (by omega) hc1 h9
  have hel2 : ∀ j, j < n9.toNatClampNeg → f j = .null ∨ ∃ x, f j = .ref x ∧ va_Any "java/lang/Object" (xt_s Y.1) H (ρ x) := fun j hj => by
    rcases hel j hj with e | ⟨x, e, hx⟩
    · exact .inl e
    · exact .inr ⟨x, e, xx_any O r9 hx⟩
  generalize hcA : xd_A (xy_D Y) 104 = cA at hK0 q0 q1 hRA
  obtain ⟨-, k0, hk0, cm0, hkk0⟩ := hK0 N0 (fun j => xx_v ρ (f j))
  obtain ⟨-, k1, hk1, cm1, hkk1⟩ := hK0 N1 (fun j => xx_v ρ (g j))
  have hgw := O.2.2.2.2.2.1
  intro T hT X
  obtain ⟨vm', X', step⟩ := X.arraycopy O.1 O.2.2.2.2.2.2.1 (hgw _ K.1) (hgw _ K.2.1) (hgw _ K.2.2.1) (hgw _ K.2.2.2) (src := ρ r0) (dst := ρ r1) (cs := arrV cA N0 (fun j => xx_v ρ (f j))) (cd := arrV cA N1 (fun j => xx_v ρ (g j))) (srcPos := 0) (destPos := 0) (n := n9) (by rw [hT]; exact q0) (by rw [hT]; exact q1)
    (fun _ h => by cases h) (fun _ h => by cases h) (fun h => by cases h) (fun h => by cases h) hk0 hk1 hkk0 hkk1 rfl (by decide) (by decide) h3
    (by rw [nn n9 h3, show (0 : Int32).toInt = 0 from rfl]; rw [arrV_size]; omega)
    (by rw [nn n9 h3, show (0 : Int32).toInt = 0 from rfl]; rw [arrV_size]; omega)
    (fun vm₁ hal i hi => by
      have e : (arrV cA N0 (fun j => xx_v ρ (f j))).slots.getD ((0 : Int32).toNatClampNeg + i) .null = xx_v ρ (f i) := by
        rw [show (0 : Int32).toNatClampNeg + i = i from Nat.zero_add i, Array.getD_eq_getD_getElem?, arrV_read _ _ (by omega)]
        rfl
      rw [e]
      rcases hel2 i hi with e2 | ⟨x, e2, cellV, g1, g2, ⟨kC, hkC⟩, hasg⟩
      · rw [e2]
        exact ⟨rfl, trivial⟩
      · rw [e2]
        obtain ⟨kA, comp, r1, r2, r3, -⟩ := hRA
        cases hk1.symm.trans r1
        cases hkk1.symm.trans r2
        obtain ⟨kE, hkE, -⟩ := Vm.findClass_spec r3
        obtain ⟨kC', hkC', -⟩ := hal.2.2 _ _ hkC
        obtain ⟨kE', hkE', -⟩ := hal.2.2 _ _ hkE
        refine ⟨rfl, cellV, (show T.heap[ρ x]? = some cellV by rw [hT]; exact g1), (fun q h => by rw [h] at g2; cases g2), ⟨kC', hkC'⟩, ?_, ?_⟩
        · exact ⟨kE', hkE'⟩
        · show vm₁.assignable _ _ = true
          rw [hal.assignable]
          exact hasg _ r3)
    (g := F0 (xt_m Y.1) pc lsA (.int n9 :: .int 0 :: .ref (ρ r1) :: .int 0 :: .ref (ρ r0) :: st.map (xx_v ρ))) rfl (by show lsA.size = _; exact r9.L.1) (rest := st.map (xx_v ρ)) rfl (by rw [O.2.1]; exact hd) (by exact Nat.le_trans hdd O.2.2.2.2.2.2.2.2.2.2.2.2.1) (by show 2 * 0 + _ + _ ≤ _; rw [hcat]; have h9 := O.2.2.2.2.2.2.2.2.2.2.2.2.2.1; omega)
  have e1 : copied (arrV cA N0 (fun j => xx_v ρ (f j))) (arrV cA N1 (fun j => xx_v ρ (g j))) 0 0 n9 = arrV cA N1 (fun j => xx_v ρ (if j < n9.toNatClampNeg then f j else g j)) := by
    have h6 := va_copied (fun z => xx_v ρ z) cA cA f g (sp := (0 : Int32).toNatClampNeg) (dp := (0 : Int32).toNatClampNeg) (n := n9.toNatClampNeg) (n0 := N0) (n1 := N1) (by show 0 + _ ≤ _; omega)
    refine h6.trans (xx_arr_eq fun j hj => ?_)
    show xx_v ρ (va_cpy f g 0 0 n9.toNatClampNeg j) = _
    unfold va_cpy
    congr 1
    by_cases q : j < n9.toNatClampNeg
    · rw [if_pos (by omega), if_pos q, Nat.zero_add, Nat.sub_zero]
    · rw [if_neg (by omega), if_neg q]
  rw [e1] at X' step
  have hl : ρ r1 < H.size := (Array.getElem?_eq_some_iff.mp q1).1
  generalize hnew : arrV cA N1 (fun j => xx_v ρ (if j < n9.toNatClampNeg then f j else g j)) = cnew at X' step
  have hheap : ((T.setVm vm').setCell (ρ r1) cnew).heap = H.setIfInBounds (ρ r1) cnew := by rw [← hT]; rfl
  have oq : ∀ q : Nat, q ≠ ρ r1 → (H.setIfInBounds (ρ r1) cnew)[q]? = H[q]? := fun q hq => by simp [Array.getElem?_setIfInBounds, Ne.symm hq]
  have oe : (H.setIfInBounds (ρ r1) cnew)[ρ r1]? = some cnew := by simp [Array.getElem?_setIfInBounds, hl]
  obtain ⟨t, a1, b1⟩ := kk ρ ow _ _ cells slots lsA (r9.putL hc1 h9 (by simp) oq (fun q hq => by
      rcases List.mem_append.mp hq with h | h
      · exact .inl h
      · obtain ⟨z, -, hz⟩ := List.mem_map.mp h
        exact .inr (by rw [← hz])) (by
      refine xx_cell.mk h9 ?_
      unfold xx_newc
      rw [if_neg (by show ¬ 104 < 100; omega), if_pos (by show 104 < 200; omega), oe, ← hnew, ← hcA]) (fun j hj => by
      show xx_in h (if j < n9.toNatClampNeg then f j else g j)
      split
      · rename_i q
        exact r9.1.2.2.2.2 r0 _ j hc0 (show j < N0 by omega)
      · exact r9.1.2.2.2.2 r1 _ j hc1 hj) (xx_ht (xx_ht (xx_ht (xx_ht (xx_ht r9.stk)))))) _ hheap X'
  exact ⟨t, step t a1, b1⟩
end
