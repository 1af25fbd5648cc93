section
/-! ===== clones, rows of objects copied, classes' objects ===== -/
section
variable {Y : XY} {M : XM} {l : Launch} {d k n : Nat} {h : XH} {pc : Nat} {ls st : List Value} {ρ : Nat → Nat} {ow : Nat → Option Nat} {H : Heap} {locs : List Loc} {cells slots : Nat} {lsA : Array Slot}
abbrev xx_ad (t : Nat) : String := if t = 100 then "[I" else if t = 101 then "[Z" else "[B"
theorem sw_clone {idx t N r r2 : Nat} {f : Nat → Value} {ad : String} (O : xx_O Y M l d) (ht : t = 100 ∨ t = 101 ∨ t = 102) (had : ad = xx_ad t) (hd : decode M.2.1 pc = .ok (.invokevirtual idx, 3)) (w : Cond.methodLink M.2.2.2.2.1 idx ⟨ad, "clone", "()Ljava/lang/Object;"⟩ ∈ xx_gws)
    (wx : Cond.sameMethod ad "java/lang/Object" "clone" "()Ljava/lang/Object;" ∈ xx_gws ∧ Cond.native ⟨"java/lang/Object", "clone", "()Ljava/lang/Object;"⟩ ∈ xx_gws ∧ Cond.instanceMethod ⟨"java/lang/Object", "clone", "()Ljava/lang/Object;"⟩ ∈ xx_gws ∧ Cond.selects ad ⟨ad, "clone", "()Ljava/lang/Object;"⟩ ⟨"java/lang/Object", "clone", "()Ljava/lang/Object;"⟩ ∈ xx_gws ∧ Cond.castable ad "java/lang/Cloneable" ∈ xx_nws)
    (hc : h r = some (t, N, f)) (hfit : ∀ j, j < N → ∀ ρ : Nat → Nat, fits (xx_aty t) (xx_v ρ (f j)) = true) (hr : h r2 = none) (h1 : 1000 ≤ r2) (hdd : 1 ≤ d) (hcs : (st.map fun v => v.category).sum ≤ 8)
    (kk : SW Y k n (xx_blk h r2 1 (fun _ => (t, N, f))) (pc + 3) ls (.ref r2 :: st)) (hs0 : 1000 ≤ r := by omega) : SW Y (k + 1) (n + N) h pc ls (.ref r :: st) := by
  subst had
  intro ρ ow H locs cells slots lsA r9 T hT X
  obtain ⟨q1, -⟩ := r9.arr O (by omega) (by omega) hc hs0
  have hnm := xx_arrC O ht
  have hw := O.2.2.2.2.2.1
  have hR := O.2.2.2.2.2.2.2.2.2.2.2.2
  obtain ⟨c0, t0', f1, f2, f3⟩ := Cond.castable_spec (O.2.2.2.2.2.2.2.2.1.use (args := #[]) wx.2.2.2.2)
  cases hnm.symm.trans f1
  have hK0 := (O.2.2.2.2.2.2.2.1.2.2 t (by omega) (by omega)).1
  obtain ⟨-, kA, hkA, comp, hkind⟩ := State.isArrayOf_alike X.warmed.alike (hK0 0 (fun _ => .null))
  obtain ⟨-, kS, hkS, compS, hkindS⟩ := hK0 0 (fun _ => .null)
  have hcat : ((st.map (xx_v ρ)).map fun v => v.category).sum = (st.map fun v => v.category).sum := by
    rw [List.map_map]
    exact congrArg List.sum (List.map_congr_left fun v _ => xx_v_cat ρ v)
  obtain ⟨vm', X', st9⟩ := X.cloneArray O.1 O.2.2.2.2.2.2.1 (hw _ w) (hw _ wx.1) (hw _ wx.2.1) (hw _ wx.2.2.1) (hw _ wx.2.2.2.1) (a := ρ r) (cell := arrV (xd_A (xy_D Y) t) N (fun k => xx_v ρ (f k))) (by rw [hT]; exact q1) (fun k h => by cases h) (fun h => by cases h) hnm f2 f3
    (fun i v hv => by
      have hi : i < N := by
        have := (Array.getElem?_eq_some_iff.mp hv).1
        rw [arrV_size] at this
        exact this
      rw [arrV_read _ _ hi] at hv
      cases hv
      have hk' : T.vm.classes[(arrV (xd_A (xy_D Y) t) N (fun k => xx_v ρ (f k))).cls]? = some kA := hkA
      simpa [State.fitsSlot, State.slotType?, hk', hkind] using hfit i hi ρ)
    (g := F0 (xt_m Y.1) pc lsA (.ref (ρ r) :: st.map (xx_v ρ))) rfl (by show lsA.size = _; exact r9.L.1) rfl (by rw [O.2.1]; exact hd) (by exact Nat.le_trans hdd hR.1) (by show 2 * 0 + _ + 14 ≤ _; rw [hcat]; have h9 := hR.2.1; omega) (by have := r9.2.2.2.1; omega) (by rw [arrV_size]; have := r9.2.2.2.2.1; omega) (hloader := Vm.clonesLoader_of_array hkS hkindS)
  have hf : ∀ i, i < 1 → h (r2 + i) = none := fun i hi => by rw [show r2 + i = r2 by omega]; exact hr
  have hρ : ∀ a, (h a).isSome = true → xx_ρn ρ r2 1 H.size a = ρ a := fun a ha => if_neg (xx_blk_some (c := fun _ => (t, N, f)) hf ha)
  have e5 : xx_ρn ρ r2 1 H.size r2 = H.size := by
    unfold xx_ρn
    rw [if_pos ⟨by omega, by omega⟩]
    omega
  have R1 := r9.news (k := k) (n := n) (a := 1) (b := N) (r0 := r2) (N := 1) (c := fun _ => (t, N, f)) (st' := .ref r2 :: st) (H1 := H.push (arrV (xd_A (xy_D Y) t) N (fun k => xx_v ρ (f k)))) (by omega) (by omega) hf h1 (by simp) (fun a ha => by rw [Array.getElem?_push, if_neg (Nat.ne_of_lt ha)]) (fun j hj => by
    obtain rfl : j = 0 := by omega
    refine xx_cell.mk (by omega) ?_
    unfold xx_newc
    rw [if_neg (show ¬ t < 100 by omega), if_pos (show t < 200 by omega)]
    show _[xx_ρn ρ r2 1 H.size r2]? = _
    rw [e5]
    simp only [Array.getElem?_push_size]
    exact congrArg some (xx_arr_eq fun j hj => (xx_v_eq hρ (r9.1.2.2.2.2 r _ j hc hj)).symm)) (fun i j _ hj => xx_in_blk hf (r9.1.2.2.2.2 r _ j hc hj)) (xx_hc (by show (xx_blk h r2 1 _ r2).isSome = true; rw [xx_blk_0 (by omega)]; rfl) (fun v hv => xx_in_blk hf (xx_ht r9.stk v hv)))
  have k1 := kk _ _ _ locs _ _ lsA R1
  rw [show (Value.ref r2 :: st).map (xx_v (xx_ρn ρ r2 1 H.size)) = Value.ref H.size :: st.map (xx_v ρ) by rw [List.map_cons, xx_map_eq hρ (xx_ht r9.stk)]; show Value.ref (xx_ρn ρ r2 1 H.size r2) :: _ = _; rw [e5]] at k1
  rw [arrV_size] at X'
  obtain ⟨t, b1, b2⟩ := k1 ((T.setVm vm').pushCell (arrV (xd_A (xy_D Y) t) N (fun k => xx_v ρ (f k)))) (by rw [← hT]; rfl) X'
  refine ⟨t, st9 t ?_, b2⟩
  rw [hT]
  exact b1
theorem sw_acmp_eqS {a tgt : Nat} {off : Int} (O : xx_O Y M l d) (hd : decode M.2.1 pc = .ok (.if_acmp .eq off, 3)) (ht : (pc : Int) + off = (tgt : Int)) (kt : SW Y k n h tgt ls st) : SW Y k n h pc ls (.ref a :: .ref a :: st) := fun ρ ow H locs cells slots lsA r9 =>
  lv_acmp_eq (rx := some (ρ a)) (ry := some (ρ a)) O.1 O.2.1 hd ht (fun _ => kt ρ ow H locs cells slots lsA (r9.to (xx_ht (xx_ht r9.stk)))) (fun q => absurd rfl q)
theorem sw_acmp_neS {a tgt : Nat} {off : Int} (O : xx_O Y M l d) (hd : decode M.2.1 pc = .ok (.if_acmp .ne off, 3)) (ht : (pc : Int) + off = (tgt : Int)) (kf : SW Y k n h (pc + 3) ls st) : SW Y k n h pc ls (.ref a :: .ref a :: st) := fun ρ ow H locs cells slots lsA r9 =>
  lv_acmp_ne (rx := some (ρ a)) (ry := some (ρ a)) O.1 O.2.1 hd ht (fun q => absurd rfl q) (fun _ => kf ρ ow H locs cells slots lsA (r9.to (xx_ht (xx_ht r9.stk))))
theorem sw_ldcM {idx : Nat} {c : XC} (O : xx_O Y M l d) (hd : decode M.2.1 pc = .ok (.ldc idx, 2)) (w : Cond.classLink M.2.2.2.2.1 idx "[Ljava/lang/Object;" ∈ xx_gws) (hc : h 3 = some c) (kk : SW Y k n h (pc + 2) ls (.ref 3 :: st)) : SW Y k n h pc ls st := by
  intro ρ ow H locs cells slots lsA r9
  have k1 := kk ρ ow H locs cells slots lsA (r9.to (xx_hc (a := .ref 3) (by show (h 3).isSome = true; rw [hc]; rfl) r9.stk))
  rw [show (Value.ref 3 :: st).map (xx_v ρ) = Value.ref (xd_E (xy_D Y) 3) :: st.map (xx_v ρ) by rw [List.map_cons, ← xx_old r9 hc (by omega)]; rfl] at k1
  exact va_ldcM O.1 O.2.1 O.2.2.2.2.2.2.1 (O.2.2.2.2.2.1 _ w) O.2.2.2.2.2.2.2.1.2.1.2.2.2.2.2.1 hd k1
theorem sw_getC {idx N r : Nat} {f : Nat → Value} {c : XC} (O : xx_O Y M l d) (hd : decode M.2.1 pc = .ok (.invokevirtual idx, 3)) (w : Cond.methodLink M.2.2.2.2.1 idx ⟨"java/lang/Object", "getClass", "()Ljava/lang/Class;"⟩ ∈ xx_gws)
    (wx : Cond.declares ⟨"java/lang/Object", "getClass", "()Ljava/lang/Class;"⟩ ∈ xx_nws ∧ Cond.selects "[Ljava/lang/Object;" ⟨"java/lang/Object", "getClass", "()Ljava/lang/Class;"⟩ ⟨"java/lang/Object", "getClass", "()Ljava/lang/Class;"⟩ ∈ xx_gws ∧ Cond.instanceMethod ⟨"java/lang/Object", "getClass", "()Ljava/lang/Class;"⟩ ∈ xx_gws ∧ Cond.native ⟨"java/lang/Object", "getClass", "()Ljava/lang/Class;"⟩ ∈ xx_gws)
    (hr : h r = some (104, N, f)) (hc : h 3 = some c) (hdd : 1 ≤ d) (hcs : (st.map fun v => v.category).sum ≤ 8) (kk : SW Y k n h (pc + 3) ls (.ref 3 :: st)) (hs0 : 1000 ≤ r := by omega) : SW Y k n h pc ls (.ref r :: st) := by
  intro ρ ow H locs cells slots lsA r9
  have hw := O.2.2.2.2.2.1
  have hR := O.2.2.2.2.2.2.2.2.2.2.2.2
  obtain ⟨q1, -⟩ := r9.arr O (by omega) (by omega) hr hs0
  have k1 := kk ρ ow H locs cells slots lsA (r9.to (xx_hc (a := .ref 3) (by show (h 3).isSome = true; rw [hc]; rfl) (xx_ht r9.stk)))
  rw [show (Value.ref 3 :: st).map (xx_v ρ) = Value.ref (xd_E (xy_D Y) 3) :: st.map (xx_v ρ) by rw [List.map_cons, ← xx_old r9 hc (by omega)]; rfl] at k1
  have hRA : va_RA (xt_s Y.1) (xd_A (xy_D Y) 104) (.object "java/lang/Object") := (O.2.2.2.2.2.2.2.1.2.2 104 (by omega) (by omega)).2 (by omega)
  have hfc : (xt_s Y.1).vm.findClass "[Ljava/lang/Object;" = some (xd_A (xy_D Y) 104) := va_nmO hRA rfl
  have hcat : ((st.map (xx_v ρ)).map fun v => v.category).sum = (st.map fun v => v.category).sum := by
    rw [List.map_map]
    exact congrArg List.sum (List.map_congr_left fun v _ => xx_v_cat ρ v)
  exact va_getC O.1 O.2.1 (by exact r9.L.1.symm) O.2.2.2.2.2.2.1 (hw _ w) (O.2.2.2.2.2.2.2.2.1.use wx.1) (hw _ wx.2.1) (hw _ wx.2.2.1) (hw _ wx.2.2.2) O.2.2.2.2.2.2.2.1.2.1.2.2.2.2.2.1 ⟨_, q1, rfl, hfc⟩ (by exact Nat.le_trans hdd hR.1) (by rw [hcat]; have h9 := hR.2.1; omega) hd k1
theorem sw_copyR {idx N0 N1 r0 r1 : Nat} {f g : Nat → Value} {n9 : Int32} (O : xx_O Y M l d) (K : xx_ac M.2.2.2.2.1 idx) (hd : decode M.2.1 pc = .ok (.invokestatic idx, 3)) (hc0 : h r0 = some (104, N0, f)) (hc1 : h r1 = some (104, N1, g)) (h9 : 1000 ≤ r1) (h3 : ¬ n9 < 0) (h4 : n9.toNatClampNeg ≤ N0) (h5 : n9.toNatClampNeg ≤ N1)
    (hel : ∀ j, j < n9.toNatClampNeg → f j = .null ∨ ∃ x, f j = .ref x ∧ xx_obO h x)
    (hdd : 1 ≤ d) (hw : (st.map fun v => v.category).sum + (nativeFrameWords "java/lang/System" "arraycopy" 5 + 11) ≤ 40) {h2' : XH} (he : xx_up h r1 (104, N1, fun j => if j < n9.toNatClampNeg then f j else g j) = h2') (kk : SW Y k n h2' (pc + 3) ls st) (hs0 : 1000 ≤ r0 := by omega) : SW Y k n h pc ls (.int n9 :: .int 0 :: .ref r1 :: .int 0 :: .ref r0 :: st) := by
  subst he
  intro ρ ow H locs cells slots lsA r9
  have nn : ∀ z : Int32, ¬ z < 0 → z.toInt = (z.toNatClampNeg : Int) := by
    intro z hz
    have hz0 : (0 : Int) ≤ z.toInt := by
      have := Int32.not_lt.mp hz
      simpa using Int32.le_iff_toInt_le.mp this
    show z.toInt = ((z.toInt.toNat : Nat) : Int)
    omega
  have hcat : ((st.map (xx_v ρ)).map fun v => v.category).sum = (st.map fun v => v.category).sum := by
    rw [List.map_map]
    exact congrArg List.sum (List.map_congr_left fun v _ => xx_v_cat ρ v)
  obtain ⟨hK0, hRA⟩ := O.2.2.2.2.2.2.2.1.2.2 104 (by omega) (by omega)
  have hRA := hRA (by omega)
  have hRA : va_RA (xt_s Y.1) (xd_A (xy_D Y) 104) (.object "java/lang/Object") := hRA
  obtain ⟨q0, -⟩ := r9.arr O (by omega) (by omega) hc0 hs0
  obtain ⟨q1, -⟩ := r9.arr O (by omega) (by omega) hc1 h9
  have hel2 : ∀ j, j < n9.toNatClampNeg → f j = .null ∨ ∃ x, f j = .ref x ∧ va_Any "java/lang/Object" (xt_s Y.1) H (ρ x) := fun j hj => by
    rcases hel j hj with e | ⟨x, e, hx⟩
    · exact .inl e
    · exact .inr ⟨x, e, xx_any O r9 hx⟩
  generalize hcA : xd_A (xy_D Y) 104 = cA at hK0 q0 q1 hRA
  obtain ⟨-, k0, hk0, cm0, hkk0⟩ := hK0 N0 (fun j => xx_v ρ (f j))
  obtain ⟨-, k1, hk1, cm1, hkk1⟩ := hK0 N1 (fun j => xx_v ρ (g j))
  have hgw := O.2.2.2.2.2.1
  intro T hT X
  obtain ⟨vm', X', step⟩ := X.arraycopy O.1 O.2.2.2.2.2.2.1 (hgw _ K.1) (hgw _ K.2.1) (hgw _ K.2.2.1) (hgw _ K.2.2.2) (src := ρ r0) (dst := ρ r1) (cs := arrV cA N0 (fun j => xx_v ρ (f j))) (cd := arrV cA N1 (fun j => xx_v ρ (g j))) (srcPos := 0) (destPos := 0) (n := n9) (by rw [hT]; exact q0) (by rw [hT]; exact q1)
    (fun _ h => by cases h) (fun _ h => by cases h) (fun h => by cases h) (fun h => by cases h) hk0 hk1 hkk0 hkk1 rfl (by decide) (by decide) h3
    (by rw [nn n9 h3, show (0 : Int32).toInt = 0 from rfl]; rw [arrV_size]; omega)
    (by rw [nn n9 h3, show (0 : Int32).toInt = 0 from rfl]; rw [arrV_size]; omega)
    (fun vm₁ hal i hi => by
      have e : (arrV cA N0 (fun j => xx_v ρ (f j))).slots.getD ((0 : Int32).toNatClampNeg + i) .null = xx_v ρ (f i) := by
        rw [show (0 : Int32).toNatClampNeg + i = i from Nat.zero_add i, Array.getD_eq_getD_getElem?, arrV_read _ _ (by omega)]
        rfl
      rw [e]
      rcases hel2 i hi with e2 | ⟨x, e2, cellV, g1, g2, ⟨kC, hkC⟩, hasg⟩
      · rw [e2]
        exact ⟨rfl, trivial⟩
      · rw [e2]
        obtain ⟨kA, comp, r1, r2, r3, -⟩ := hRA
        cases hk1.symm.trans r1
        cases hkk1.symm.trans r2
        obtain ⟨kE, hkE, -⟩ := Vm.findClass_spec r3
        obtain ⟨kC', hkC', -⟩ := hal.2.2 _ _ hkC
        obtain ⟨kE', hkE', -⟩ := hal.2.2 _ _ hkE
        refine ⟨rfl, cellV, (show T.heap[ρ x]? = some cellV by rw [hT]; exact g1), (fun q h => by rw [h] at g2; cases g2), ⟨kC', hkC'⟩, ?_, ?_⟩
        · exact ⟨kE', hkE'⟩
        · show vm₁.assignable _ _ = true
          rw [hal.assignable]
          exact hasg _ r3)
    (g := F0 (xt_m Y.1) pc lsA (.int n9 :: .int 0 :: .ref (ρ r1) :: .int 0 :: .ref (ρ r0) :: st.map (xx_v ρ))) rfl (by show lsA.size = _; exact r9.L.1) (rest := st.map (xx_v ρ)) rfl (by rw [O.2.1]; exact hd) (by exact Nat.le_trans hdd O.2.2.2.2.2.2.2.2.2.2.2.2.1) (by show 2 * 0 + _ + _ ≤ _; rw [hcat]; have h9 := O.2.2.2.2.2.2.2.2.2.2.2.2.2.1; omega)
  have e1 : copied (arrV cA N0 (fun j => xx_v ρ (f j))) (arrV cA N1 (fun j => xx_v ρ (g j))) 0 0 n9 = arrV cA N1 (fun j => xx_v ρ (if j < n9.toNatClampNeg then f j else g j)) := by
    have h6 := va_copied (fun z => xx_v ρ z) cA cA f g (sp := (0 : Int32).toNatClampNeg) (dp := (0 : Int32).toNatClampNeg) (n := n9.toNatClampNeg) (n0 := N0) (n1 := N1) (by show 0 + _ ≤ _; omega)
    refine h6.trans (xx_arr_eq fun j hj => ?_)
    show xx_v ρ (va_cpy f g 0 0 n9.toNatClampNeg j) = _
    unfold va_cpy
    congr 1
    by_cases q : j < n9.toNatClampNeg
    · rw [if_pos (by omega), if_pos q, Nat.zero_add, Nat.sub_zero]
    · rw [if_neg (by omega), if_neg q]
  rw [e1] at X' step
  have hl : ρ r1 < H.size := (Array.getElem?_eq_some_iff.mp q1).1
  generalize hnew : arrV cA N1 (fun j => xx_v ρ (if j < n9.toNatClampNeg then f j else g j)) = cnew at X' step
  have hheap : ((T.setVm vm').setCell (ρ r1) cnew).heap = H.setIfInBounds (ρ r1) cnew := by rw [← hT]; rfl
  have oq : ∀ q : Nat, q ≠ ρ r1 → (H.setIfInBounds (ρ r1) cnew)[q]? = H[q]? := fun q hq => by simp [Array.getElem?_setIfInBounds, Ne.symm hq]
  have oe : (H.setIfInBounds (ρ r1) cnew)[ρ r1]? = some cnew := by simp [Array.getElem?_setIfInBounds, hl]
  obtain ⟨t, a1, b1⟩ := kk ρ ow _ _ cells slots lsA (r9.putL hc1 h9 (by simp) oq (fun q hq => by
      rcases List.mem_append.mp hq with h | h
      · exact .inl h
      · obtain ⟨z, -, hz⟩ := List.mem_map.mp h
        exact .inr (by rw [← hz])) (by
      refine xx_cell.mk h9 ?_
      unfold xx_newc
      rw [if_neg (by show ¬ 104 < 100; omega), if_pos (by show 104 < 200; omega), oe, ← hnew, ← hcA]) (fun j hj => by
      show xx_in h (if j < n9.toNatClampNeg then f j else g j)
      split
      · rename_i q
        exact r9.1.2.2.2.2 r0 _ j hc0 (show j < N0 by omega)
      · exact r9.1.2.2.2.2 r1 _ j hc1 hj) (xx_ht (xx_ht (xx_ht (xx_ht (xx_ht r9.stk)))))) _ hheap X'
  exact ⟨t, step t a1, b1⟩
end
end
section
/-! ===== fields that are inherited; lists as what is called ===== -/
def xx_fl2 (own : String) (idx : Nat) (ref : String) (T : u_T) (kf : Nat) : Prop :=
  (Cond.fieldLink own idx ref (T kf).2.1 (T kf).2.2.1 ∈ xx_gws ∨ ∃ host, Cond.fieldLinkNest own idx ref (T kf).2.1 (T kf).2.2.1 host ∈ xx_nws) ∧ ((T kf).1 = ref ∨ Cond.sameField ref (T kf).1 (T kf).2.1 (T kf).2.2.1 ∈ xx_gws)
section
variable {Y : XY} {M : XM} {l : Launch} {d k n : Nat} {h : XH} {pc : Nat} {ls st : List Value} {ρ : Nat → Nat} {ow : Nat → Option Nat} {H : Heap} {locs : List Loc} {cells slots : Nat} {lsA : Array Slot}
theorem xx_fl2.found {own ref : String} {idx kf : Nat} {T : u_T} {x : ClassId × Class × Nat × Field} (O : xx_O Y M l d) (F : xx_fl2 own idx ref T kf) (hi : (xt_s Y.1).fieldFound? (T kf).1 (T kf).2.1 (T kf).2.2.1 = some x) : (xt_s Y.1).fieldFound? ref (T kf).2.1 (T kf).2.2.1 = some x := by
  rcases F.2 with e | w
  · rw [← e]; exact hi
  · exact u_same (O.2.2.2.2.2.1 _ w) x hi
theorem sw_get2 {idx ci N r kf : Nat} {f : Nat → Value} {C ref : String} {T : u_T} {ty : Nat → FieldType} (O : xx_O Y M l d) (hd : decode M.2.1 pc = .ok (.getfield idx, 3)) (K : xx_cl ci C T N ty) (F : xx_fl2 M.2.2.2.2.1 idx ref T kf) (hc : h r = some (ci, N, f)) (hk : kf < N)
    {v : Value} (hv : f kf = v) (kk : SW Y k n h (pc + 3) ls (v :: st)) (hlo : r < 1000 → ci = 0 → kf < 2 := by first | exact fun _ q => absurd q (by decide) | exact fun _ _ => (by decide) | omega) : SW Y k n h pc ls (.ref r :: st) := by
  subst hv
  intro ρ ow H locs cells slots lsA r9
  obtain ⟨⟨cell, q1, q2, q3, q4⟩, hS, hfc, kC, hkC, hkind⟩ := r9.obj O K hc
  obtain ⟨cf, kF, fi, fd, hi, hsl⟩ := hS kf hk
  have hst := (u_facts hfc hkC (u_lays O.2.2.2.2.2.1 K.2.2.1 hk) hi).1
  have hv : cell.slots[fd.slot]? = some (xx_v ρ (f kf)) := by rw [hsl]; exact q4 kf hk hlo
  have kk' := kk ρ ow H locs cells slots lsA (r9.to (xx_hc (r9.1.2.2.2.2 r _ kf hc hk) (xx_ht r9.stk)))
  have hi := F.found O hi
  rcases F.1 with w | ⟨host, w⟩
  · exact W.getf O.1 O.2.1 O.2.2.2.2.2.2.1 (O.2.2.2.2.2.1 _ w) hi hst q1 q3.2.1 hv rfl rfl hd kk'
  · exact va_Wgetf O.1 O.2.1 O.2.2.2.2.2.2.1 (va_Nw.use rfl (O.2.2.2.2.2.2.2.2.1.1 _ w)) hi hst q1 q3.2.1 hv rfl rfl hd kk'
theorem sw_put2 {idx ci N r kf : Nat} {f : Nat → Value} {v : Value} {C ref : String} {T : u_T} {ty : Nat → FieldType} (O : xx_O Y M l d) (hd : decode M.2.1 pc = .ok (.putfield idx, 3)) (K : xx_cl ci C T N ty) (F : xx_fl2 M.2.2.2.2.1 idx ref T kf) (hc : h r = some (ci, N, f)) (hk : kf < N) (h1 : 1000 ≤ r) (hfin : (T kf).2.2.2 = false) (hok : xx_ok (ty kf) v)
    {h2 : XH} (he : xx_up h r (ci, N, updV f kf v) = h2) (kk : SW Y k n h2 (pc + 3) ls st) : SW Y k n h pc ls (v :: .ref r :: st) := by
  subst he
  intro ρ ow H locs cells slots lsA r9
  obtain ⟨⟨cell, q1, q2, ⟨-, -, q3⟩, q4⟩, hS, hfc, kC, hkC, hkind⟩ := r9.obj O K hc
  have q3 := q3 h1
  have q4 := fun k hk => q4 k hk (fun q => absurd h1 (Nat.not_le.mpr q))
  have hKK := O.2.2.2.2.2.2.2.1
  have hcl : (xd_cl (xy_D Y))[ci]? = some (C, T, N) := by rw [hKK.1]; exact K.2.1
  have hap := va_apart (own := M.2.2.2.2.1) O.2.2.2.2.2.1 K.2.2.1 ty K.2.2.2.1 K.2.2.2.2 hKK.2.1.1 hcl
  obtain ⟨cf, kF, fi, fd, hi, hsl⟩ := hS kf hk
  have hlay := O.2.2.2.2.2.1 _ (K.2.2.1 _ (u_in_lay hk))
  unfold u_lay at hlay
  rw [if_neg (by rw [hfin]; decide)] at hlay
  have hst := (u_facts hfc hkC (u_lays O.2.2.2.2.2.1 K.2.2.1 hk) hi).1
  have h6 := u_store hfc hkC hkind hlay hi (K.2.2.2.1 kf hk) (hok ρ).1 (hok ρ).2
  have hlt : fd.slot < cell.slots.size := by rw [hsl]; exact k2_hasslot (q4 kf hk)
  have go : ∀ H' : Heap, H'[ρ r]? = some (cell.setSlot fd.slot (xx_v ρ v)) → H'.size = H.size → (∀ q, q ≠ ρ r → H'[q]? = H[q]?) → xx_W Y H' (locs ++ [⟨ρ r, fd.slot⟩]) cells slots (F0 (xt_m Y.1) (pc + 3) lsA (st.map (xx_v ρ))) := by
    intro H' e1 e2 e3
    refine kk ρ ow H' _ cells slots lsA (r9.put hc h1 e2 e3 (xx_put_cell hcl K.1 hk h1 hap q2 q3 q4 hsl e1) (fun j hj => ?_) (xx_ht (xx_ht r9.stk)))
    show xx_in h (updV f kf v j)
    unfold updV
    split
    · exact xx_h0 r9.stk
    · exact r9.1.2.2.2.2 r _ j hc hj
  have hi := F.found O hi
  rcases F.1 with w | ⟨host, w⟩
  · exact W.putK O.1 O.2.1 (f := fd) ⟨O.2.2.2.2.2.2.1, O.2.2.2.2.2.1 _ w, ⟨_, _, _, hi⟩, hst⟩ (by rw [q2]; exact h6) q1 q3 hlt rfl rfl hd go
  · exact va_WputK O.1 O.2.1 (f := fd) O.2.2.2.2.2.2.1 (va_Nw.use rfl (O.2.2.2.2.2.2.2.2.1.1 _ w)) hi hst (by rw [q2]; exact h6) q1 q3 hlt rfl rfl hd go
/-- a list is an object of its class -/
theorem xx_R.lrec {ls' st' : List Value} {ci N r n9 : Nat} {f : Nat → Value} {C : String} {T : u_T} {ty : Nat → FieldType} (r9 : xx_R Y k n h ls' st' ρ ow H locs cells slots lsA) (O : xx_O Y M l d) (K : xx_cl ci C T N ty) (hc : h r = some (200 + ci, n9, f)) :
    ∃ ea, t_OB (ρ r) ((xd_G (xy_D Y)).1 ci) 3 ((xd_G (xy_D Y)).2 ci) H (vp_V [.int (nI n9), .ref ea, .int (nI n9)]) ∧ u_Kn (xt_s Y.1) C T N ((xd_G (xy_D Y)).1 ci) ((xd_G (xy_D Y)).2 ci) := by
  have h1 := (r9.1.2.2.2.1 r _ hc).2
  have hci := K.1
  have hnew : 1000 ≤ r := Nat.not_lt.mp fun q => by
    have h2 := h1.1 q
    unfold xx_oldc at h2
    rw [if_neg (by show ¬ 200 + ci < 100; omega), if_neg (by show ¬ 200 + ci < 200; omega)] at h2
    exact h2 (by show 200 + ci < 300; omega)
  have h1 := h1.2 hnew
  unfold xx_newc at h1
  rw [if_neg (by show ¬ 200 + ci < 100; omega), if_neg (by show ¬ 200 + ci < 200; omega)] at h1
  obtain ⟨q, ea, cap, e1, e2, e3, -⟩ := h1 (by show 200 + ci < 300; omega)
  have hK := O.2.2.2.2.2.2.2.1
  have e4 : (xd_cl (xy_D Y))[ci]? = some (C, T, N) := by rw [hK.1]; exact K.2.1
  rw [show 200 + ci - 200 = ci by omega] at e3
  exact ⟨ea, e3, hK.2.1.1.1 ci _ e4⟩
theorem sw_getL {idx ci r n9 kf : Nat} {f : Nat → Value} {C ref : String} {T : u_T} {ty : Nat → FieldType} (O : xx_O Y M l d) (hd : decode M.2.1 pc = .ok (.getfield idx, 3)) (K : xx_cl ci C T 3 ty) (F : xx_fl2 M.2.2.2.2.1 idx ref T kf) (hc : h r = some (200 + ci, n9, f)) (hk : kf = 0 ∨ kf = 2)
    (kk : SW Y k n h (pc + 3) ls (.int (nI n9) :: st)) : SW Y k n h pc ls (.ref r :: st) := by
  intro ρ ow H locs cells slots lsA r9
  have hk3 : kf < 3 := by omega
  obtain ⟨ea, ⟨cell, q1, q2, q3, q4⟩, hS, hfc, kC, hkC, hkind⟩ := r9.lrec O K hc
  obtain ⟨cf, kF, fi, fd, hi, hsl⟩ := hS kf hk3
  have hst := (u_facts hfc hkC (u_lays O.2.2.2.2.2.1 K.2.2.1 hk3) hi).1
  have hv : cell.slots[fd.slot]? = some (.int (nI n9)) := by rw [hsl, q4 kf hk3]; rcases hk with rfl | rfl <;> rfl
  have kk' := kk ρ ow H locs cells slots lsA (r9.to (xx_hc (a := .int (nI n9)) trivial (xx_ht r9.stk)))
  have hi := F.found O hi
  rcases F.1 with w | ⟨host, w⟩
  · exact W.getf O.1 O.2.1 O.2.2.2.2.2.2.1 (O.2.2.2.2.2.1 _ w) hi hst q1 (by rw [q3]; exact fun h => by cases h) hv rfl rfl hd kk'
  · exact va_Wgetf O.1 O.2.1 O.2.2.2.2.2.2.1 (va_Nw.use rfl (O.2.2.2.2.2.2.2.2.1.1 _ w)) hi hst q1 (by rw [q3]; exact fun h => by cases h) hv rfl rfl hd kk'
theorem sw_callVL {M' : XM} {d' k' n' idx ci N b n9 : Nat} {f : Nat → Value} {C : String} {T : u_T} {ty : Nat → FieldType} {as stk : List Value} {v : Option Value} {h2 : XH} (O : xx_O Y M l d) (hM : XEx l M' d' k' n' (.ref b :: as) h v h2) (E : xx_ce M') (hl : xx_ml M.2.2.2.2.1 idx M'.1) (hsel : Cond.instanceMethod M'.1 ∈ xx_gws ∧ Cond.selects M'.1.cls M'.1 M'.1 ∈ xx_gws)
    (K : xx_cl ci C T N ty) (hC : C = M'.1.cls) (hb : h b = some (200 + ci, n9, f)) (hd : decode M.2.1 pc = .ok (.invokevirtual idx, 3)) (hdd : d' + 1 ≤ d) (hn : as.length = M'.2.2.2.2.2) (hs : stk = as.reverse ++ .ref b :: st) (hc : (st.map fun v => v.category).sum ≤ 8)
    {st2 : List Value} (h2s : v.toList ++ st = st2) (kk : SW Y k n h2 (pc + 3) ls st2) : SW Y (k + k') (n + n') h pc ls stk := by
  subst hs
  intro ρ ow H locs cells slots lsA r9
  obtain ⟨ea, ⟨cell, q1, q2, q3, q4⟩, hS, hfc, -⟩ := r9.lrec O K hb
  have hst : ∀ v ∈ st, xx_in h v := fun v hv => r9.stk v (List.mem_append_right _ (List.mem_cons_of_mem _ hv))
  have has : ∀ v ∈ (Value.ref b :: as), xx_in h v := fun v hv => by
    rcases List.mem_cons.mp hv with rfl | hv
    · exact r9.stk _ (List.mem_append_right _ List.mem_cons_self)
    · exact r9.stk v (List.mem_append_left _ (List.mem_reverse.mpr hv))
  have S : CallFix (xt_p Y.1) (xt_m Y.1) (xt_c Y.1) M.2.1 (xt_c Y.1).maxLocals (xt_s Y.1) (xt_a Y.1) xx_gws M.2.2.2.2.1 := ⟨O.1, O.2.1, rfl, O.2.2.2.2.2.2.1, O.2.2.2.2.2.1⟩
  have hM' := hM (xy_D Y) ρ ow
  rw [← O.2.2.2.2.2.2.2.2.2.2.2.1] at hM'
  have hp : PreV (xt_s Y.1) H M'.1.cls (ρ b) (xx_Pc (xy_D Y) ρ ow h (.ref b :: as)) (as.map (xx_v ρ)) := ⟨xx_blind, ⟨cell, q1, by rw [q3]; rfl, by rw [q2, ← hC]; exact hfc⟩, fun U hU hW => ⟨rfl, xx_K.moved hW.alike O.2.2.2.2.2.2.2.1, xx_N.warm hW O.2.2.2.2.2.2.2.2.1, by rw [hU]; exact r9.1, has⟩⟩
  have hw := O.2.2.2.2.2.1
  refine xx_run (Q' := fun o g => o = .inl v ∧ g = h2) O r9 hst (a := (Value.ref (ρ b) :: as.map (xx_v ρ)).toArray) ?_ (fun v' h' q _ => by obtain ⟨e1, rfl⟩ := q; cases e1; rw [h2s]; exact kk) (fun E h' q => by obtain ⟨e1, -⟩ := q; cases e1)
  rcases hl with hl | ⟨host, hl⟩
  · exact vx_runV S hM' ⟨xx_callB O E hdd hl, hw _ hsel.1, hw _ hsel.2⟩ hp rfl (by rw [List.length_map]; exact hn) r9.L.1 xx_stk (lv_room (by rw [xx_cats]; exact hc)) hd (by have := r9.2.2.2.1; have := r9.2.2.2.2.1; omega)
  · exact vx_runVN S hM' ⟨xx_callN O E hdd hl, hw _ hsel.1, hw _ hsel.2⟩ hp rfl (by rw [List.length_map]; exact hn) r9.L.1 xx_stk (lv_room (by rw [xx_cats]; exact hc)) hd (by have := r9.2.2.2.1; have := r9.2.2.2.2.1; omega)
end
end
section
/-! ===== fields of the JDK, inherited ones too ===== -/
theorem ct_J2_20 : Cond.constant RJ2 20 (1073741823 : Int32) ∈ xx_gws := (gv_J _ (List.mem_of_getElem? (i := 24) rfl))
theorem f2_J5_15 : xx_fl2 RJ5 15 "java/lang/AbstractStringBuilder" TJ4 0 := ⟨Or.inl (gv_J _ (List.mem_of_getElem? (i := 25) rfl)), Or.inl rfl⟩
theorem f2_J5_22 : xx_fl2 RJ5 22 "java/lang/AbstractStringBuilder" TJ4 1 := ⟨Or.inl (gv_J _ (List.mem_of_getElem? (i := 26) rfl)), Or.inl rfl⟩
theorem f2_J5_73 : xx_fl2 RJ5 73 "java/lang/AbstractStringBuilder" TJ4 2 := ⟨Or.inl (gv_J _ (List.mem_of_getElem? (i := 27) rfl)), Or.inl rfl⟩
theorem f2_J0_1048 : xx_fl2 RJ0 1048 "java/lang/AbstractStringBuilder" TJ4 2 := ⟨Or.inl (gv_J _ (List.mem_of_getElem? (i := 28) rfl)), Or.inl rfl⟩
theorem f2_J5_79 : xx_fl2 RJ5 79 "java/lang/AbstractStringBuilder" TJ4 3 := ⟨Or.inl (gv_J _ (List.mem_of_getElem? (i := 29) rfl)), Or.inl rfl⟩
theorem ct_J8_200 : Cond.constant RJ8 200 (2147483639 : Int32) ∈ xx_gws := (gv_J _ (List.mem_of_getElem? (i := 43) rfl))
theorem ct_J5_39 : Cond.constant RJ5 39 (2147483647 : Int32) ∈ xx_gws := (gv_J _ (List.mem_of_getElem? (i := 45) rfl))
theorem f2_Jx35411_28 : xx_fl2 RJx35411 28 "java/util/ArrayList" TJx4a65c 2 := ⟨Or.inr ⟨"java/util/ArrayList", xx_nl_ok _ (List.mem_of_getElem? (i := 7) rfl)⟩, Or.inl rfl⟩
theorem f2_Jxc12de_7 : xx_fl2 RJxc12de 7 "java/util/AbstractList" TJx4a65c 0 := ⟨Or.inl (gv_J _ (List.mem_of_getElem? (i := 146) rfl)), Or.inl rfl⟩
theorem f2_Jx35411_17 : xx_fl2 RJx35411 17 "java/util/ArrayList" TJx4a65c 0 := ⟨Or.inl (gv_J _ (List.mem_of_getElem? (i := 147) rfl)), Or.inr (gv_J _ (List.mem_of_getElem? (i := 148) rfl))⟩
theorem f2_Jx4a65c_63 : xx_fl2 RJx4a65c 63 "java/util/ArrayList" TJx4a65c 0 := ⟨Or.inl (gv_J _ (List.mem_of_getElem? (i := 149) rfl)), Or.inr (gv_J _ (List.mem_of_getElem? (i := 148) rfl))⟩
theorem gcw_sel : Cond.selects "[Ljava/lang/Object;" ⟨"java/lang/Object", "getClass", "()Ljava/lang/Class;"⟩ ⟨"java/lang/Object", "getClass", "()Ljava/lang/Class;"⟩ ∈ xx_gws := (gv_J _ (List.mem_of_getElem? (i := 207) rfl))
theorem gcw_ins : Cond.instanceMethod ⟨"java/lang/Object", "getClass", "()Ljava/lang/Class;"⟩ ∈ xx_gws := (gv_J _ (List.mem_of_getElem? (i := 157) rfl))
theorem gcw_nat : Cond.native ⟨"java/lang/Object", "getClass", "()Ljava/lang/Class;"⟩ ∈ xx_gws := (gv_J _ (List.mem_of_getElem? (i := 158) rfl))
theorem gcw_dec : Cond.declares ⟨"java/lang/Object", "getClass", "()Ljava/lang/Class;"⟩ ∈ xx_nws := xx_dcl_ok _ (List.mem_of_getElem? (i := 4) rfl)
end
section
/-! ===== lists ===== -/
theorem ct_AL_size {l : Launch} {h : XH} (hl : l.stackTraces = false) {r n : Nat} {f : Nat → Value} (hc : h r = some (206, n, f))  : XEx l m_Jx4a65c_size_8abf5 0 0 0 [.ref r] (h) (some (.int (nI n))) (h) := by
  refine XMet.of hl rfl rfl (Nat.le_of_ble_eq_true rfl) (fun Y O hh hQ => ?_)
  show SW Y 0 0 (h) 0 [.ref r] []
  refine sw_aload_n O (xx_dt dd_Jx4a65c_size_8abf5 0 rfl) rfl ?_
  refine sw_getL (ci := 6) O (xx_dt dd_Jx4a65c_size_8abf5 1 rfl) cl_Jx4a65c ⟨fl_Jx4a65c_48.1, .inl fl_Jx4a65c_48.2⟩ hc (.inr rfl) ?_
  exact sw_iret O (xx_dt dd_Jx4a65c_size_8abf5 2 rfl) rfl rfl (by rw [hQ]; exact ⟨rfl, rfl⟩)
theorem nI_zero {n : Nat} (hn : n < 2147483648) (e : nI n = 0) : n = 0 := by
  have := congrArg cn e
  rw [cn_nI hn] at this
  exact this
theorem ct_AL_isEmpty {l : Launch} {h : XH} (hl : l.stackTraces = false) {r n : Nat} {f : Nat → Value} (hc : h r = some (206, n, f)) (hn : n < 2147483648)  : XEx l m_Jx4a65c_isEmpty_aae02 0 0 0 [.ref r] (h) (some (.int (if n = 0 then 1 else 0))) (h) := by
  refine XMet.of hl rfl rfl (Nat.le_of_ble_eq_true rfl) (fun Y O hh hQ => ?_)
  show SW Y 0 0 (h) 0 [.ref r] []
  refine sw_aload_n O (xx_dt dd_Jx4a65c_isEmpty_aae02 0 rfl) rfl ?_
  refine sw_getL (ci := 6) O (xx_dt dd_Jx4a65c_isEmpty_aae02 1 rfl) cl_Jx4a65c ⟨fl_Jx4a65c_48.1, .inl fl_Jx4a65c_48.2⟩ hc (.inr rfl) ?_
  refine sw_if_ne (tgt := 11) O (xx_dt dd_Jx4a65c_isEmpty_aae02 2 rfl) (by decide) (fun q => ?_) (fun q => ?_)
  · refine sw_iconst (x := 0) O (xx_dt dd_Jx4a65c_isEmpty_aae02 5 rfl) (by decide) ?_
    exact sw_iret O (xx_dt dd_Jx4a65c_isEmpty_aae02 6 rfl) rfl rfl (by rw [hQ]; exact ⟨by rw [if_neg (fun e => q (by rw [e]; rfl))], rfl⟩)
  · refine sw_iconst (x := 1) O (xx_dt dd_Jx4a65c_isEmpty_aae02 3 rfl) (by decide) ?_
    refine sw_goto (tgt := 12) O (xx_dt dd_Jx4a65c_isEmpty_aae02 4 rfl) (by decide) ?_
    exact sw_iret O (xx_dt dd_Jx4a65c_isEmpty_aae02 6 rfl) rfl rfl (by rw [hQ]; exact ⟨by rw [if_pos (nI_zero hn q)], rfl⟩)
theorem ct_checkIndex3 {l : Launch} {h : XH} (hl : l.stackTraces = false) {i n : Nat} (hi : i < n) (hn : n < 2147483648) : XEx l m_J3_checkIndex_8e157 0 0 0 [.int (nI i), .int (nI n), .null] (h) (some (.int (nI i))) (h) := by
  refine XMet.of hl rfl rfl (Nat.le_of_ble_eq_true rfl) (fun Y O hh hQ => ?_)
  show SW Y 0 0 (h) 0 [.int (nI i), .int (nI n), .null] []
  refine sw_iload_n O (xx_dt dd_J3_checkIndex_8e157 0 rfl) rfl ?_
  refine sw_if_lt (tgt := 9) O (xx_dt dd_J3_checkIndex_8e157 1 rfl) (by decide) (fun q => absurd q (Int32.not_lt.mpr ((nI_leI (a := 0) (b := i) (by omega) (by omega)).mpr (Nat.zero_le _)))) (fun q => ?_)
  refine sw_iload_n O (xx_dt dd_J3_checkIndex_8e157 2 rfl) rfl ?_
  refine sw_iload_n O (xx_dt dd_J3_checkIndex_8e157 3 rfl) rfl ?_
  refine sw_icmp_lt (tgt := 16) O (xx_dt dd_J3_checkIndex_8e157 4 rfl) (by decide) (fun q => ?_) (fun q => absurd ((nI_ltI (a := i) (b := n) (by omega) (by omega)).mpr hi) q)
  refine sw_iload_n O (xx_dt dd_J3_checkIndex_8e157 10 rfl) rfl ?_
  exact sw_iret O (xx_dt dd_J3_checkIndex_8e157 11 rfl) rfl rfl (by rw [hQ]; exact ⟨rfl, rfl⟩)
theorem ct_checkIndex2 {l : Launch} {h : XH} (hl : l.stackTraces = false) {i n : Nat} (hi : i < n) (hn : n < 2147483648) : XEx l m_J15_checkIndex_7cf53 1 0 0 [.int (nI i), .int (nI n)] (h) (some (.int (nI i))) (h) := by
  refine XMet.of hl rfl rfl (Nat.le_of_ble_eq_true rfl) (fun Y O hh hQ => ?_)
  show SW Y 0 0 (h) 0 [.int (nI i), .int (nI n)] []
  refine sw_iload_n O (xx_dt dd_J15_checkIndex_7cf53 0 rfl) rfl ?_
  refine sw_iload_n O (xx_dt dd_J15_checkIndex_7cf53 1 rfl) rfl ?_
  refine sw_null O (xx_dt dd_J15_checkIndex_7cf53 2 rfl) ?_
  refine sw_callSx (as := [.int (nI i), .int (nI n), .null]) (st := []) (st2 := [.int (nI i)]) O (ct_checkIndex3 hl hi hn) ce_J3_checkIndex_8e157 ml_J15_105 st_J3_checkIndex_8e157 (xx_dt dd_J15_checkIndex_7cf53 3 rfl) (by decide) rfl rfl (Nat.le_of_ble_eq_true rfl) rfl ?_
  exact sw_iret O (xx_dt dd_J15_checkIndex_7cf53 4 rfl) rfl rfl (by rw [hQ]; exact ⟨rfl, rfl⟩)
theorem xx_up_self {h : XH} {r : Nat} {c : XC} (e : h r = some c) : xx_up h r c = h := by
  funext q
  unfold xx_up
  split
  · rename_i z; rw [z, e]
  · rfl
theorem xx_up_up {h : XH} {r : Nat} {c c2 : XC} : xx_up (xx_up h r c) r c2 = xx_up h r c2 := by
  funext q
  unfold xx_up
  split <;> rfl
theorem xx_obO.up {h : XH} {r x : Nat} {c : XC} (hx : xx_obO h x) (e : x ≠ r) : xx_obO (xx_up h r c) x := by
  unfold xx_obO
  rw [xx_up_ne e]
  exact hx
theorem xx_obO.nl {h : XH} {r x ci n : Nat} {f : Nat → Value} (hx : xx_obO h x) (hr : h r = some (200 + ci, n, f)) : x ≠ r := by
  intro e
  subst e
  rcases hx with ⟨ci2, N, f2, C, T, ty, K, hc, -⟩ | ⟨N, f2, hc, -⟩
  · rw [hr] at hc
    cases hc
    have := K.1
    omega
  · rw [hr] at hc
    injection hc with hc
    injection hc with hc _
    omega
theorem xx_obO.nn {h : XH} {r x : Nat} (hx : xx_obO h x) (hr : h r = none) : x ≠ r := by
  intro e
  subst e
  rcases hx with ⟨ci2, N, f2, C, T, ty, K, hc, -⟩ | ⟨N, f2, hc, -⟩ <;> rw [hr] at hc <;> cases hc
theorem xx_obO.is {h : XH} {x : Nat} (hx : xx_obO h x) : (h x).isSome = true := by
  rcases hx with ⟨ci2, N, f2, C, T, ty, K, hc, -⟩ | ⟨N, f2, hc, -⟩ <;> rw [hc] <;> rfl
theorem ct_AL_elementData {l : Launch} {h : XH} (hl : l.stackTraces = false) {r n : Nat} {f : Nat → Value} (hc : h r = some (206, n, f)) {e : Nat} (he : h e = none) (h9 : 1000 ≤ e) (h1 : 1000 ≤ r) {f0 : Nat → Value} (h0 : h 0 = some (104, 0, f0)) {i x : Nat} (hi : i < n) (hx : f i = .ref x) : XEx l m_Jx4a65c_elementData_915e3 0 0 0 [.ref r, .int (nI i)] (h) (some (.ref x)) (h) := by
  refine XMet.of hl rfl rfl (Nat.le_of_ble_eq_true rfl) (fun Y O hh hQ => ?_)
  have hre : r ≠ e := fun q => by rw [q, he] at hc; cases hc
  refine sw_cls (fun hcl => ?_)
  have hxi : (h x).isSome = true := by have := hcl r _ i hc hi; rw [show (206, n, f).2.2 i = f i from rfl, hx] at this; exact this
  show SW Y 0 0 (h) 0 [.ref r, .int (nI i)] []
  refine sw_explode (ci := 6) (by decide) hc h1 he h9 h0 (fun cap hcap => ?_) (fun e0 => absurd hi (by omega))
  refine sw_aload_n O (xx_dt dd_Jx4a65c_elementData_915e3 0 rfl) rfl ?_
  refine sw_get2 (v := .ref e) O (xx_dt dd_Jx4a65c_elementData_915e3 1 rfl) cl_Jx4a65c ⟨fl_Jx4a65c_9.1, .inl fl_Jx4a65c_9.2⟩ (by rw [xx_up_ne hre, xx_up_eq]) (by decide) rfl ?_
  refine sw_iload_n O (xx_dt dd_Jx4a65c_elementData_915e3 2 rfl) rfl ?_
  refine sw_aaload (v := .ref x) O (xx_dt dd_Jx4a65c_elementData_915e3 3 rfl) (by omega) (by omega) (xx_up_eq _ _ _) (pk_in i cap (by omega)) (by rw [nI_clamp (by omega), if_pos hi]; exact hx) ?_
  refine sw_implode (hb := h) (r := r) (e := e) (n9 := n) (cap := cap) (ci := 6) (f := f) (g := fun j => if j < n then f j else .null) (by decide) hcl he h1 h9 hre (by rw [hc]; rfl) (fun j hj => ?_) (fun j hj => ?_) hcap (by rw [hh, he]; rfl) (List.forall_mem_cons.mpr ⟨(show (h r).isSome = true from (by rw [hc]; rfl)), (List.forall_mem_cons.mpr ⟨trivial, (fun _ h => absurd h List.not_mem_nil)⟩)⟩) (List.forall_mem_cons.mpr ⟨(show (h x).isSome = true from hxi), (fun _ h => absurd h List.not_mem_nil)⟩) ?_
  · rfl
  · exact hcl r _ j hc hj
  rw [xx_up_self hc]
  exact sw_aret O (xx_dt dd_Jx4a65c_elementData_915e3 4 rfl) rfl (.inl ⟨_, rfl⟩) (by rw [hQ]; exact ⟨rfl, rfl⟩)
theorem ct_AL_get {l : Launch} {h : XH} (hl : l.stackTraces = false) {r n : Nat} {f : Nat → Value} (hc : h r = some (206, n, f)) {e : Nat} (he : h e = none) (h9 : 1000 ≤ e) (h1 : 1000 ≤ r) {f0 : Nat → Value} (h0 : h 0 = some (104, 0, f0)) {i x : Nat} (hi : i < n) (hn : n < 2147483648) (hx : f i = .ref x) : XEx l m_Jx4a65c_get_915e3 2 0 0 [.ref r, .int (nI i)] (h) (some (.ref x)) (h) := by
  refine XMet.of hl rfl rfl (Nat.le_of_ble_eq_true rfl) (fun Y O hh hQ => ?_)
  show SW Y 0 0 (h) 0 [.ref r, .int (nI i)] []
  refine sw_iload_n O (xx_dt dd_Jx4a65c_get_915e3 0 rfl) rfl ?_
  refine sw_aload_n O (xx_dt dd_Jx4a65c_get_915e3 1 rfl) rfl ?_
  refine sw_getL (ci := 6) O (xx_dt dd_Jx4a65c_get_915e3 2 rfl) cl_Jx4a65c ⟨fl_Jx4a65c_48.1, .inl fl_Jx4a65c_48.2⟩ hc (.inr rfl) ?_
  refine sw_callSx (as := [.int (nI i), .int (nI n)]) (st := []) (st2 := [.int (nI i)]) O (ct_checkIndex2 hl hi hn) ce_J15_checkIndex_7cf53 ml_Jx4a65c_118 st_J15_checkIndex_7cf53 (xx_dt dd_Jx4a65c_get_915e3 3 rfl) (by decide) rfl rfl (Nat.le_of_ble_eq_true rfl) rfl ?_
  refine sw_pop O (xx_dt dd_Jx4a65c_get_915e3 4 rfl) rfl ?_
  refine sw_aload_n O (xx_dt dd_Jx4a65c_get_915e3 5 rfl) rfl ?_
  refine sw_iload_n O (xx_dt dd_Jx4a65c_get_915e3 6 rfl) rfl ?_
  refine sw_callVL (ci := 6) (as := [.int (nI i)]) (st := []) (st2 := [.ref x]) O (ct_AL_elementData hl hc he h9 h1 h0 hi hx) ce_Jx4a65c_elementData_915e3 ml_Jx4a65c_123 iv_Jx4a65c_elementData_915e3 cl_Jx4a65c rfl (hc) (xx_dt dd_Jx4a65c_get_915e3 7 rfl) (by decide) rfl rfl (Nat.le_of_ble_eq_true rfl) rfl ?_
  exact sw_aret O (xx_dt dd_Jx4a65c_get_915e3 8 rfl) rfl (.inl ⟨_, rfl⟩) (by rw [hQ]; exact ⟨rfl, rfl⟩)
theorem ct_AL_set {l : Launch} {h : XH} (hl : l.stackTraces = false) {r n : Nat} {f : Nat → Value} (hc : h r = some (206, n, f)) {e : Nat} (he : h e = none) (h9 : 1000 ≤ e) (h1 : 1000 ≤ r) {f0 : Nat → Value} (h0 : h 0 = some (104, 0, f0)) {i x y : Nat} (hi : i < n) (hn : n < 2147483648) (hx : f i = .ref x) (hy : xx_obO h y) : XEx l m_Jx4a65c_set_bcc79 2 0 0 [.ref r, .int (nI i), .ref y] (h) (some (.ref x)) (xx_up h r (206, n, updV f i (.ref y))) := by
  refine XMet.of hl rfl rfl (Nat.le_of_ble_eq_true rfl) (fun Y O hh hQ => ?_)
  have hre : r ≠ e := fun q => by rw [q, he] at hc; cases hc
  refine sw_cls (fun hcl => ?_)
  have hxi : (h x).isSome = true := by have := hcl r _ i hc hi; rw [show (206, n, f).2.2 i = f i from rfl, hx] at this; exact this
  show SW Y 0 0 (h) 0 [.ref r, .int (nI i), .ref y, xx_d] []
  refine sw_iload_n O (xx_dt dd_Jx4a65c_set_bcc79 0 rfl) rfl ?_
  refine sw_aload_n O (xx_dt dd_Jx4a65c_set_bcc79 1 rfl) rfl ?_
  refine sw_getL (ci := 6) O (xx_dt dd_Jx4a65c_set_bcc79 2 rfl) cl_Jx4a65c ⟨fl_Jx4a65c_48.1, .inl fl_Jx4a65c_48.2⟩ hc (.inr rfl) ?_
  refine sw_callSx (as := [.int (nI i), .int (nI n)]) (st := []) (st2 := [.int (nI i)]) O (ct_checkIndex2 hl hi hn) ce_J15_checkIndex_7cf53 ml_Jx4a65c_118 st_J15_checkIndex_7cf53 (xx_dt dd_Jx4a65c_set_bcc79 3 rfl) (by decide) rfl rfl (Nat.le_of_ble_eq_true rfl) rfl ?_
  refine sw_pop O (xx_dt dd_Jx4a65c_set_bcc79 4 rfl) rfl ?_
  refine sw_aload_n O (xx_dt dd_Jx4a65c_set_bcc79 5 rfl) rfl ?_
  refine sw_iload_n O (xx_dt dd_Jx4a65c_set_bcc79 6 rfl) rfl ?_
  refine sw_callVL (ci := 6) (as := [.int (nI i)]) (st := []) (st2 := [.ref x]) O (ct_AL_elementData hl hc he h9 h1 h0 hi hx) ce_Jx4a65c_elementData_915e3 ml_Jx4a65c_123 iv_Jx4a65c_elementData_915e3 cl_Jx4a65c rfl (hc) (xx_dt dd_Jx4a65c_set_bcc79 7 rfl) (by decide) rfl rfl (Nat.le_of_ble_eq_true rfl) rfl ?_
  refine sw_astore_n (ls2 := [.ref r, .int (nI i), .ref y, .ref x]) O (xx_dt dd_Jx4a65c_set_bcc79 8 rfl) (by decide) rfl ?_
  refine sw_explode (ci := 6) (by decide) hc h1 he h9 h0 (fun cap hcap => ?_) (fun e0 => absurd hi (by omega))
  refine sw_aload_n O (xx_dt dd_Jx4a65c_set_bcc79 9 rfl) rfl ?_
  refine sw_get2 (v := .ref e) O (xx_dt dd_Jx4a65c_set_bcc79 10 rfl) cl_Jx4a65c ⟨fl_Jx4a65c_9.1, .inl fl_Jx4a65c_9.2⟩ (by rw [xx_up_ne hre, xx_up_eq]) (by decide) rfl ?_
  refine sw_iload_n O (xx_dt dd_Jx4a65c_set_bcc79 11 rfl) rfl ?_
  refine sw_aload_n O (xx_dt dd_Jx4a65c_set_bcc79 12 rfl) rfl ?_
  refine sw_aastore O (xx_dt dd_Jx4a65c_set_bcc79 13 rfl) (xx_up_eq _ _ _) (pk_in i cap (by omega)) h9 ((hy.up (hy.nl (ci := 6) hc)).up (hy.nn he)) rfl ?_
  rw [nI_clamp (by omega), xx_up_up]
  refine sw_implode (hb := h) (r := r) (e := e) (n9 := n) (cap := cap) (ci := 6) (f := updV f i (.ref y)) (g := updV (fun j => if j < n then f j else .null) i (.ref y)) (by decide) hcl he h1 h9 hre (by rw [hc]; rfl) (fun j hj => ?_) (fun j hj => ?_) hcap (by rw [hh, he]; rfl) (List.forall_mem_cons.mpr ⟨(show (h r).isSome = true from (by rw [hc]; rfl)), (List.forall_mem_cons.mpr ⟨trivial, (List.forall_mem_cons.mpr ⟨(show (h y).isSome = true from hy.is), (List.forall_mem_cons.mpr ⟨(show (h x).isSome = true from hxi), (fun _ h => absurd h List.not_mem_nil)⟩)⟩)⟩)⟩) (fun _ h => absurd h List.not_mem_nil) ?_
  · unfold updV
    by_cases q : j = i
    · rw [if_pos q, if_pos q, if_pos (by omega)]
    · rw [if_neg q, if_neg q]
  · unfold updV
    split
    · exact hy.is
    · exact hcl r _ j hc hj
  refine sw_aload_n O (xx_dt dd_Jx4a65c_set_bcc79 14 rfl) rfl ?_
  exact sw_aret O (xx_dt dd_Jx4a65c_set_bcc79 15 rfl) rfl (.inl ⟨_, rfl⟩) (by rw [hQ]; exact ⟨rfl, rfl⟩)
end
section
/-! ===== lists that grow ===== -/
theorem xx_blk_up {h : XH} {r : Nat} {c : Nat → XC} : xx_blk h r 1 c = xx_up h r (c 0) := by
  funext q
  unfold xx_blk xx_up
  by_cases e : q = r
  · rw [if_pos (by omega), if_pos e, show q - r = 0 by omega]
  · rw [if_neg (by omega), if_neg e]
theorem xx_up_sw {h : XH} {r e : Nat} {c c2 : XC} (q : r ≠ e) : xx_up (xx_up h r c) e c2 = xx_up (xx_up h e c2) r c := by
  funext z
  unfold xx_up
  by_cases e1 : z = e
  · rw [if_pos e1, if_neg (fun e2 => q (by rw [← e2, e1])), if_pos e1]
  · rw [if_neg e1]
    split <;> rfl
theorem half_nat {n : Nat} (hn : n < 1048576) : nI n >>> ((1 : Int32) &&& 31) = nI (n / 2) := (pk_shrN (by omega) ((1 : Int32) &&& 31) 1 (by decide)).trans (by rw [Nat.pow_one])
theorem ct_newLength0 {l : Launch} {h : XH} (hl : l.stackTraces = false) {n : Nat} (hn : n < 1048576)  : XEx l m_J8_newLength_cabcc 1 0 0 [.int (nI n), .int (nI 1), .int (nI (n / 2))] (h) (some (.int (nI (n + max 1 (n / 2))))) (h) := by
  refine XMet.of hl rfl rfl (Nat.le_of_ble_eq_true rfl) (fun Y O hh hQ => ?_)
  show SW Y 0 0 (h) 0 [.int (nI n), .int (nI 1), .int (nI (n / 2)), xx_d] []
  refine sw_iload_n O (xx_dt dd_J8_newLength_cabcc 0 rfl) rfl ?_
  refine sw_iload_n O (xx_dt dd_J8_newLength_cabcc 1 rfl) rfl ?_
  refine sw_iload_n O (xx_dt dd_J8_newLength_cabcc 2 rfl) rfl ?_
  refine sw_max (x := nI 1) (y := nI (n / 2)) O mm_J8_194 (xx_dt dd_J8_newLength_cabcc 3 rfl) (by omega) (Nat.le_of_ble_eq_true rfl) ?_
  rw [max_nat (a := 1) (b := n / 2) (by omega) (by omega)]
  refine sw_iadd O (xx_dt dd_J8_newLength_cabcc 4 rfl) ?_
  rw [nI_plus]
  refine sw_istore_n (ls2 := [.int (nI n), .int (nI 1), .int (nI (n / 2)), .int (nI (n + max 1 (n / 2)))]) O (xx_dt dd_J8_newLength_cabcc 5 rfl) (by decide) rfl ?_
  refine sw_iconst (x := 0) O (xx_dt dd_J8_newLength_cabcc 6 rfl) (by decide) ?_
  refine sw_iload_n O (xx_dt dd_J8_newLength_cabcc 7 rfl) rfl ?_
  refine sw_icmp_ge (tgt := 21) O (xx_dt dd_J8_newLength_cabcc 8 rfl) (by decide) (fun q => absurd ((nI_leI (a := n + max 1 (n / 2)) (b := 0) (by omega) (by omega)).mp q) (by omega)) (fun q => ?_)
  refine sw_iload_n O (xx_dt dd_J8_newLength_cabcc 9 rfl) rfl ?_
  refine sw_ldc O ct_J8_200 (xx_dt dd_J8_newLength_cabcc 10 rfl) ?_
  refine sw_icmp_gt (tgt := 21) O (xx_dt dd_J8_newLength_cabcc 11 rfl) (by decide) (fun q => absurd ((nI_ltI (a := 2147483639) (b := n + max 1 (n / 2)) (by omega) (by omega)).mp q) (by omega)) (fun q => ?_)
  refine sw_iload_n O (xx_dt dd_J8_newLength_cabcc 12 rfl) rfl ?_
  exact sw_iret O (xx_dt dd_J8_newLength_cabcc 13 rfl) rfl rfl (by rw [hQ]; exact ⟨rfl, rfl⟩)
theorem ct_copyOf6 {l : Launch} {h : XH} (hl : l.stackTraces = false) {a e2 N m : Nat} {g : Nat → Value} {c3 : XC} (ha : h a = some (104, N, g)) (hN : N ≤ m) (hm : m < 2097152) (he2 : h e2 = none) (h92 : 1000 ≤ e2) (h3 : h 3 = some c3) (hel : ∀ j, j < N → g j = .null ∨ ∃ x, g j = .ref x ∧ xx_obO h x) (hs0 : 1000 ≤ a := by omega) : XEx l m_J7_copyOf_6403c 1 1 m [.ref a, .int (nI m), .ref 3] (h) (some (.ref e2)) (xx_up h e2 (104, m, fun j => if j < N then g j else .null)) := by
  refine XMet.of hl rfl rfl (Nat.le_of_ble_eq_true rfl) (fun Y O hh hQ => ?_)
  have hae : a ≠ e2 := fun q => by rw [q, he2] at ha; cases ha
  show SW Y 1 m (h) 0 [.ref a, .int (nI m), .ref 3, xx_d] []
  refine sw_aload_n O (xx_dt dd_J7_copyOf_6403c 0 rfl) rfl ?_
  refine sw_ldcM O (xx_dt dd_J7_copyOf_6403c 1 rfl) cw_J7_110 h3 ?_
  refine sw_acmp_neS (tgt := 13) O (xx_dt dd_J7_copyOf_6403c 2 rfl) (by decide) ?_
  refine sw_iload_n O (xx_dt dd_J7_copyOf_6403c 3 rfl) rfl ?_
  refine xx_wid (k' := 0 + 1) (n' := 0 + m) (by omega) (by omega) (sw_anew (N := m) (r := e2) O (xx_dt dd_J7_copyOf_6403c 4 rfl) cw_J7_2 (fun q => absurd q (Int32.not_lt.mpr ((nI_leI (a := 0) (b := m) (by omega) (by omega)).mpr (Nat.zero_le _)))) (nI_clamp (by omega)) (by omega) he2 h92 ?_)
  rw [xx_blk_up]
  refine sw_goto (tgt := 24) O (xx_dt dd_J7_copyOf_6403c 5 rfl) (by decide) ?_
  refine sw_astore_n (ls2 := [.ref a, .int (nI m), .ref 3, .ref e2]) O (xx_dt dd_J7_copyOf_6403c 11 rfl) (by decide) rfl ?_
  refine sw_aload_n O (xx_dt dd_J7_copyOf_6403c 12 rfl) rfl ?_
  refine sw_iconst (x := 0) O (xx_dt dd_J7_copyOf_6403c 13 rfl) (by decide) ?_
  refine sw_aload_n O (xx_dt dd_J7_copyOf_6403c 14 rfl) rfl ?_
  refine sw_iconst (x := 0) O (xx_dt dd_J7_copyOf_6403c 15 rfl) (by decide) ?_
  refine sw_aload_n O (xx_dt dd_J7_copyOf_6403c 16 rfl) rfl ?_
  refine sw_alen (t := 104) O (xx_dt dd_J7_copyOf_6403c 17 rfl) (by omega) (by omega) (by rw [xx_up_ne hae]; exact ha) ?_
  refine sw_iload_n O (xx_dt dd_J7_copyOf_6403c 18 rfl) rfl ?_
  refine sw_min (st := [.int 0, .ref e2, .int 0, .ref a]) (x := nI N) (y := nI m) O mm_J7_304 (xx_dt dd_J7_copyOf_6403c 19 rfl) (by omega) (Nat.le_of_ble_eq_true rfl) ?_
  rw [if_neg (fun e => absurd ((nI_ltI (a := m) (b := N) (by omega) (by omega)).mp e) (by omega))]
  refine sw_copyR (h2' := xx_up h e2 (104, m, fun j => if j < N then g j else .null)) O ay_J7_150 (xx_dt dd_J7_copyOf_6403c 20 rfl) (by rw [xx_up_ne hae]; exact ha) (xx_up_eq _ _ _) h92 (fun q => absurd q (Int32.not_lt.mpr ((nI_leI (a := 0) (b := N) (by omega) (by omega)).mpr (Nat.zero_le _)))) (by rw [nI_clamp (by omega)]; omega) (by rw [nI_clamp (by omega)]; omega) (fun j hj => ?_) (by omega) (by decide +kernel) ?_ ?_
  · rw [nI_clamp (by omega)] at hj
    rcases hel j hj with e | ⟨x, e, hx⟩
    · exact .inl e
    · exact .inr ⟨x, e, hx.up (hx.nn he2)⟩
  · rw [xx_up_up, nI_clamp (by omega)]
  refine sw_aload_n O (xx_dt dd_J7_copyOf_6403c 21 rfl) rfl ?_
  exact sw_aret O (xx_dt dd_J7_copyOf_6403c 22 rfl) rfl (.inr ⟨_, rfl⟩) (by rw [hQ]; exact ⟨rfl, rfl⟩)
theorem ct_copyOf2 {l : Launch} {h : XH} (hl : l.stackTraces = false) {a e2 N m : Nat} {g : Nat → Value} {c3 : XC} (ha : h a = some (104, N, g)) (hN : N ≤ m) (hm : m < 2097152) (he2 : h e2 = none) (h92 : 1000 ≤ e2) (h3 : h 3 = some c3) (hel : ∀ j, j < N → g j = .null ∨ ∃ x, g j = .ref x ∧ xx_obO h x) (hs0 : 1000 ≤ a := by omega) : XEx l m_J7_copyOf_1904c 2 1 m [.ref a, .int (nI m)] (h) (some (.ref e2)) (xx_up h e2 (104, m, fun j => if j < N then g j else .null)) := by
  refine XMet.of hl rfl rfl (Nat.le_of_ble_eq_true rfl) (fun Y O hh hQ => ?_)
  show SW Y 1 m (h) 0 [.ref a, .int (nI m)] []
  refine sw_aload_n O (xx_dt dd_J7_copyOf_1904c 0 rfl) rfl ?_
  refine sw_iload_n O (xx_dt dd_J7_copyOf_1904c 1 rfl) rfl ?_
  refine sw_aload_n O (xx_dt dd_J7_copyOf_1904c 2 rfl) rfl ?_
  refine sw_getC O (xx_dt dd_J7_copyOf_1904c 3 rfl) gc_J7_86 ⟨gcw_dec, gcw_sel, gcw_ins, gcw_nat⟩ ha h3 (by omega) (Nat.le_of_ble_eq_true rfl) ?_
  refine xx_wid (k' := 0 + 1) (n' := 0 + m) (by omega) (by omega) (sw_callSx (as := [.ref a, .int (nI m), .ref 3]) (st := []) (st2 := [.ref e2]) O (ct_copyOf6 hl ha hN hm he2 h92 h3 hel) ce_J7_copyOf_6403c ml_J7_300 st_J7_copyOf_6403c (xx_dt dd_J7_copyOf_1904c 4 rfl) (by decide) rfl rfl (Nat.le_of_ble_eq_true rfl) rfl ?_)
  exact sw_aret O (xx_dt dd_J7_copyOf_1904c 5 rfl) rfl (.inr ⟨_, rfl⟩) (by rw [hQ]; exact ⟨rfl, rfl⟩)
theorem ct_growF {l : Launch} {h : XH} (hl : l.stackTraces = false) {r e e2 n : Nat} {F g : Nat → Value} {c3 : XC} (hr : h r = some (6, 3, F)) (hF : F 1 = .ref e) (h1 : 1000 ≤ r) (he : h e = some (104, n, g)) (hn : n < 1048576) (he2 : h e2 = none) (h92 : 1000 ≤ e2) (h3 : h 3 = some c3) (hel : ∀ j, j < n → g j = .null ∨ ∃ x, g j = .ref x ∧ xx_obO h x) (h0n : 0 < n) (hs0 : 1000 ≤ e := by omega) : XEx l m_Jx4a65c_grow_92f84 3 1 (n + max 1 (n / 2)) [.ref r, .int (nI (n + 1))] (h) (some (.ref e2)) (xx_up (xx_up h e2 (104, (n + max 1 (n / 2)), fun j => if j < n then g j else .null)) r (6, 3, updV F 1 (.ref e2))) := by
  refine XMet.of hl rfl rfl (Nat.le_of_ble_eq_true rfl) (fun Y O hh hQ => ?_)
  show SW Y 1 (n + max 1 (n / 2)) (h) 0 [.ref r, .int (nI (n + 1)), xx_d, xx_d] []
  refine sw_aload_n O (xx_dt dd_Jx4a65c_grow_92f84 0 rfl) rfl ?_
  refine sw_get2 (v := .ref e) O (xx_dt dd_Jx4a65c_grow_92f84 1 rfl) cl_Jx4a65c ⟨fl_Jx4a65c_9.1, .inl fl_Jx4a65c_9.2⟩ hr (by decide) hF ?_
  refine sw_alen (t := 104) O (xx_dt dd_Jx4a65c_grow_92f84 2 rfl) (by omega) (by omega) he ?_
  refine sw_istore_n (ls2 := [.ref r, .int (nI (n + 1)), .int (nI n), xx_d]) O (xx_dt dd_Jx4a65c_grow_92f84 3 rfl) (by decide) rfl ?_
  refine sw_iload_n O (xx_dt dd_Jx4a65c_grow_92f84 4 rfl) rfl ?_
  refine sw_if_gt (tgt := 20) O (xx_dt dd_Jx4a65c_grow_92f84 5 rfl) (by decide) (fun q => ?_) (fun q => absurd ((nI_ltI (a := 0) (b := n) (by omega) (by omega)).mpr h0n) q)
  refine sw_iload_n O (xx_dt dd_Jx4a65c_grow_92f84 10 rfl) rfl ?_
  refine sw_iload_n O (xx_dt dd_Jx4a65c_grow_92f84 11 rfl) rfl ?_
  refine sw_iload_n O (xx_dt dd_Jx4a65c_grow_92f84 12 rfl) rfl ?_
  refine sw_isub O (xx_dt dd_Jx4a65c_grow_92f84 13 rfl) ?_
  refine sw_iload_n O (xx_dt dd_Jx4a65c_grow_92f84 14 rfl) rfl ?_
  refine sw_iconst (x := 1) O (xx_dt dd_Jx4a65c_grow_92f84 15 rfl) (by decide) ?_
  refine sw_ishr O (xx_dt dd_Jx4a65c_grow_92f84 16 rfl) ?_
  rw [show nI (n + 1) - nI n = nI 1 from (nI_minus (by omega)).trans (by congr 1; omega), half_nat hn]
  refine sw_callSx (as := [.int (nI n), .int (nI 1), .int (nI (n / 2))]) (st := []) (st2 := [.int (nI (n + max 1 (n / 2)))]) O (ct_newLength0 hl hn) ce_J8_newLength_cabcc ml_Jx4a65c_73 st_J8_newLength_cabcc (xx_dt dd_Jx4a65c_grow_92f84 17 rfl) (by decide) rfl rfl (Nat.le_of_ble_eq_true rfl) rfl ?_
  refine sw_istore_n (ls2 := [.ref r, .int (nI (n + 1)), .int (nI n), .int (nI (n + max 1 (n / 2)))]) O (xx_dt dd_Jx4a65c_grow_92f84 18 rfl) (by decide) rfl ?_
  refine sw_aload_n O (xx_dt dd_Jx4a65c_grow_92f84 19 rfl) rfl ?_
  refine sw_aload_n O (xx_dt dd_Jx4a65c_grow_92f84 20 rfl) rfl ?_
  refine sw_get2 (v := .ref e) O (xx_dt dd_Jx4a65c_grow_92f84 21 rfl) cl_Jx4a65c ⟨fl_Jx4a65c_9.1, .inl fl_Jx4a65c_9.2⟩ hr (by decide) hF ?_
  refine sw_iload_n O (xx_dt dd_Jx4a65c_grow_92f84 22 rfl) rfl ?_
  refine xx_wid (k' := 0 + 1) (n' := 0 + (n + max 1 (n / 2))) (Nat.le_of_eq (Nat.zero_add _)) (Nat.le_of_eq (Nat.zero_add _)) (sw_callSx (k := 0) (n := 0) (k' := 1) (n' := (n + max 1 (n / 2))) (as := [.ref e, .int (nI (n + max 1 (n / 2)))]) (st := [.ref r]) (st2 := [.ref e2, .ref r]) O (ct_copyOf2 hl he (m := (n + max 1 (n / 2))) (Nat.le_add_right _ _) (show (n + max 1 (n / 2)) < 2097152 by omega) he2 h92 h3 hel) ce_J7_copyOf_1904c ml_Jx4a65c_66 st_J7_copyOf_1904c (xx_dt dd_Jx4a65c_grow_92f84 23 rfl) (by decide) rfl rfl (Nat.le_of_ble_eq_true rfl) rfl ?_)
  refine sw_dup_x1 O (xx_dt dd_Jx4a65c_grow_92f84 24 rfl) rfl rfl ?_
  refine sw_put (h2 := xx_up (xx_up h e2 (104, (n + max 1 (n / 2)), fun j => if j < n then g j else .null)) r (6, 3, updV F 1 (.ref e2))) O (xx_dt dd_Jx4a65c_grow_92f84 25 rfl) cl_Jx4a65c fl_Jx4a65c_9 (by rw [xx_up_ne (fun q => by rw [q, he2] at hr; cases hr)]; exact hr) (by decide) h1 rfl (fun _ => ⟨rfl, rfl⟩) rfl ?_
  exact sw_aret O (xx_dt dd_Jx4a65c_grow_92f84 26 rfl) rfl (.inr ⟨_, rfl⟩) (by rw [hQ]; exact ⟨rfl, rfl⟩)
theorem ct_grow0 {l : Launch} {h : XH} (hl : l.stackTraces = false) {r e2 : Nat} {F f0 : Nat → Value} (hr : h r = some (6, 3, F)) (hF : F 1 = .ref 0) (h1 : 1000 ≤ r) (he : h 0 = some (104, 0, f0)) (he2 : h e2 = none) (h92 : 1000 ≤ e2)  : XEx l m_Jx4a65c_grow_92f84 1 1 10 [.ref r, .int (nI 1)] (h) (some (.ref e2)) (xx_up (xx_up h e2 (104, 10, fun _ => .null)) r (6, 3, updV F 1 (.ref e2))) := by
  refine XMet.of hl rfl rfl (Nat.le_of_ble_eq_true rfl) (fun Y O hh hQ => ?_)
  show SW Y 1 10 (h) 0 [.ref r, .int (nI 1), xx_d, xx_d] []
  refine sw_aload_n O (xx_dt dd_Jx4a65c_grow_92f84 0 rfl) rfl ?_
  refine sw_get2 (v := .ref 0) O (xx_dt dd_Jx4a65c_grow_92f84 1 rfl) cl_Jx4a65c ⟨fl_Jx4a65c_9.1, .inl fl_Jx4a65c_9.2⟩ hr (by decide) hF ?_
  refine sw_alen (t := 104) O (xx_dt dd_Jx4a65c_grow_92f84 2 rfl) (by omega) (by omega) he ?_
  refine sw_istore_n (ls2 := [.ref r, .int (nI 1), .int (nI 0), xx_d]) O (xx_dt dd_Jx4a65c_grow_92f84 3 rfl) (by decide) rfl ?_
  refine sw_iload_n O (xx_dt dd_Jx4a65c_grow_92f84 4 rfl) rfl ?_
  refine sw_if_gt (tgt := 20) O (xx_dt dd_Jx4a65c_grow_92f84 5 rfl) (by decide) (fun q => absurd q (by decide)) (fun q => ?_)
  refine sw_aload_n O (xx_dt dd_Jx4a65c_grow_92f84 6 rfl) rfl ?_
  refine sw_get2 (v := .ref 0) O (xx_dt dd_Jx4a65c_grow_92f84 7 rfl) cl_Jx4a65c ⟨fl_Jx4a65c_9.1, .inl fl_Jx4a65c_9.2⟩ hr (by decide) hF ?_
  refine sw_getsR (i := 3) (r := 0) O (xx_dt dd_Jx4a65c_grow_92f84 8 rfl) rfl gs_Jx4a65c_39 he (by omega) ?_
  refine sw_acmp_eqS (tgt := 45) O (xx_dt dd_Jx4a65c_grow_92f84 9 rfl) (by decide) ?_
  refine sw_aload_n O (xx_dt dd_Jx4a65c_grow_92f84 27 rfl) rfl ?_
  refine sw_bipush (x := 10) O (xx_dt dd_Jx4a65c_grow_92f84 28 rfl) (by decide) ?_
  refine sw_iload_n O (xx_dt dd_Jx4a65c_grow_92f84 29 rfl) rfl ?_
  refine sw_max (st := [.ref r]) (x := nI 10) (y := nI 1) O mm_Jx4a65c_79 (xx_dt dd_Jx4a65c_grow_92f84 30 rfl) (by omega) (Nat.le_of_ble_eq_true rfl) ?_
  refine sw_anew (i := nI 10) (k := 0) (n := 0) (N := 10) (r := e2) O (xx_dt dd_Jx4a65c_grow_92f84 31 rfl) cw_Jx4a65c_7 (by decide) (by decide) (by decide) he2 h92 ?_
  rw [xx_blk_up]
  refine sw_dup_x1 O (xx_dt dd_Jx4a65c_grow_92f84 32 rfl) rfl rfl ?_
  refine sw_put (h2 := xx_up (xx_up h e2 (104, 10, fun _ => .null)) r (6, 3, updV F 1 (.ref e2))) O (xx_dt dd_Jx4a65c_grow_92f84 33 rfl) cl_Jx4a65c fl_Jx4a65c_9 (by rw [xx_up_ne (fun q => by rw [q, he2] at hr; cases hr)]; exact hr) (by decide) h1 rfl (fun _ => ⟨rfl, rfl⟩) rfl ?_
  exact sw_aret O (xx_dt dd_Jx4a65c_grow_92f84 34 rfl) rfl (.inr ⟨_, rfl⟩) (by rw [hQ]; exact ⟨rfl, rfl⟩)
theorem ct_growSF {l : Launch} {h : XH} (hl : l.stackTraces = false) {r e e2 n : Nat} {F g : Nat → Value} {c3 : XC} (hr : h r = some (6, 3, F)) (hF : F 1 = .ref e) (h1 : 1000 ≤ r) (he : h e = some (104, n, g)) (hn : n < 1048576) (he2 : h e2 = none) (h92 : 1000 ≤ e2) (h3 : h 3 = some c3) (hel : ∀ j, j < n → g j = .null ∨ ∃ x, g j = .ref x ∧ xx_obO h x) (h0n : 0 < n) (hS : F 2 = .int (nI n)) (hs0 : 1000 ≤ e := by omega) : XEx l m_Jx4a65c_grow_d5877 4 1 (n + max 1 (n / 2)) [.ref r] (h) (some (.ref e2)) (xx_up (xx_up h e2 (104, (n + max 1 (n / 2)), fun j => if j < n then g j else .null)) r (6, 3, updV F 1 (.ref e2))) := by
  refine XMet.of hl rfl rfl (Nat.le_of_ble_eq_true rfl) (fun Y O hh hQ => ?_)
  show SW Y 1 (n + max 1 (n / 2)) (h) 0 [.ref r] []
  refine sw_aload_n O (xx_dt dd_Jx4a65c_grow_d5877 0 rfl) rfl ?_
  refine sw_aload_n O (xx_dt dd_Jx4a65c_grow_d5877 1 rfl) rfl ?_
  refine sw_get2 (v := .int (nI n)) O (xx_dt dd_Jx4a65c_grow_d5877 2 rfl) cl_Jx4a65c ⟨fl_Jx4a65c_48.1, .inl fl_Jx4a65c_48.2⟩ hr (by decide) hS ?_
  refine sw_iconst (x := 1) O (xx_dt dd_Jx4a65c_grow_d5877 3 rfl) (by decide) ?_
  refine sw_iadd O (xx_dt dd_Jx4a65c_grow_d5877 4 rfl) ?_
  rw [nI_a1 n]
  refine xx_wid (k' := 0 + 1) (n' := 0 + (n + max 1 (n / 2))) (Nat.le_of_eq (Nat.zero_add _)) (Nat.le_of_eq (Nat.zero_add _)) (sw_callVx (k := 0) (n := 0) (k' := 1) (n' := (n + max 1 (n / 2))) (as := [.int (nI (n + 1))]) (st := []) (st2 := [.ref e2]) O (ct_growF hl hr hF h1 he hn he2 h92 h3 hel h0n) ce_Jx4a65c_grow_92f84 ml_Jx4a65c_69 iv_Jx4a65c_grow_92f84 cl_Jx4a65c rfl (hr) (xx_dt dd_Jx4a65c_grow_d5877 5 rfl) (by decide) rfl rfl (Nat.le_of_ble_eq_true rfl) rfl ?_)
  exact sw_aret O (xx_dt dd_Jx4a65c_grow_d5877 6 rfl) rfl (.inr ⟨_, rfl⟩) (by rw [hQ]; exact ⟨rfl, rfl⟩)
theorem ct_growS0 {l : Launch} {h : XH} (hl : l.stackTraces = false) {r e2 : Nat} {F f0 : Nat → Value} (hr : h r = some (6, 3, F)) (hF : F 1 = .ref 0) (h1 : 1000 ≤ r) (he : h 0 = some (104, 0, f0)) (he2 : h e2 = none) (h92 : 1000 ≤ e2) (hS : F 2 = .int (nI 0))  : XEx l m_Jx4a65c_grow_d5877 2 1 10 [.ref r] (h) (some (.ref e2)) (xx_up (xx_up h e2 (104, 10, fun _ => .null)) r (6, 3, updV F 1 (.ref e2))) := by
  refine XMet.of hl rfl rfl (Nat.le_of_ble_eq_true rfl) (fun Y O hh hQ => ?_)
  show SW Y 1 10 (h) 0 [.ref r] []
  refine sw_aload_n O (xx_dt dd_Jx4a65c_grow_d5877 0 rfl) rfl ?_
  refine sw_aload_n O (xx_dt dd_Jx4a65c_grow_d5877 1 rfl) rfl ?_
  refine sw_get2 (v := .int (nI 0)) O (xx_dt dd_Jx4a65c_grow_d5877 2 rfl) cl_Jx4a65c ⟨fl_Jx4a65c_48.1, .inl fl_Jx4a65c_48.2⟩ hr (by decide) hS ?_
  refine sw_iconst (x := 1) O (xx_dt dd_Jx4a65c_grow_d5877 3 rfl) (by decide) ?_
  refine sw_iadd O (xx_dt dd_Jx4a65c_grow_d5877 4 rfl) ?_
  refine xx_wid (k' := 0 + 1) (n' := 0 + 10) (Nat.le_of_eq (Nat.zero_add _)) (Nat.le_of_eq (Nat.zero_add _)) (sw_callVx (k := 0) (n := 0) (k' := 1) (n' := 10) (as := [.int (nI 1)]) (st := []) (st2 := [.ref e2]) O (ct_grow0 hl hr hF h1 he he2 h92) ce_Jx4a65c_grow_92f84 ml_Jx4a65c_69 iv_Jx4a65c_grow_92f84 cl_Jx4a65c rfl (hr) (xx_dt dd_Jx4a65c_grow_d5877 5 rfl) (by decide) rfl rfl (Nat.le_of_ble_eq_true rfl) rfl ?_)
  exact sw_aret O (xx_dt dd_Jx4a65c_grow_d5877 6 rfl) rfl (.inr ⟨_, rfl⟩) (by rw [hQ]; exact ⟨rfl, rfl⟩)
theorem ct_addA {l : Launch} {h : XH} (hl : l.stackTraces = false) {r e n cap x : Nat} {F g : Nat → Value} (hr : h r = some (6, 3, F)) (h1 : 1000 ≤ r) (he : h e = some (104, cap, g)) (h9 : 1000 ≤ e) (hre : r ≠ e) (hx : xx_obO h x) (hn : n < 1048576) (hc : n < cap) (hcap : cap < 2147483648)  : XEx l m_Jx4a65c_add_72be8 0 0 0 [.ref r, .ref x, .ref e, .int (nI n)] (h) (none) (xx_up (xx_up h e (104, cap, updV g n (.ref x))) r (6, 3, updV F 2 (.int (nI (n + 1))))) := by
  refine XMet.of hl rfl rfl (Nat.le_of_ble_eq_true rfl) (fun Y O hh hQ => ?_)
  show SW Y 0 0 (h) 0 [.ref r, .ref x, .ref e, .int (nI n)] []
  refine sw_iload_n O (xx_dt dd_Jx4a65c_add_72be8 0 rfl) rfl ?_
  refine sw_aload_n O (xx_dt dd_Jx4a65c_add_72be8 1 rfl) rfl ?_
  refine sw_alen (t := 104) O (xx_dt dd_Jx4a65c_add_72be8 2 rfl) (by omega) (by omega) he ?_
  refine sw_icmp_ne (tgt := 11) O (xx_dt dd_Jx4a65c_add_72be8 3 rfl) (by decide) (fun q => ?_) (fun q => absurd ((cn_nI (k := n) (by omega)).symm.trans ((congrArg cn q).trans (cn_nI (k := cap) (by omega)))) (by omega))
  refine sw_aload_n O (xx_dt dd_Jx4a65c_add_72be8 7 rfl) rfl ?_
  refine sw_iload_n O (xx_dt dd_Jx4a65c_add_72be8 8 rfl) rfl ?_
  refine sw_aload_n O (xx_dt dd_Jx4a65c_add_72be8 9 rfl) rfl ?_
  refine sw_aastore (h2 := xx_up h e (104, cap, updV g n (.ref x))) O (xx_dt dd_Jx4a65c_add_72be8 10 rfl) he (pk_in n cap (by omega)) h9 hx (by rw [nI_clamp (by omega)]) ?_
  refine sw_aload_n O (xx_dt dd_Jx4a65c_add_72be8 11 rfl) rfl ?_
  refine sw_iload_n O (xx_dt dd_Jx4a65c_add_72be8 12 rfl) rfl ?_
  refine sw_iconst (x := 1) O (xx_dt dd_Jx4a65c_add_72be8 13 rfl) (by decide) ?_
  refine sw_iadd O (xx_dt dd_Jx4a65c_add_72be8 14 rfl) ?_
  rw [nI_a1 n]
  refine sw_put (h2 := xx_up (xx_up h e (104, cap, updV g n (.ref x))) r (6, 3, updV F 2 (.int (nI (n + 1))))) O (xx_dt dd_Jx4a65c_add_72be8 15 rfl) cl_Jx4a65c fl_Jx4a65c_48 (by rw [xx_up_ne hre]; exact hr) (by decide) h1 rfl (fun _ => ⟨rfl, rfl⟩) rfl ?_
  exact sw_ret O (xx_dt dd_Jx4a65c_add_72be8 16 rfl) rfl (by rw [hQ]; exact ⟨rfl, rfl⟩)
theorem ct_addB {l : Launch} {h : XH} (hl : l.stackTraces = false) {r e e2 n : Nat} {F g : Nat → Value} {c3 : XC} (hr : h r = some (6, 3, F)) (hF : F 1 = .ref e) (h1 : 1000 ≤ r) (he : h e = some (104, n, g)) (hn : n < 1048576) (he2 : h e2 = none) (h92 : 1000 ≤ e2) (h3 : h 3 = some c3) (hel : ∀ j, j < n → g j = .null ∨ ∃ x, g j = .ref x ∧ xx_obO h x) (h0n : 0 < n) (hS : F 2 = .int (nI n)) {x : Nat} (hx : xx_obO h x)  (hxr : x ≠ r) (hs0 : 1000 ≤ e := by omega) : XEx l m_Jx4a65c_add_72be8 5 1 (n + max 1 (n / 2)) [.ref r, .ref x, .ref e, .int (nI n)] (h) (none) (xx_up (xx_up (xx_up (xx_up h e2 (104, (n + max 1 (n / 2)), fun j => if j < n then g j else .null)) r (6, 3, updV F 1 (.ref e2))) e2 (104, (n + max 1 (n / 2)), updV (fun j => if j < n then g j else .null) n (.ref x))) r (6, 3, updV (updV F 1 (.ref e2)) 2 (.int (nI (n + 1))))) := by
  refine XMet.of hl rfl rfl (Nat.le_of_ble_eq_true rfl) (fun Y O hh hQ => ?_)
  have hre2 : r ≠ e2 := fun q => by rw [q, he2] at hr; cases hr
  show SW Y 1 (n + max 1 (n / 2)) (h) 0 [.ref r, .ref x, .ref e, .int (nI n)] []
  refine sw_iload_n O (xx_dt dd_Jx4a65c_add_72be8 0 rfl) rfl ?_
  refine sw_aload_n O (xx_dt dd_Jx4a65c_add_72be8 1 rfl) rfl ?_
  refine sw_alen (t := 104) O (xx_dt dd_Jx4a65c_add_72be8 2 rfl) (by omega) (by omega) he ?_
  refine sw_icmp_ne (tgt := 11) O (xx_dt dd_Jx4a65c_add_72be8 3 rfl) (by decide) (fun q => absurd rfl q) (fun q => ?_)
  refine sw_aload_n O (xx_dt dd_Jx4a65c_add_72be8 4 rfl) rfl ?_
  refine xx_wid (k' := 0 + 1) (n' := 0 + (n + max 1 (n / 2))) (Nat.le_of_eq (Nat.zero_add _)) (Nat.le_of_eq (Nat.zero_add _)) (sw_callVx (k := 0) (n := 0) (k' := 1) (n' := (n + max 1 (n / 2))) (as := []) (st := []) (st2 := [.ref e2]) O (ct_growSF hl hr hF h1 he hn he2 h92 h3 hel h0n hS) ce_Jx4a65c_grow_d5877 ml_Jx4a65c_129 iv_Jx4a65c_grow_d5877 cl_Jx4a65c rfl (hr) (xx_dt dd_Jx4a65c_add_72be8 5 rfl) (by decide) rfl rfl (Nat.le_of_ble_eq_true rfl) rfl ?_)
  refine sw_astore_n (ls2 := [.ref r, .ref x, .ref e2, .int (nI n)]) O (xx_dt dd_Jx4a65c_add_72be8 6 rfl) (by decide) rfl ?_
  refine sw_aload_n O (xx_dt dd_Jx4a65c_add_72be8 7 rfl) rfl ?_
  refine sw_iload_n O (xx_dt dd_Jx4a65c_add_72be8 8 rfl) rfl ?_
  refine sw_aload_n O (xx_dt dd_Jx4a65c_add_72be8 9 rfl) rfl ?_
  refine sw_aastore (h2 := xx_up (xx_up (xx_up h e2 (104, (n + max 1 (n / 2)), fun j => if j < n then g j else .null)) r (6, 3, updV F 1 (.ref e2))) e2 (104, (n + max 1 (n / 2)), updV (fun j => if j < n then g j else .null) n (.ref x))) O (xx_dt dd_Jx4a65c_add_72be8 10 rfl) (by rw [xx_up_ne (Ne.symm hre2), xx_up_eq]) (pk_in n _ (by omega)) h92 ((hx.up (hx.nn he2)).up hxr) (by rw [nI_clamp (by omega)]) ?_
  refine sw_aload_n O (xx_dt dd_Jx4a65c_add_72be8 11 rfl) rfl ?_
  refine sw_iload_n O (xx_dt dd_Jx4a65c_add_72be8 12 rfl) rfl ?_
  refine sw_iconst (x := 1) O (xx_dt dd_Jx4a65c_add_72be8 13 rfl) (by decide) ?_
  refine sw_iadd O (xx_dt dd_Jx4a65c_add_72be8 14 rfl) ?_
  rw [nI_a1 n]
  refine sw_put (h2 := xx_up (xx_up (xx_up (xx_up h e2 (104, (n + max 1 (n / 2)), fun j => if j < n then g j else .null)) r (6, 3, updV F 1 (.ref e2))) e2 (104, (n + max 1 (n / 2)), updV (fun j => if j < n then g j else .null) n (.ref x))) r (6, 3, updV (updV F 1 (.ref e2)) 2 (.int (nI (n + 1))))) O (xx_dt dd_Jx4a65c_add_72be8 15 rfl) cl_Jx4a65c fl_Jx4a65c_48 (by rw [xx_up_ne hre2, xx_up_eq]) (by decide) h1 rfl (fun _ => ⟨rfl, rfl⟩) rfl ?_
  exact sw_ret O (xx_dt dd_Jx4a65c_add_72be8 16 rfl) rfl (by rw [hQ]; exact ⟨rfl, rfl⟩)
theorem ct_addC {l : Launch} {h : XH} (hl : l.stackTraces = false) {r e2 : Nat} {F f0 : Nat → Value} (hr : h r = some (6, 3, F)) (hF : F 1 = .ref 0) (h1 : 1000 ≤ r) (he : h 0 = some (104, 0, f0)) (he2 : h e2 = none) (h92 : 1000 ≤ e2) (hS : F 2 = .int (nI 0)) {x : Nat} (hx : xx_obO h x)  (hxr : x ≠ r) : XEx l m_Jx4a65c_add_72be8 3 1 10 [.ref r, .ref x, .ref 0, .int (nI 0)] (h) (none) (xx_up (xx_up (xx_up (xx_up h e2 (104, 10, fun _ => .null)) r (6, 3, updV F 1 (.ref e2))) e2 (104, 10, updV (fun _ => .null) 0 (.ref x))) r (6, 3, updV (updV F 1 (.ref e2)) 2 (.int (nI (0 + 1))))) := by
  refine XMet.of hl rfl rfl (Nat.le_of_ble_eq_true rfl) (fun Y O hh hQ => ?_)
  have hre2 : r ≠ e2 := fun q => by rw [q, he2] at hr; cases hr
  show SW Y 1 10 (h) 0 [.ref r, .ref x, .ref 0, .int (nI 0)] []
  refine sw_iload_n O (xx_dt dd_Jx4a65c_add_72be8 0 rfl) rfl ?_
  refine sw_aload_n O (xx_dt dd_Jx4a65c_add_72be8 1 rfl) rfl ?_
  refine sw_alen (t := 104) O (xx_dt dd_Jx4a65c_add_72be8 2 rfl) (by omega) (by omega) he ?_
  refine sw_icmp_ne (tgt := 11) O (xx_dt dd_Jx4a65c_add_72be8 3 rfl) (by decide) (fun q => absurd rfl q) (fun q => ?_)
  refine sw_aload_n O (xx_dt dd_Jx4a65c_add_72be8 4 rfl) rfl ?_
  refine xx_wid (k' := 0 + 1) (n' := 0 + 10) (Nat.le_of_eq (Nat.zero_add _)) (Nat.le_of_eq (Nat.zero_add _)) (sw_callVx (k := 0) (n := 0) (k' := 1) (n' := 10) (as := []) (st := []) (st2 := [.ref e2]) O (ct_growS0 hl hr hF h1 he he2 h92 hS) ce_Jx4a65c_grow_d5877 ml_Jx4a65c_129 iv_Jx4a65c_grow_d5877 cl_Jx4a65c rfl (hr) (xx_dt dd_Jx4a65c_add_72be8 5 rfl) (by decide) rfl rfl (Nat.le_of_ble_eq_true rfl) rfl ?_)
  refine sw_astore_n (ls2 := [.ref r, .ref x, .ref e2, .int (nI 0)]) O (xx_dt dd_Jx4a65c_add_72be8 6 rfl) (by decide) rfl ?_
  refine sw_aload_n O (xx_dt dd_Jx4a65c_add_72be8 7 rfl) rfl ?_
  refine sw_iload_n O (xx_dt dd_Jx4a65c_add_72be8 8 rfl) rfl ?_
  refine sw_aload_n O (xx_dt dd_Jx4a65c_add_72be8 9 rfl) rfl ?_
  refine sw_aastore (h2 := xx_up (xx_up (xx_up h e2 (104, 10, fun _ => .null)) r (6, 3, updV F 1 (.ref e2))) e2 (104, 10, updV (fun _ => .null) 0 (.ref x))) O (xx_dt dd_Jx4a65c_add_72be8 10 rfl) (by rw [xx_up_ne (Ne.symm hre2), xx_up_eq]) (pk_in 0 _ (by omega)) h92 ((hx.up (hx.nn he2)).up hxr) (by rw [nI_clamp (by omega)]) ?_
  refine sw_aload_n O (xx_dt dd_Jx4a65c_add_72be8 11 rfl) rfl ?_
  refine sw_iload_n O (xx_dt dd_Jx4a65c_add_72be8 12 rfl) rfl ?_
  refine sw_iconst (x := 1) O (xx_dt dd_Jx4a65c_add_72be8 13 rfl) (by decide) ?_
  refine sw_iadd O (xx_dt dd_Jx4a65c_add_72be8 14 rfl) ?_
  refine sw_put (h2 := xx_up (xx_up (xx_up (xx_up h e2 (104, 10, fun _ => .null)) r (6, 3, updV F 1 (.ref e2))) e2 (104, 10, updV (fun _ => .null) 0 (.ref x))) r (6, 3, updV (updV F 1 (.ref e2)) 2 (.int (nI (0 + 1))))) O (xx_dt dd_Jx4a65c_add_72be8 15 rfl) cl_Jx4a65c fl_Jx4a65c_48 (by rw [xx_up_ne hre2, xx_up_eq]) (by decide) h1 rfl (fun _ => ⟨rfl, rfl⟩) rfl ?_
  exact sw_ret O (xx_dt dd_Jx4a65c_add_72be8 16 rfl) rfl (by rw [hQ]; exact ⟨rfl, rfl⟩)
end
section
/-! ===== add ===== -/
theorem xx_up_in {h : XH} {r : Nat} {c : XC} {a : Nat} (ha : (h a).isSome = true) : (xx_up h r c a).isSome = true := by
  unfold xx_up
  split
  · rfl
  · exact ha
theorem xx_cls.up {h : XH} {r : Nat} {c : XC} (hcl : xx_cls h) (hc : ∀ j, j < c.2.1 → xx_in (xx_up h r c) (c.2.2 j)) : xx_cls (xx_up h r c) := by
  intro q d j hd hj
  by_cases e : q = r
  · subst e
    rw [xx_up_eq] at hd
    cases hd
    exact hc j hj
  · rw [xx_up_ne e] at hd
    exact xx_in_up (hcl q d j hd hj)
theorem xx_lo_add {n e : Nat} : updV (updV (xx_lo n e) 0 (.int (nI n + 1))) 2 (.int (nI (n + 1))) = xx_lo (n + 1) e := by
  funext k
  unfold updV
  match k with
  | 0 => show Value.int (nI n + 1) = .int (nI (n + 1)); rw [nI_a1]
  | 1 => rfl
  | 2 => rfl
  | k + 3 => rfl
theorem xx_lo_add2 {n e e2 : Nat} : updV (updV (updV (xx_lo n e) 0 (.int (nI n + 1))) 1 (.ref e2)) 2 (.int (nI (n + 1))) = xx_lo (n + 1) e2 := by
  funext k
  unfold updV
  match k with
  | 0 => show Value.int (nI n + 1) = .int (nI (n + 1)); rw [nI_a1]
  | 1 => rfl
  | 2 => rfl
  | k + 3 => rfl
theorem ct_AL_add {l : Launch} {h : XH} (hl : l.stackTraces = false) {r n : Nat} {f : Nat → Value} (hc : h r = some (206, n, f)) {e : Nat} (he : h e = none) (h9 : 1000 ≤ e) (h1 : 1000 ≤ r) {f0 : Nat → Value} (h0 : h 0 = some (104, 0, f0)) {e2 x : Nat} {c3 : XC} (he2 : h e2 = none) (h92 : 1000 ≤ e2) (hee : e ≠ e2) (h3 : h 3 = some c3) (hx : xx_obO h x) (hn : n < 1048575) (hel : ∀ j, j < n → f j = .null ∨ ∃ x, f j = .ref x ∧ xx_obO h x)  : XEx l m_Jx4a65c_add_9ea2d 6 1 (n + n / 2 + 10) [.ref r, .ref x] (h) (some (.int 1)) (xx_up h r (206, n + 1, (fun j => if j = n then .ref x else f j))) := by
  refine XMet.of hl rfl rfl (Nat.le_of_ble_eq_true rfl) (fun Y O hh hQ => ?_)
  have hre : r ≠ e := fun q => by rw [q, he] at hc; cases hc
  have hre2 : r ≠ e2 := fun q => by rw [q, he2] at hc; cases hc
  have hxr : x ≠ r := hx.nl (ci := 6) hc
  have hxe : x ≠ e := hx.nn he
  have hxe2 : x ≠ e2 := hx.nn he2
  have r3 : (3 : Nat) ≠ r := by omega
  refine sw_cls (fun hcl => ?_)
  show SW Y 1 (n + n / 2 + 10) (h) 0 [.ref r, .ref x] []
  refine sw_explode (ci := 6) (by decide) hc h1 he h9 h0 (fun cap hcap => ?_) (fun e0 => ?_)
  · refine sw_aload_n O (xx_dt dd_Jx4a65c_add_9ea2d 0 rfl) rfl ?_
    refine sw_dup O (xx_dt dd_Jx4a65c_add_9ea2d 1 rfl) rfl ?_
    refine sw_get2 (v := .int (nI n)) O (xx_dt dd_Jx4a65c_add_9ea2d 2 rfl) cl_Jx4a65c f2_Jx4a65c_63 (by rw [xx_up_ne hre, xx_up_eq]) (by decide) rfl ?_
    refine sw_iconst (x := 1) O (xx_dt dd_Jx4a65c_add_9ea2d 3 rfl) (by decide) ?_
    refine sw_iadd O (xx_dt dd_Jx4a65c_add_9ea2d 4 rfl) ?_
    refine sw_put2 (h2 := xx_up (xx_up h r (6, 3, updV (xx_lo n e) 0 (.int (nI n + 1)))) e (104, cap, fun j => if j < n then f j else .null)) O (xx_dt dd_Jx4a65c_add_9ea2d 5 rfl) cl_Jx4a65c f2_Jx4a65c_63 (by rw [xx_up_ne hre, xx_up_eq]) (by decide) h1 rfl (fun _ => ⟨rfl, rfl⟩) (by rw [← xx_up_sw hre, xx_up_up]) ?_
    refine sw_aload_n O (xx_dt dd_Jx4a65c_add_9ea2d 6 rfl) rfl ?_
    refine sw_aload_n O (xx_dt dd_Jx4a65c_add_9ea2d 7 rfl) rfl ?_
    refine sw_aload_n O (xx_dt dd_Jx4a65c_add_9ea2d 8 rfl) rfl ?_
    refine sw_get2 (v := .ref e) O (xx_dt dd_Jx4a65c_add_9ea2d 9 rfl) cl_Jx4a65c ⟨fl_Jx4a65c_9.1, .inl fl_Jx4a65c_9.2⟩ (by rw [xx_up_ne hre, xx_up_eq]) (by decide) rfl ?_
    refine sw_aload_n O (xx_dt dd_Jx4a65c_add_9ea2d 10 rfl) rfl ?_
    refine sw_get2 (v := .int (nI n)) O (xx_dt dd_Jx4a65c_add_9ea2d 11 rfl) cl_Jx4a65c ⟨fl_Jx4a65c_48.1, .inl fl_Jx4a65c_48.2⟩ (by rw [xx_up_ne hre, xx_up_eq]) (by decide) rfl ?_
    by_cases hfull : n < cap
    · refine xx_wid (k' := 0 + 0) (n' := 0 + 0) (by omega) (by omega) (sw_callVx (k := 0) (n := 0) (k' := 0) (n' := 0) (as := [.ref x, .ref e, .int (nI n)]) (st := []) (st2 := []) O (ct_addA hl (r := r) (e := e) (n := n) (cap := cap) (x := x) (by rw [xx_up_ne hre, xx_up_eq]) h1 (xx_up_eq _ _ _) h9 hre ((hx.up hxr).up hxe) (by omega) hfull (by omega)) ce_Jx4a65c_add_72be8 ml_Jx4a65c_131 iv_Jx4a65c_add_72be8 cl_Jx4a65c rfl ((by rw [xx_up_ne hre, xx_up_eq])) (xx_dt dd_Jx4a65c_add_9ea2d 12 rfl) (by decide) rfl rfl (Nat.le_of_ble_eq_true rfl) rfl ?_)
      rw [show xx_up (xx_up (xx_up (xx_up h r (6, 3, updV (xx_lo n e) 0 (.int (nI n + 1)))) e (104, cap, fun j => if j < n then f j else .null)) e (104, cap, updV (fun j => if j < n then f j else .null) n (.ref x))) r (6, 3, updV (updV (xx_lo n e) 0 (.int (nI n + 1))) 2 (.int (nI (n + 1)))) = xx_up (xx_up h r (6, 3, xx_lo (n + 1) e)) e (104, cap, updV (fun j => if j < n then f j else .null) n (.ref x)) by rw [xx_up_up, ← xx_up_sw hre, xx_up_up, xx_lo_add]]
      refine sw_implode (hb := h) (r := r) (e := e) (n9 := n + 1) (cap := cap) (ci := 6) (f := (fun j => if j = n then .ref x else f j)) (g := updV (fun j => if j < n then f j else .null) n (.ref x)) (by decide) hcl he h1 h9 hre (by rw [hc]; rfl) (fun j hj => ?_) (fun j hj => ?_) ⟨by omega, by omega, by omega, by omega⟩ (by rw [hh, he]; rfl) (List.forall_mem_cons.mpr ⟨(show (h r).isSome = true from (by rw [hc]; rfl)), (List.forall_mem_cons.mpr ⟨(show (h x).isSome = true from hx.is), (fun _ h => absurd h List.not_mem_nil)⟩)⟩) (fun _ h => absurd h List.not_mem_nil) ?_
      · unfold updV
        by_cases q : j = n
        · rw [if_pos q, if_pos (by omega), if_pos q]
        · rw [if_neg q, if_neg q]
          by_cases q2 : j < n
          · simp only [if_pos q2, if_pos (show j < n + 1 by omega)]
          · simp only [if_neg q2, if_neg (show ¬ j < n + 1 by omega)] <;> (try rfl)
      · show xx_in h (if j = n then .ref x else f j)
        by_cases q : j = n
        · rw [if_pos q]; exact hx.is
        · rw [if_neg q]; exact hcl r _ j hc (show j < n by omega)
      refine sw_iconst (x := 1) O (xx_dt dd_Jx4a65c_add_9ea2d 13 rfl) (by decide) ?_
      exact sw_iret O (xx_dt dd_Jx4a65c_add_9ea2d 14 rfl) rfl rfl (by rw [hQ]; exact ⟨rfl, rfl⟩)
    · obtain rfl : n = cap := by omega
      have h0n : 0 < n := hcap.2.2.2
      have e3 : (3 : Nat) ≠ e := by omega
      refine xx_wid (k' := 0 + 1) (n' := 0 + (n + max 1 (n / 2))) (by omega) (by omega) (sw_callVx (k := 0) (n := 0) (k' := 1) (n' := (n + max 1 (n / 2))) (as := [.ref x, .ref e, .int (nI n)]) (st := []) (st2 := []) O (ct_addB hl (r := r) (e := e) (e2 := e2) (n := n) (by rw [xx_up_ne hre, xx_up_eq]) rfl h1 (xx_up_eq _ _ _) (by omega) (by rw [xx_up_ne (Ne.symm hee), xx_up_ne (Ne.symm hre2)]; exact he2) h92 (by rw [xx_up_ne e3, xx_up_ne r3]; exact h3) (fun j hj => by exact (hel j hj).elim (fun q => .inl (by simp only [if_pos hj]; exact q)) (fun ⟨y, q, hy⟩ => .inr ⟨y, by simp only [if_pos hj]; exact q, (hy.up (hy.nl (ci := 6) hc)).up (hy.nn he)⟩)) h0n rfl ((hx.up hxr).up hxe) hxr) ce_Jx4a65c_add_72be8 ml_Jx4a65c_131 iv_Jx4a65c_add_72be8 cl_Jx4a65c rfl ((by rw [xx_up_ne hre, xx_up_eq])) (xx_dt dd_Jx4a65c_add_9ea2d 12 rfl) (by decide) rfl rfl (Nat.le_of_ble_eq_true rfl) rfl ?_)
      rw [show xx_up (xx_up (xx_up (xx_up (xx_up (xx_up h r (6, 3, updV (xx_lo n e) 0 (.int (nI n + 1)))) e (104, n, fun j => if j < n then f j else .null)) e2 (104, (n + max 1 (n / 2)), fun j => if j < n then (fun j => if j < n then f j else .null) j else .null)) r (6, 3, updV (updV (xx_lo n e) 0 (.int (nI n + 1))) 1 (.ref e2))) e2 (104, (n + max 1 (n / 2)), updV (fun j => if j < n then (fun j => if j < n then f j else .null) j else .null) n (.ref x))) r (6, 3, updV (updV (updV (xx_lo n e) 0 (.int (nI n + 1))) 1 (.ref e2)) 2 (.int (nI (n + 1)))) = xx_up (xx_up (xx_up h r (6, 3, xx_lo (n + 1) e2)) e2 (104, (n + max 1 (n / 2)), updV (fun j => if j < n then (fun j => if j < n then f j else .null) j else .null) n (.ref x))) e (104, n, fun j => if j < n then f j else .null) by
        rw [xx_lo_add2]
        funext q
        simp only [xx_up]
        by_cases a1 : q = r <;> by_cases a2 : q = e <;> by_cases a3 : q = e2 <;> simp_all]
      have hcl2 : xx_cls (xx_up (xx_up h r (6, 3, xx_lo (n + 1) e2)) e2 (104, (n + max 1 (n / 2)), updV (fun j => if j < n then (fun j => if j < n then f j else .null) j else .null) n (.ref x))) := by
        intro q d j hd hj
        by_cases a3 : q = e2
        · subst a3
          rw [xx_up_eq] at hd
          cases hd
          show xx_in _ (updV (fun j => if j < n then (fun j => if j < n then f j else .null) j else .null) n (.ref x) j)
          unfold updV
          split
          · exact xx_up_in (xx_up_in hx.is)
          · dsimp only
            split
            · exact xx_in_up (xx_in_up (hcl r _ j hc (by assumption)))
            · exact trivial
        · rw [xx_up_ne a3] at hd
          by_cases a1 : q = r
          · subst a1
            rw [xx_up_eq] at hd
            cases hd
            exact xx_lo_in (by rw [xx_up_eq]; rfl) j
          · rw [xx_up_ne a1] at hd
            exact xx_in_up (xx_in_up (hcl q d j hd hj))
      refine sw_drop (h2 := xx_up (xx_up h r (6, 3, xx_lo (n + 1) e2)) e2 (104, (n + max 1 (n / 2)), updV (fun j => if j < n then (fun j => if j < n then f j else .null) j else .null) n (.ref x))) (fun q c hq => ?_) hcl2 (fun a ha => xx_up_in (xx_up_in (by rw [hh] at ha; exact ha))) (List.forall_mem_cons.mpr ⟨xx_up_in (xx_up_in (by rw [hc]; rfl)), List.forall_mem_cons.mpr ⟨xx_up_in (xx_up_in hx.is), fun _ h => absurd h List.not_mem_nil⟩⟩) (fun _ h => absurd h List.not_mem_nil) ?_
      · have a2 : q ≠ e := fun a => by rw [a, xx_up_ne hee, xx_up_ne (Ne.symm hre), he] at hq; cases hq
        rw [xx_up_ne a2]
        exact hq
      refine sw_implode (hb := h) (r := r) (e := e2) (n9 := n + 1) (cap := (n + max 1 (n / 2))) (ci := 6) (f := (fun j => if j = n then .ref x else f j)) (g := updV (fun j => if j < n then (fun j => if j < n then f j else .null) j else .null) n (.ref x)) (by decide) hcl he2 h1 h92 hre2 (by rw [hc]; rfl) (fun j hj => ?_) (fun j hj => ?_) ⟨by omega, by omega, by omega, by omega⟩ (by rw [hh, he2]; rfl) (List.forall_mem_cons.mpr ⟨(show (h r).isSome = true from (by rw [hc]; rfl)), (List.forall_mem_cons.mpr ⟨(show (h x).isSome = true from hx.is), (fun _ h => absurd h List.not_mem_nil)⟩)⟩) (fun _ h => absurd h List.not_mem_nil) ?_
      · unfold updV
        by_cases q : j = n
        · rw [if_pos q, if_pos (by omega), if_pos q]
        · rw [if_neg q, if_neg q]
          by_cases q2 : j < n
          · simp only [if_pos q2, if_pos (show j < n + 1 by omega)]
          · simp only [if_neg q2, if_neg (show ¬ j < n + 1 by omega)] <;> (try rfl)
      · show xx_in h (if j = n then .ref x else f j)
        by_cases q : j = n
        · rw [if_pos q]; exact hx.is
        · rw [if_neg q]; exact hcl r _ j hc (show j < n by omega)
      refine sw_iconst (x := 1) O (xx_dt dd_Jx4a65c_add_9ea2d 13 rfl) (by decide) ?_
      exact sw_iret O (xx_dt dd_Jx4a65c_add_9ea2d 14 rfl) rfl rfl (by rw [hQ]; exact ⟨rfl, rfl⟩)
  · subst e0
    refine sw_aload_n O (xx_dt dd_Jx4a65c_add_9ea2d 0 rfl) rfl ?_
    refine sw_dup O (xx_dt dd_Jx4a65c_add_9ea2d 1 rfl) rfl ?_
    refine sw_get2 (v := .int (nI 0)) O (xx_dt dd_Jx4a65c_add_9ea2d 2 rfl) cl_Jx4a65c f2_Jx4a65c_63 (xx_up_eq _ _ _) (by decide) rfl ?_
    refine sw_iconst (x := 1) O (xx_dt dd_Jx4a65c_add_9ea2d 3 rfl) (by decide) ?_
    refine sw_iadd O (xx_dt dd_Jx4a65c_add_9ea2d 4 rfl) ?_
    refine sw_put2 (h2 := xx_up h r (6, 3, updV (xx_lo 0 0) 0 (.int (nI 0 + 1)))) O (xx_dt dd_Jx4a65c_add_9ea2d 5 rfl) cl_Jx4a65c f2_Jx4a65c_63 (xx_up_eq _ _ _) (by decide) h1 rfl (fun _ => ⟨rfl, rfl⟩) xx_up_up ?_
    refine sw_aload_n O (xx_dt dd_Jx4a65c_add_9ea2d 6 rfl) rfl ?_
    refine sw_aload_n O (xx_dt dd_Jx4a65c_add_9ea2d 7 rfl) rfl ?_
    refine sw_aload_n O (xx_dt dd_Jx4a65c_add_9ea2d 8 rfl) rfl ?_
    refine sw_get2 (v := .ref 0) O (xx_dt dd_Jx4a65c_add_9ea2d 9 rfl) cl_Jx4a65c ⟨fl_Jx4a65c_9.1, .inl fl_Jx4a65c_9.2⟩ (xx_up_eq _ _ _) (by decide) rfl ?_
    refine sw_aload_n O (xx_dt dd_Jx4a65c_add_9ea2d 10 rfl) rfl ?_
    refine sw_get2 (v := .int (nI 0)) O (xx_dt dd_Jx4a65c_add_9ea2d 11 rfl) cl_Jx4a65c ⟨fl_Jx4a65c_48.1, .inl fl_Jx4a65c_48.2⟩ (xx_up_eq _ _ _) (by decide) rfl ?_
    refine xx_wid (k' := 0 + 1) (n' := 0 + 10) (by omega) (by omega) (sw_callVx (k := 0) (n := 0) (k' := 1) (n' := 10) (as := [.ref x, .ref 0, .int (nI 0)]) (st := []) (st2 := []) O (ct_addC hl (r := r) (e2 := e2) (xx_up_eq _ _ _) rfl h1 (by rw [xx_up_ne (by omega)]; exact h0) (by rw [xx_up_ne (Ne.symm hre2)]; exact he2) h92 rfl (hx.up hxr) hxr) ce_Jx4a65c_add_72be8 ml_Jx4a65c_131 iv_Jx4a65c_add_72be8 cl_Jx4a65c rfl ((xx_up_eq _ _ _)) (xx_dt dd_Jx4a65c_add_9ea2d 12 rfl) (by decide) rfl rfl (Nat.le_of_ble_eq_true rfl) rfl ?_)
    rw [show xx_up (xx_up (xx_up (xx_up (xx_up h r (6, 3, updV (xx_lo 0 0) 0 (.int (nI 0 + 1)))) e2 (104, 10, fun _ => .null)) r (6, 3, updV (updV (xx_lo 0 0) 0 (.int (nI 0 + 1))) 1 (.ref e2))) e2 (104, 10, updV (fun _ => .null) 0 (.ref x))) r (6, 3, updV (updV (updV (xx_lo 0 0) 0 (.int (nI 0 + 1))) 1 (.ref e2)) 2 (.int (nI (0 + 1)))) = xx_up (xx_up h r (6, 3, xx_lo (0 + 1) e2)) e2 (104, 10, updV (fun _ => .null) 0 (.ref x)) by
      rw [xx_lo_add2]
      funext q
      simp only [xx_up]
      by_cases a1 : q = r <;> by_cases a2 : q = e <;> by_cases a3 : q = e2 <;> simp_all]
    refine sw_implode (hb := h) (r := r) (e := e2) (n9 := 0 + 1) (cap := 10) (ci := 6) (f := (fun j => if j = 0 then .ref x else f j)) (g := updV (fun _ => .null) 0 (.ref x)) (by decide) hcl he2 h1 h92 hre2 (by rw [hc]; rfl) (fun j hj => ?_) (fun j hj => ?_) ⟨by omega, by omega, by omega, by omega⟩ (by rw [hh, he2]; rfl) (List.forall_mem_cons.mpr ⟨(show (h r).isSome = true from (by rw [hc]; rfl)), (List.forall_mem_cons.mpr ⟨(show (h x).isSome = true from hx.is), (fun _ h => absurd h List.not_mem_nil)⟩)⟩) (fun _ h => absurd h List.not_mem_nil) ?_
    · unfold updV
      by_cases q : j = 0
      · rw [if_pos q, if_pos (by omega), if_pos q]
      · rw [if_neg q, if_neg q]
        by_cases q2 : j < 0
        · exact absurd q2 (Nat.not_lt_zero _)
        · simp only [if_neg q2, if_neg (show ¬ j < 0 + 1 by omega)] <;> (try rfl)
    · show xx_in h (if j = 0 then .ref x else f j)
      by_cases q : j = 0
      · rw [if_pos q]; exact hx.is
      · rw [if_neg q]; exact hcl r _ j hc (show j < 0 by omega)
    refine sw_iconst (x := 1) O (xx_dt dd_Jx4a65c_add_9ea2d 13 rfl) (by decide) ?_
    exact sw_iret O (xx_dt dd_Jx4a65c_add_9ea2d 14 rfl) rfl rfl (by rw [hQ]; exact ⟨rfl, rfl⟩)
/-! ===== a new list; iterators; Integers ===== -/
theorem ct_ACinit {l : Launch} {h : XH} (hl : l.stackTraces = false) {r : Nat}  : XEx l m_Jxa1e45_init_da8c8 1 0 0 [.ref r] (h) (none) (h) := by
  refine XMet.of hl rfl rfl (Nat.le_of_ble_eq_true rfl) (fun Y O hh hQ => ?_)
  show SW Y 0 0 (h) 0 [.ref r] []
  refine sw_aload_n O (xx_dt dd_Jxa1e45_init_da8c8 0 rfl) rfl ?_
  refine sw_objInit O oi_Jxa1e45_1 (xx_dt dd_Jxa1e45_init_da8c8 1 rfl) (by omega) (Nat.le_of_ble_eq_true rfl) ?_
  exact sw_ret O (xx_dt dd_Jxa1e45_init_da8c8 2 rfl) rfl (by rw [hQ]; exact ⟨rfl, rfl⟩)
theorem ct_ALinit0 {l : Launch} {h : XH} (hl : l.stackTraces = false) {r : Nat} {F : Nat → Value} (hr : h r = some (6, 3, F)) (h1 : 1000 ≤ r)  : XEx l m_Jxc12de_init_da8c8 2 0 0 [.ref r] (h) (none) (xx_up h r (6, 3, updV F 0 (.int 0))) := by
  refine XMet.of hl rfl rfl (Nat.le_of_ble_eq_true rfl) (fun Y O hh hQ => ?_)
  show SW Y 0 0 (h) 0 [.ref r] []
  refine sw_aload_n O (xx_dt dd_Jxc12de_init_da8c8 0 rfl) rfl ?_
  refine sw_callIx (as := []) (st := []) (st2 := []) O (ct_ACinit hl) ce_Jxa1e45_init_da8c8 ml_Jxc12de_1 ii_Jxa1e45_init_da8c8 (xx_dt dd_Jxc12de_init_da8c8 1 rfl) (by decide) rfl rfl (Nat.le_of_ble_eq_true rfl) rfl ?_
  refine sw_aload_n O (xx_dt dd_Jxc12de_init_da8c8 2 rfl) rfl ?_
  refine sw_iconst (x := 0) O (xx_dt dd_Jxc12de_init_da8c8 3 rfl) (by decide) ?_
  refine sw_put2 (h2 := xx_up h r (6, 3, updV F 0 (.int 0))) O (xx_dt dd_Jxc12de_init_da8c8 4 rfl) cl_Jx4a65c f2_Jxc12de_7 hr (by decide) h1 rfl (fun _ => ⟨rfl, rfl⟩) rfl ?_
  exact sw_ret O (xx_dt dd_Jxc12de_init_da8c8 5 rfl) rfl (by rw [hQ]; exact ⟨rfl, rfl⟩)
theorem ct_AL_init {l : Launch} {h : XH} (hl : l.stackTraces = false) {r : Nat} {F f0 : Nat → Value} (hr : h r = some (6, 3, F)) (h1 : 1000 ≤ r) (hF2 : ∀ k, 2 ≤ k → F k = vp_V [.int 0, .null, .int 0] k) (h0 : h 0 = some (104, 0, f0))  : XEx l m_Jx4a65c_init_da8c8 3 0 0 [.ref r] (h) (none) (xx_up h r (206, 0, fun _ => .null)) := by
  refine XMet.of hl rfl rfl (Nat.le_of_ble_eq_true rfl) (fun Y O hh hQ => ?_)
  have hr0 : (0 : Nat) ≠ r := by omega
  refine sw_cls (fun hcl => ?_)
  show SW Y 0 0 (h) 0 [.ref r] []
  refine sw_aload_n O (xx_dt dd_Jx4a65c_init_da8c8 0 rfl) rfl ?_
  refine sw_callIx (as := []) (st := []) (st2 := []) O (ct_ALinit0 hl hr h1) ce_Jxc12de_init_da8c8 ml_Jx4a65c_1 ii_Jxc12de_init_da8c8 (xx_dt dd_Jx4a65c_init_da8c8 1 rfl) (by decide) rfl rfl (Nat.le_of_ble_eq_true rfl) rfl ?_
  refine sw_aload_n O (xx_dt dd_Jx4a65c_init_da8c8 2 rfl) rfl ?_
  refine sw_getsR (i := 3) (r := 0) O (xx_dt dd_Jx4a65c_init_da8c8 3 rfl) rfl gs_Jx4a65c_39 (by rw [xx_up_ne hr0]; exact h0) (by omega) ?_
  refine sw_put (h2 := xx_up h r (6, 3, updV (updV F 0 (.int 0)) 1 (.ref 0))) O (xx_dt dd_Jx4a65c_init_da8c8 4 rfl) cl_Jx4a65c fl_Jx4a65c_9 (xx_up_eq _ _ _) (by decide) h1 rfl (fun _ => ⟨rfl, rfl⟩) xx_up_up ?_
  rw [show updV (updV F 0 (.int 0)) 1 (.ref 0) = xx_lo 0 0 by
    funext k
    unfold updV
    match k with
    | 0 => rfl
    | 1 => rfl
    | 2 => exact hF2 2 (Nat.le_refl _)
    | k + 3 => exact hF2 (k + 3) (by omega)]
  refine sw_implode0 (ci := 6) (f := fun _ => .null) (by decide) hcl h1 h0 ?_
  exact sw_ret O (xx_dt dd_Jx4a65c_init_da8c8 5 rfl) rfl (by rw [hQ]; exact ⟨rfl, rfl⟩)
theorem ct_It_init {l : Launch} {h : XH} (hl : l.stackTraces = false) {t r n : Nat} {F f : Nat → Value} (ht : h t = some (5, 4, F)) (h1 : 1000 ≤ t) (hc : h r = some (206, n, f)) (hF : F = fun j => defaultValue (tyJx35411 j))  : XEx l m_Jx35411_init_45d68 1 0 0 [.ref t, .ref r] (h) (none) (xx_up h t (5, 4, vp_V [.int 0, .int (-1), .int (nI n), .ref r])) := by
  refine XMet.of hl rfl rfl (Nat.le_of_ble_eq_true rfl) (fun Y O hh hQ => ?_)
  subst hF
  have hrt : r ≠ t := fun q => by rw [q, ht] at hc; cases hc
  rw [show vp_V [.int 0, .int (-1), .int (nI n), .ref r] = updV (updV (updV (fun j => defaultValue (tyJx35411 j)) 3 (.ref r)) 1 (.int (-1))) 2 (.int (nI n)) by
    funext k
    unfold updV
    match k with
    | 0 => rfl
    | 1 => rfl
    | 2 => rfl
    | 3 => rfl
    | k + 4 => rfl] at hQ
  show SW Y 0 0 (h) 0 [.ref t, .ref r] []
  refine sw_aload_n O (xx_dt dd_Jx35411_init_45d68 0 rfl) rfl ?_
  refine sw_aload_n O (xx_dt dd_Jx35411_init_45d68 1 rfl) rfl ?_
  refine sw_putF (h2 := xx_up h t (5, 4, updV (fun j => defaultValue (tyJx35411 j)) 3 (.ref r))) O (xx_dt dd_Jx35411_init_45d68 2 rfl) cl_Jx35411 fz_Jx35411_1 ht (by decide) h1 rfl rfl (fun _ => ⟨rfl, rfl⟩) rfl ?_
  refine sw_aload_n O (xx_dt dd_Jx35411_init_45d68 3 rfl) rfl ?_
  refine sw_objInit O oi_Jx35411_7 (xx_dt dd_Jx35411_init_45d68 4 rfl) (by omega) (Nat.le_of_ble_eq_true rfl) ?_
  refine sw_aload_n O (xx_dt dd_Jx35411_init_45d68 5 rfl) rfl ?_
  refine sw_iconst (x := (-1)) O (xx_dt dd_Jx35411_init_45d68 6 rfl) (by decide) ?_
  refine sw_put (h2 := xx_up h t (5, 4, updV (updV (fun j => defaultValue (tyJx35411 j)) 3 (.ref r)) 1 (.int (-1)))) O (xx_dt dd_Jx35411_init_45d68 7 rfl) cl_Jx35411 fl_Jx35411_13 (xx_up_eq _ _ _) (by decide) h1 rfl (fun _ => ⟨rfl, rfl⟩) xx_up_up ?_
  refine sw_aload_n O (xx_dt dd_Jx35411_init_45d68 8 rfl) rfl ?_
  refine sw_aload_n O (xx_dt dd_Jx35411_init_45d68 9 rfl) rfl ?_
  refine sw_get (v := .ref r) O (xx_dt dd_Jx35411_init_45d68 10 rfl) cl_Jx35411 fl_Jx35411_1 (xx_up_eq _ _ _) (by decide) rfl ?_
  refine sw_getL (ci := 6) O (xx_dt dd_Jx35411_init_45d68 11 rfl) cl_Jx4a65c f2_Jx35411_17 (by rw [xx_up_ne hrt]; exact hc) (.inl rfl) ?_
  refine sw_put (h2 := xx_up h t (5, 4, updV (updV (updV (fun j => defaultValue (tyJx35411 j)) 3 (.ref r)) 1 (.int (-1))) 2 (.int (nI n)))) O (xx_dt dd_Jx35411_init_45d68 12 rfl) cl_Jx35411 fl_Jx35411_22 (xx_up_eq _ _ _) (by decide) h1 rfl (fun _ => ⟨rfl, rfl⟩) xx_up_up ?_
  exact sw_ret O (xx_dt dd_Jx35411_init_45d68 13 rfl) rfl (by rw [hQ]; exact ⟨rfl, rfl⟩)
theorem ct_AL_iterator {l : Launch} {h : XH} (hl : l.stackTraces = false) {r n : Nat} {f : Nat → Value} (hc : h r = some (206, n, f)) {t : Nat} (ht : h t = none) (h1 : 1000 ≤ t)  : XEx l m_Jx4a65c_iterator_32c93 2 1 4 [.ref r] (h) (some (.ref t)) (xx_up h t (5, 4, vp_V [.int 0, .int (-1), .int (nI n), .ref r])) := by
  refine XMet.of hl rfl rfl (Nat.le_of_ble_eq_true rfl) (fun Y O hh hQ => ?_)
  have hrt : r ≠ t := fun q => by rw [q, ht] at hc; cases hc
  show SW Y 1 4 (h) 0 [.ref r] []
  refine sw_new (k := 0) (n := 0) (r := t) O (xx_dt dd_Jx4a65c_iterator_32c93 0 rfl) cl_Jx35411 nw_Jx4a65c_267 ht h1 ?_
  rw [xx_blk_up]
  refine sw_dup O (xx_dt dd_Jx4a65c_iterator_32c93 1 rfl) rfl ?_
  refine sw_aload_n O (xx_dt dd_Jx4a65c_iterator_32c93 2 rfl) rfl ?_
  refine sw_callIx (as := [.ref r]) (st := [.ref t]) (st2 := [.ref t]) O (ct_It_init hl (n := n) (f := f) (xx_up_eq _ _ _) h1 (by rw [xx_up_ne hrt]; exact hc) rfl) ce_Jx35411_init_45d68 ml_Jx4a65c_269 ii_Jx35411_init_45d68 (xx_dt dd_Jx4a65c_iterator_32c93 3 rfl) (by decide) rfl rfl (Nat.le_of_ble_eq_true rfl) rfl ?_
  rw [xx_up_up]
  exact sw_aret O (xx_dt dd_Jx4a65c_iterator_32c93 4 rfl) rfl (.inl ⟨_, rfl⟩) (by rw [hQ]; exact ⟨rfl, rfl⟩)
theorem ct_It_hasNext {l : Launch} {h : XH} (hl : l.stackTraces = false) {t r n i : Nat} {la : Int32} {f : Nat → Value} (ht : h t = some (5, 4, vp_V [.int (nI i), .int la, .int (nI n), .ref r])) (h1 : 1000 ≤ t) (hc : h r = some (206, n, f)) (hn : n < 2147483648) (hi : i ≤ n)  : XEx l m_Jx35411_hasNext_aae02 0 0 0 [.ref t] (h) (some (.int (if i < n then 1 else 0))) (h) := by
  refine XMet.of hl rfl rfl (Nat.le_of_ble_eq_true rfl) (fun Y O hh hQ => ?_)
  show SW Y 0 0 (h) 0 [.ref t] []
  refine sw_aload_n O (xx_dt dd_Jx35411_hasNext_aae02 0 rfl) rfl ?_
  refine sw_get (v := .int (nI i)) O (xx_dt dd_Jx35411_hasNext_aae02 1 rfl) cl_Jx35411 fl_Jx35411_25 ht (by decide) rfl ?_
  refine sw_aload_n O (xx_dt dd_Jx35411_hasNext_aae02 2 rfl) rfl ?_
  refine sw_get (v := .ref r) O (xx_dt dd_Jx35411_hasNext_aae02 3 rfl) cl_Jx35411 fl_Jx35411_1 ht (by decide) rfl ?_
  refine sw_getL (ci := 6) O (xx_dt dd_Jx35411_hasNext_aae02 4 rfl) cl_Jx4a65c f2_Jx35411_28 hc (.inr rfl) ?_
  refine sw_icmp_eq (tgt := 18) O (xx_dt dd_Jx35411_hasNext_aae02 5 rfl) (by decide) (fun q => ?_) (fun q => ?_)
  · refine sw_iconst (x := 0) O (xx_dt dd_Jx35411_hasNext_aae02 8 rfl) (by decide) ?_
    exact sw_iret O (xx_dt dd_Jx35411_hasNext_aae02 9 rfl) rfl rfl (by rw [hQ]; exact ⟨by rw [if_neg (fun e => absurd ((cn_nI (k := i) (by omega)).symm.trans ((congrArg cn q).trans (cn_nI (k := n) (by omega)))) (by omega))], rfl⟩)
  · refine sw_iconst (x := 1) O (xx_dt dd_Jx35411_hasNext_aae02 6 rfl) (by decide) ?_
    refine sw_goto (tgt := 19) O (xx_dt dd_Jx35411_hasNext_aae02 7 rfl) (by decide) ?_
    exact sw_iret O (xx_dt dd_Jx35411_hasNext_aae02 9 rfl) rfl rfl (by rw [hQ]; exact ⟨by rw [if_pos (Nat.lt_of_le_of_ne hi (fun e => q (by rw [e])))], rfl⟩)
theorem ct_It_check {l : Launch} {h : XH} (hl : l.stackTraces = false) {t r n i : Nat} {la : Int32} {f : Nat → Value} (ht : h t = some (5, 4, vp_V [.int (nI i), .int la, .int (nI n), .ref r])) (h1 : 1000 ≤ t) (hc : h r = some (206, n, f)) (hn : n < 2147483648)  : XEx l m_Jx35411_checkForComodification_da8c8 0 0 0 [.ref t] (h) (none) (h) := by
  refine XMet.of hl rfl rfl (Nat.le_of_ble_eq_true rfl) (fun Y O hh hQ => ?_)
  show SW Y 0 0 (h) 0 [.ref t] []
  refine sw_aload_n O (xx_dt dd_Jx35411_checkForComodification_da8c8 0 rfl) rfl ?_
  refine sw_get (v := .ref r) O (xx_dt dd_Jx35411_checkForComodification_da8c8 1 rfl) cl_Jx35411 fl_Jx35411_1 ht (by decide) rfl ?_
  refine sw_getL (ci := 6) O (xx_dt dd_Jx35411_checkForComodification_da8c8 2 rfl) cl_Jx4a65c f2_Jx35411_17 hc (.inl rfl) ?_
  refine sw_aload_n O (xx_dt dd_Jx35411_checkForComodification_da8c8 3 rfl) rfl ?_
  refine sw_get (v := .int (nI n)) O (xx_dt dd_Jx35411_checkForComodification_da8c8 4 rfl) cl_Jx35411 fl_Jx35411_22 ht (by decide) rfl ?_
  refine sw_icmp_eq (tgt := 22) O (xx_dt dd_Jx35411_checkForComodification_da8c8 5 rfl) (by decide) (fun q => ?_) (fun q => absurd rfl q)
  exact sw_ret O (xx_dt dd_Jx35411_checkForComodification_da8c8 10 rfl) rfl (by rw [hQ]; exact ⟨rfl, rfl⟩)
theorem it_cur {i : Nat} {la : Int32} {n r : Nat} : updV (vp_V [.int (nI i), .int la, .int (nI n), .ref r]) 0 (.int (nI (i + 1))) = vp_V [.int (nI (i + 1)), .int la, .int (nI n), .ref r] := by
  funext k
  unfold updV
  match k with
  | 0 => rfl
  | 1 => rfl
  | 2 => rfl
  | 3 => rfl
  | k + 4 => rfl
theorem it_las {i : Nat} {la : Int32} {n r : Nat} : updV (vp_V [.int (nI (i + 1)), .int la, .int (nI n), .ref r]) 1 (.int (nI i)) = vp_V [.int (nI (i + 1)), .int (nI i), .int (nI n), .ref r] := by
  funext k
  unfold updV
  match k with
  | 0 => rfl
  | 1 => rfl
  | 2 => rfl
  | 3 => rfl
  | k + 4 => rfl
theorem ct_It_next {l : Launch} {h : XH} (hl : l.stackTraces = false) {t r n i : Nat} {la : Int32} {f : Nat → Value} (ht : h t = some (5, 4, vp_V [.int (nI i), .int la, .int (nI n), .ref r])) (h1 : 1000 ≤ t) (hc : h r = some (206, n, f)) (hn : n < 2147483648) {e : Nat} (he : h e = none) (h9 : 1000 ≤ e) (hr1 : 1000 ≤ r) {f0 : Nat → Value} (h0 : h 0 = some (104, 0, f0)) {x : Nat} (hi : i < n) (hx : f i = .ref x)  : XEx l m_Jx35411_next_0502b 1 0 0 [.ref t] (h) (some (.ref x)) (xx_up h t (5, 4, vp_V [.int (nI (i + 1)), .int (nI i), .int (nI n), .ref r])) := by
  refine XMet.of hl rfl rfl (Nat.le_of_ble_eq_true rfl) (fun Y O hh hQ => ?_)
  have hrt : r ≠ t := fun q => by rw [q, ht] at hc; cases hc
  have hre : r ≠ e := fun q => by rw [q, he] at hc; cases hc
  have hte : t ≠ e := fun q => by rw [q, he] at ht; cases ht
  refine sw_cls (fun hcl => ?_)
  have hxi : (h x).isSome = true := by have := hcl r _ i hc hi; rw [show (206, n, f).2.2 i = f i from rfl, hx] at this; exact this
  show SW Y 0 0 (h) 0 [.ref t, xx_d, xx_d] []
  refine sw_aload_n O (xx_dt dd_Jx35411_next_0502b 0 rfl) rfl ?_
  refine sw_callVx (as := []) (st := []) (st2 := []) O (ct_It_check hl ht h1 hc hn) ce_Jx35411_checkForComodification_da8c8 ml_Jx35411_31 iv_Jx35411_checkForComodification_da8c8 cl_Jx35411 rfl (ht) (xx_dt dd_Jx35411_next_0502b 1 rfl) (by decide) rfl rfl (Nat.le_of_ble_eq_true rfl) rfl ?_
  refine sw_aload_n O (xx_dt dd_Jx35411_next_0502b 2 rfl) rfl ?_
  refine sw_get (v := .int (nI i)) O (xx_dt dd_Jx35411_next_0502b 3 rfl) cl_Jx35411 fl_Jx35411_25 ht (by decide) rfl ?_
  refine sw_istore_n (ls2 := [.ref t, .int (nI i), xx_d]) O (xx_dt dd_Jx35411_next_0502b 4 rfl) (by decide) rfl ?_
  refine sw_iload_n O (xx_dt dd_Jx35411_next_0502b 5 rfl) rfl ?_
  refine sw_aload_n O (xx_dt dd_Jx35411_next_0502b 6 rfl) rfl ?_
  refine sw_get (v := .ref r) O (xx_dt dd_Jx35411_next_0502b 7 rfl) cl_Jx35411 fl_Jx35411_1 ht (by decide) rfl ?_
  refine sw_getL (ci := 6) O (xx_dt dd_Jx35411_next_0502b 8 rfl) cl_Jx4a65c f2_Jx35411_28 hc (.inr rfl) ?_
  refine sw_icmp_lt (tgt := 28) O (xx_dt dd_Jx35411_next_0502b 9 rfl) (by decide) (fun q => ?_) (fun q => absurd ((nI_ltI (a := i) (b := n) (by omega) (by omega)).mpr hi) q)
  refine sw_explode (ci := 6) (by decide) hc hr1 he h9 h0 (fun cap hcap => ?_) (fun e0 => absurd hi (by omega))
  refine sw_aload_n O (xx_dt dd_Jx35411_next_0502b 14 rfl) rfl ?_
  refine sw_get (v := .ref r) O (xx_dt dd_Jx35411_next_0502b 15 rfl) cl_Jx35411 fl_Jx35411_1 (by rw [xx_up_ne hte, xx_up_ne (Ne.symm hrt)]; exact ht) (by decide) rfl ?_
  refine sw_get2 (v := .ref e) O (xx_dt dd_Jx35411_next_0502b 16 rfl) cl_Jx4a65c ⟨fl_Jx35411_37.1, .inl fl_Jx35411_37.2⟩ (by rw [xx_up_ne hre, xx_up_eq]) (by decide) rfl ?_
  refine sw_astore_n (ls2 := [.ref t, .int (nI i), .ref e]) O (xx_dt dd_Jx35411_next_0502b 17 rfl) (by decide) rfl ?_
  refine sw_iload_n O (xx_dt dd_Jx35411_next_0502b 18 rfl) rfl ?_
  refine sw_aload_n O (xx_dt dd_Jx35411_next_0502b 19 rfl) rfl ?_
  refine sw_alen (t := 104) O (xx_dt dd_Jx35411_next_0502b 20 rfl) (by omega) (by omega) (xx_up_eq _ _ _) ?_
  refine sw_icmp_lt (tgt := 50) O (xx_dt dd_Jx35411_next_0502b 21 rfl) (by decide) (fun q => ?_) (fun q => absurd ((nI_ltI (a := i) (b := cap) (by omega) (by omega)).mpr (by omega)) q)
  refine sw_aload_n O (xx_dt dd_Jx35411_next_0502b 26 rfl) rfl ?_
  refine sw_iload_n O (xx_dt dd_Jx35411_next_0502b 27 rfl) rfl ?_
  refine sw_iconst (x := 1) O (xx_dt dd_Jx35411_next_0502b 28 rfl) (by decide) ?_
  refine sw_iadd O (xx_dt dd_Jx35411_next_0502b 29 rfl) ?_
  rw [nI_a1 i]
  refine sw_put (h2 := xx_up (xx_up (xx_up h t (5, 4, vp_V [.int (nI (i + 1)), .int la, .int (nI n), .ref r])) r (6, 3, xx_lo n e)) e (104, cap, fun j => if j < n then f j else .null)) O (xx_dt dd_Jx35411_next_0502b 30 rfl) cl_Jx35411 fl_Jx35411_25 (by rw [xx_up_ne hte, xx_up_ne (Ne.symm hrt)]; exact ht) (by decide) h1 rfl (fun _ => ⟨rfl, rfl⟩) (by rw [it_cur, ← xx_up_sw hte, ← xx_up_sw (Ne.symm hrt)]) ?_
  refine sw_aload_n O (xx_dt dd_Jx35411_next_0502b 31 rfl) rfl ?_
  refine sw_aload_n O (xx_dt dd_Jx35411_next_0502b 32 rfl) rfl ?_
  refine sw_iload_n O (xx_dt dd_Jx35411_next_0502b 33 rfl) rfl ?_
  refine sw_dup_x1 O (xx_dt dd_Jx35411_next_0502b 34 rfl) rfl rfl ?_
  refine sw_put (h2 := xx_up (xx_up (xx_up h t (5, 4, vp_V [.int (nI (i + 1)), .int (nI i), .int (nI n), .ref r])) r (6, 3, xx_lo n e)) e (104, cap, fun j => if j < n then f j else .null)) O (xx_dt dd_Jx35411_next_0502b 35 rfl) cl_Jx35411 fl_Jx35411_13 (by rw [xx_up_ne hte, xx_up_ne (Ne.symm hrt), xx_up_eq]) (by decide) h1 rfl (fun _ => ⟨rfl, rfl⟩) (by rw [it_las, ← xx_up_sw hte, ← xx_up_sw (Ne.symm hrt), xx_up_up]) ?_
  refine sw_aaload (v := .ref x) O (xx_dt dd_Jx35411_next_0502b 36 rfl) (by omega) (by omega) (xx_up_eq _ _ _) (pk_in i cap (by omega)) (by rw [nI_clamp (by omega), if_pos hi]; exact hx) ?_
  refine sw_dum (ls2 := [.ref t, .int (nI i), xx_d]) ⟨.inr rfl, .inr rfl, .inl rfl, trivial⟩ ?_
  have hcl2 : xx_cls (xx_up h t (5, 4, vp_V [.int (nI (i + 1)), .int (nI i), .int (nI n), .ref r])) := hcl.up (fun j hj => by
    match j with
    | 0 => exact trivial
    | 1 => exact trivial
    | 2 => exact trivial
    | 3 => exact xx_up_in (by rw [hc]; rfl)
    | j + 4 => exact trivial)
  refine sw_implode (hb := (xx_up h t (5, 4, vp_V [.int (nI (i + 1)), .int (nI i), .int (nI n), .ref r]))) (r := r) (e := e) (n9 := n) (cap := cap) (ci := 6) (f := f) (g := fun j => if j < n then f j else .null) (by decide) hcl2 (by rw [xx_up_ne (Ne.symm hte)]; exact he) hr1 h9 hre (xx_up_in (by rw [hc]; rfl)) (fun j hj => rfl) (fun j hj => xx_in_up (hcl r _ j hc hj)) hcap (by rw [hh, he]; rfl) (List.forall_mem_cons.mpr ⟨(xx_up_in (show (h t).isSome = true by rw [ht]; rfl)), (List.forall_mem_cons.mpr ⟨trivial, (List.forall_mem_cons.mpr ⟨trivial, (fun _ h => absurd h List.not_mem_nil)⟩)⟩)⟩) (List.forall_mem_cons.mpr ⟨(xx_up_in hxi), (fun _ h => absurd h List.not_mem_nil)⟩) ?_
  rw [xx_up_self (by rw [xx_up_ne hrt]; exact hc)]
  exact sw_aret O (xx_dt dd_Jx35411_next_0502b 37 rfl) rfl (.inl ⟨_, rfl⟩) (by rw [hQ]; exact ⟨rfl, rfl⟩)
theorem ct_intValue {l : Launch} {h : XH} (hl : l.stackTraces = false) {x : Nat} {F : Nat → Value} {v : Int32} (hx : h x = some (2, 1, F)) (hv : F 0 = .int v)  : XEx l m_J6_intValue_8abf5 0 0 0 [.ref x] (h) (some (.int v)) (h) := by
  refine XMet.of hl rfl rfl (Nat.le_of_ble_eq_true rfl) (fun Y O hh hQ => ?_)
  show SW Y 0 0 (h) 0 [.ref x] []
  refine sw_aload_n O (xx_dt dd_J6_intValue_8abf5 0 rfl) rfl ?_
  refine sw_get (v := .int v) O (xx_dt dd_J6_intValue_8abf5 1 rfl) cl_J6 fl_J6_205 hx (by decide) hv ?_
  exact sw_iret O (xx_dt dd_J6_intValue_8abf5 2 rfl) rfl rfl (by rw [hQ]; exact ⟨rfl, rfl⟩)
theorem ct_Ninit {l : Launch} {h : XH} (hl : l.stackTraces = false) {r : Nat}  : XEx l m_Jxd2413_init_da8c8 1 0 0 [.ref r] (h) (none) (h) := by
  refine XMet.of hl rfl rfl (Nat.le_of_ble_eq_true rfl) (fun Y O hh hQ => ?_)
  show SW Y 0 0 (h) 0 [.ref r] []
  refine sw_aload_n O (xx_dt dd_Jxd2413_init_da8c8 0 rfl) rfl ?_
  refine sw_objInit O oi_Jxd2413_1 (xx_dt dd_Jxd2413_init_da8c8 1 rfl) (by omega) (Nat.le_of_ble_eq_true rfl) ?_
  exact sw_ret O (xx_dt dd_Jxd2413_init_da8c8 2 rfl) rfl (by rw [hQ]; exact ⟨rfl, rfl⟩)
theorem ct_Iinit {l : Launch} {h : XH} (hl : l.stackTraces = false) {r : Nat} {F : Nat → Value} {v : Int32} (hr : h r = some (2, 1, F)) (h1 : 1000 ≤ r)  : XEx l m_J6_init_d00df 2 0 0 [.ref r, .int v] (h) (none) (xx_up h r (2, 1, updV F 0 (.int v))) := by
  refine XMet.of hl rfl rfl (Nat.le_of_ble_eq_true rfl) (fun Y O hh hQ => ?_)
  show SW Y 0 0 (h) 0 [.ref r, .int v] []
  refine sw_aload_n O (xx_dt dd_J6_init_d00df 0 rfl) rfl ?_
  refine sw_callIx (as := []) (st := []) (st2 := []) O (ct_Ninit hl) ce_Jxd2413_init_da8c8 ml_J6_202 ii_Jxd2413_init_da8c8 (xx_dt dd_J6_init_d00df 1 rfl) (by decide) rfl rfl (Nat.le_of_ble_eq_true rfl) rfl ?_
  refine sw_aload_n O (xx_dt dd_J6_init_d00df 2 rfl) rfl ?_
  refine sw_iload_n O (xx_dt dd_J6_init_d00df 3 rfl) rfl ?_
  refine sw_putF (h2 := xx_up h r (2, 1, updV F 0 (.int v))) O (xx_dt dd_J6_init_d00df 4 rfl) cl_J6 fz_J6_205 hr (by decide) h1 rfl rfl (fun _ => ⟨rfl, rfl⟩) rfl ?_
  exact sw_ret O (xx_dt dd_J6_init_d00df 5 rfl) rfl (by rw [hQ]; exact ⟨rfl, rfl⟩)
/-- which box valueOf answers: a kept one, or the new one -/
abbrev xx_small (v : Int32) : Prop := ¬ v < -128 ∧ ¬ (127 : Int32) < v
def xx_box (v : Int32) (e : Nat) : Nat := if xx_small v then 200 + cn (v + 128) else e
theorem small_nat {v : Int32} (h : xx_small v) : v + 128 = nI (cn (v + 128)) ∧ cn (v + 128) < 256 := by
  have h1 : (-128 : Int32).toInt = -128 := rfl
  have h2 : (127 : Int32).toInt = 127 := rfl
  have h3 := h.1
  have h4 := h.2
  rw [i_lt] at h3 h4
  have h5 : (v + 128).toInt = v.toInt + 128 := by
    rw [Int32.toInt_add]
    have h6 : (128 : Int32).toInt = 128 := rfl
    rw [h6]
    exact Int.bmod_eq_of_le (by omega) (by omega)
  obtain ⟨c1, c2⟩ := cn_of (x := v + 128) (i_le.mpr (by rw [h5]; show (0 : Int) ≤ _; omega))
  exact ⟨c1, by omega⟩
theorem ct_valueOf {l : Launch} {h : XH} (hl : l.stackTraces = false) {v : Int32} {e : Nat} (he : h e = none) (h9 : 1000 ≤ e) (hca : h 1 = some (105, 256, fun j => .ref (200 + j)))  : XEx l m_J6_valueOf_2dffe 3 1 1 [.int v] (h) (some (.ref (xx_box v e))) (if xx_small v then h else xx_up h e (2, 1, updV (fun j => defaultValue (tyJ6 j)) 0 (.int v))) := by
  refine XMet.of hl rfl rfl (Nat.le_of_ble_eq_true rfl) (fun Y O hh hQ => ?_)
  show SW Y 1 1 (h) 0 [.int v] []
  refine sw_iload_n O (xx_dt dd_J6_valueOf_2dffe 0 rfl) rfl ?_
  refine sw_bipush (x := (-128)) O (xx_dt dd_J6_valueOf_2dffe 1 rfl) (by decide) ?_
  refine sw_icmp_lt (tgt := 23) O (xx_dt dd_J6_valueOf_2dffe 2 rfl) (by decide) (fun q => ?_) (fun q => ?_)
  · refine sw_new (k := 0) (n := 0) (r := e) O (xx_dt dd_J6_valueOf_2dffe 12 rfl) cl_J6 nw_J6_1 he h9 ?_
    rw [xx_blk_up]
    refine sw_dup O (xx_dt dd_J6_valueOf_2dffe 13 rfl) rfl ?_
    refine sw_iload_n O (xx_dt dd_J6_valueOf_2dffe 14 rfl) rfl ?_
    refine sw_callIx (as := [.int v]) (st := [.ref e]) (st2 := [.ref e]) O (ct_Iinit hl (v := v) (xx_up_eq _ _ _) h9) ce_J6_init_d00df ml_J6_199 ii_J6_init_d00df (xx_dt dd_J6_valueOf_2dffe 15 rfl) (by decide) rfl rfl (Nat.le_of_ble_eq_true rfl) rfl ?_
    rw [xx_up_up]
    exact sw_aret O (xx_dt dd_J6_valueOf_2dffe 16 rfl) rfl (.inl ⟨_, rfl⟩) (by rw [hQ]; have hn : ¬ xx_small v := fun z => z.1 q; unfold xx_box; rw [if_neg hn, if_neg hn]; exact ⟨rfl, rfl⟩)
  · refine sw_iload_n O (xx_dt dd_J6_valueOf_2dffe 3 rfl) rfl ?_
    refine sw_gets (i := 1) O (xx_dt dd_J6_valueOf_2dffe 4 rfl) rfl gs_J6_191 ?_
    refine sw_icmp_gt (tgt := 23) O (xx_dt dd_J6_valueOf_2dffe 5 rfl) (by decide) (fun q2 => ?_) (fun q2 => ?_)
    · refine sw_new (k := 0) (n := 0) (r := e) O (xx_dt dd_J6_valueOf_2dffe 12 rfl) cl_J6 nw_J6_1 he h9 ?_
      rw [xx_blk_up]
      refine sw_dup O (xx_dt dd_J6_valueOf_2dffe 13 rfl) rfl ?_
      refine sw_iload_n O (xx_dt dd_J6_valueOf_2dffe 14 rfl) rfl ?_
      refine sw_callIx (as := [.int v]) (st := [.ref e]) (st2 := [.ref e]) O (ct_Iinit hl (v := v) (xx_up_eq _ _ _) h9) ce_J6_init_d00df ml_J6_199 ii_J6_init_d00df (xx_dt dd_J6_valueOf_2dffe 15 rfl) (by decide) rfl rfl (Nat.le_of_ble_eq_true rfl) rfl ?_
      rw [xx_up_up]
      exact sw_aret O (xx_dt dd_J6_valueOf_2dffe 16 rfl) rfl (.inl ⟨_, rfl⟩) (by rw [hQ]; have hn : ¬ xx_small v := fun z => z.2 q2; unfold xx_box; rw [if_neg hn, if_neg hn]; exact ⟨rfl, rfl⟩)
    · have hn : xx_small v := ⟨q, q2⟩
      obtain ⟨c1, c2⟩ := small_nat hn
      refine sw_getsR (i := 2) (r := 1) O (xx_dt dd_J6_valueOf_2dffe 6 rfl) rfl gs_J6_195 hca (by omega) ?_
      refine sw_iload_n O (xx_dt dd_J6_valueOf_2dffe 7 rfl) rfl ?_
      refine sw_sipush (x := 128) O (xx_dt dd_J6_valueOf_2dffe 8 rfl) (by decide) ?_
      refine sw_iadd O (xx_dt dd_J6_valueOf_2dffe 9 rfl) ?_
      rw [c1]
      refine sw_aaload (v := .ref (200 + cn (v + 128))) O (xx_dt dd_J6_valueOf_2dffe 10 rfl) (by omega) (by omega) hca (pk_in _ 256 (by omega)) (by rw [nI_clamp (by omega)]) ?_
      exact sw_aret O (xx_dt dd_J6_valueOf_2dffe 11 rfl) rfl (.inl ⟨_, rfl⟩) (by rw [hQ]; unfold xx_box; rw [if_pos hn, if_pos hn]; exact ⟨rfl, rfl⟩)
end
