/-! ===== more rules: statics, casts, bytes, clones, arrays of references ===== -/
section
variable {Y : XY} {M : XM} {l : Launch} {d k n : Nat} {h : XH} {pc : Nat} {ls st : List Value} {ρ : Nat → Nat} {ow : Nat → Option Nat} {H : Heap} {locs : List Loc} {cells slots : Nat} {lsA : Array Slot}
theorem xx_old {r : Nat} {c : XC} (r9 : xx_R Y k n h ls st ρ ow H locs cells slots lsA) (hc : h r = some c) (h1 : r < 1000) : ρ r = xd_E (xy_D Y) r := by
  rcases (r9.1.2.2.2.1 r c hc).1 with ⟨-, -, e⟩ | ⟨e, -⟩
  · exact e
  · omega
theorem xx_vaS (O : xx_O Y M l d) (r9 : xx_R Y k n h ls st ρ ow H locs cells slots lsA) (hgr : (xt_s Y.1).heap.size ≤ H.size) : va_S (fun q => (xd_H (xy_D Y)).size ≤ q) (xt_s Y.1).heap H locs :=
  ⟨hgr, fun q h1 h2 => by rw [r9.1.2.1 q (Nat.not_le.mp h2), O.2.2.2.2.2.2.2.2.2.2.2.2.2.2.2 q (Nat.not_le.mp h2)], fun z hz => r9.2.2.1 z hz⟩
theorem sw_gets {idx i : Nat} {C nm ds : String} {z : Int32} (O : xx_O Y M l d) (hd : decode M.2.1 pc = .ok (.getstatic idx, 3)) (hq : xx_sts[i]? = some (C, nm, ds, .inl z)) (w : Cond.fieldLink M.2.2.2.2.1 idx C nm ds ∈ xx_gws) (kk : SW Y k n h (pc + 3) ls (.int z :: st)) : SW Y k n h pc ls st := by
  intro ρ ow H locs cells slots lsA r9 T hT Xs
  have hKK := O.2.2.2.2.2.2.2.1
  have hgr : (xt_s Y.1).heap.size ≤ H.size := by rw [← hT]; exact Xs.heapGrown
  have hold := O.2.2.2.2.2.2.2.2.2.2.2.2.2.2.2
  have hZ := (hKK.2.1.2.2.2.2.1 _ (List.mem_of_getElem? hq)).kept (fun a h1 _ => hold a h1)
  exact va_gets O.1 O.2.1 hZ (xx_vaS O r9 hgr) O.2.2.2.2.2.2.1 (O.2.2.2.2.2.1 _ w) (fun x hx => hx) hd (kk ρ ow H locs cells slots lsA (r9.to (xx_hc (a := .int z) trivial r9.stk))) T hT Xs
theorem sw_getsR {idx i r : Nat} {C nm ds : String} {c : XC} (O : xx_O Y M l d) (hd : decode M.2.1 pc = .ok (.getstatic idx, 3)) (hq : xx_sts[i]? = some (C, nm, ds, .inr r)) (w : Cond.fieldLink M.2.2.2.2.1 idx C nm ds ∈ xx_gws) (hc : h r = some c) (h1 : r < 1000) (kk : SW Y k n h (pc + 3) ls (.ref r :: st)) : SW Y k n h pc ls st := by
  intro ρ ow H locs cells slots lsA r9 T hT Xs
  have hKK := O.2.2.2.2.2.2.2.1
  have hgr : (xt_s Y.1).heap.size ≤ H.size := by rw [← hT]; exact Xs.heapGrown
  have hold := O.2.2.2.2.2.2.2.2.2.2.2.2.2.2.2
  have hZ := (hKK.2.1.2.2.2.2.1 _ (List.mem_of_getElem? hq)).kept (fun a h1 _ => hold a h1)
  have k1 := kk ρ ow H locs cells slots lsA (r9.to (xx_hc (a := .ref r) (by show (h r).isSome = true; rw [hc]; rfl) r9.stk))
  rw [show (Value.ref r :: st).map (xx_v ρ) = Value.ref (xd_E (xy_D Y) r) :: st.map (xx_v ρ) by rw [List.map_cons, ← xx_old r9 hc h1]; rfl] at k1
  exact va_gets O.1 O.2.1 hZ (xx_vaS O r9 hgr) O.2.2.2.2.2.2.1 (O.2.2.2.2.2.1 _ w) (fun x hx => hx) hd k1 T hT Xs
theorem xx_castR {X : String} {c : ClassId} {s : State} (hfc : s.vm.findClass X = some c) : va_Nw (.castable X X) s := by
  unfold va_Nw
  simp only [Cond.before, Cond.holds, Cond.value, hfc]
  rw [va_asg]
  rfl
theorem sw_castO {idx ci N r : Nat} {f : Nat → Value} {C : String} {T : u_T} {ty : Nat → FieldType} (O : xx_O Y M l d) (hd : decode M.2.1 pc = .ok (.checkcast idx, 3)) (K : xx_cl ci C T N ty) (hc : h r = some (ci, N, f)) (w : Cond.classLink M.2.2.2.2.1 idx C ∈ xx_gws) (kk : SW Y k n h (pc + 3) ls (.ref r :: st)) : SW Y k n h pc ls (.ref r :: st) := by
  intro ρ ow H locs cells slots lsA r9
  obtain ⟨⟨cell, q1, q2, q3, q4⟩, hS, hfc, kC, hkC, hkind⟩ := r9.obj O K hc
  exact va_castY O.1 O.2.1 O.2.2.2.2.2.2.1 (O.2.2.2.2.2.1 _ w) (xx_castR hfc) ⟨cell, q1, q3.1, by rw [q2]; exact hfc⟩ hd (kk ρ ow H locs cells slots lsA (r9.to r9.stk))
theorem xx_arrC (O : xx_O Y M l d) {t : Nat} (ht : t = 100 ∨ t = 101 ∨ t = 102) : (xt_s Y.1).vm.findClass (if t = 100 then "[I" else if t = 101 then "[Z" else "[B") = some (xd_A (xy_D Y) t) := by
  have h1 := (O.2.2.2.2.2.2.2.1.2.2 t (by omega) (by omega)).2 (by omega)
  rcases ht with rfl | rfl | rfl <;> exact h1
theorem sw_castA {idx t N r : Nat} {f : Nat → Value} (O : xx_O Y M l d) (hd : decode M.2.1 pc = .ok (.checkcast idx, 3)) (ht : t = 100 ∨ t = 101 ∨ t = 102) (hc : h r = some (t, N, f)) (w : Cond.classLink M.2.2.2.2.1 idx (if t = 100 then "[I" else if t = 101 then "[Z" else "[B") ∈ xx_gws) (kk : SW Y k n h (pc + 3) ls (.ref r :: st)) (hs0 : 1000 ≤ r := by omega) : SW Y k n h pc ls (.ref r :: st) := by
  intro ρ ow H locs cells slots lsA r9
  obtain ⟨q1, q2⟩ := r9.arr O (by omega) (by omega) hc hs0
  have hfc := xx_arrC O ht
  exact va_castY O.1 O.2.1 O.2.2.2.2.2.2.1 (O.2.2.2.2.2.1 _ w) (xx_castR hfc) ⟨_, q1, rfl, hfc⟩ hd (kk ρ ow H locs cells slots lsA (r9.to r9.stk))
theorem sw_baload {N r : Nat} {f : Nat → Value} {i : Int32} (O : xx_O Y M l d) (hd : decode M.2.1 pc = .ok (.baload, 1)) (hc : h r = some (102, N, f)) (hin : vp_in i N) {v : Value} (hv : f i.toNatClampNeg = v) (kk : SW Y k n h (pc + 1) ls (v :: st)) : SW Y k n h pc ls (.int i :: .ref r :: st) := by
  subst hv
  intro ρ ow H locs cells slots lsA r9
  obtain ⟨cell, q1, q2, q3, q4, q5, q6⟩ := r9.arrW O (by omega) (by omega) hc
  obtain ⟨i1, i2⟩ := xx_vpin2 hin q4
  exact W.bald O.1 O.2.1 q1 q2 q3 i1 (q6 _ i2) rfl rfl hd (kk ρ ow H locs cells slots lsA (r9.to (xx_hc (r9.1.2.2.2.2 r _ _ hc i2) (xx_ht (xx_ht r9.stk)))))
theorem sw_bastore {N r : Nat} {f : Nat → Value} {i x : Int32} (O : xx_O Y M l d) (hd : decode M.2.1 pc = .ok (.bastore, 1)) (hc : h r = some (102, N, f)) (hin : vp_in i N) (h1 : 1000 ≤ r) (hx : narrow .byte (.int x) = .int x) {h2 : XH} (he : xx_up h r (102, N, updV f i.toNatClampNeg (.int x)) = h2) (kk : SW Y k n h2 (pc + 1) ls st) : SW Y k n h pc ls (.int x :: .int i :: .ref r :: st) := by
  subst he
  intro ρ ow H locs cells slots lsA r9
  obtain ⟨q1, q2⟩ := r9.arr O (by omega) (by omega) hc h1
  obtain ⟨i1, i2⟩ := xx_vpin (cA := xd_A (xy_D Y) 102) (f := fun k => xx_v ρ (f k)) hin
  refine W.bast O.1 O.2.1 q1 q2 (fun q => by cases q) i1 rfl rfl hd (fun H' e1 e2 e3 => kk ρ ow H' _ cells slots lsA (r9.put hc h1 e2 e3 ?_ (fun j hj => ?_) (xx_ht (xx_ht (xx_ht r9.stk)))))
  · refine xx_cell.mk h1 ?_
    unfold xx_newc
    rw [if_neg (by show ¬ 102 < 100; omega), if_pos (by show 102 < 200; omega)]
    rw [hx] at e1
    rw [e1, arrV_store]
    refine congrArg some (xx_arr_eq fun j _ => ?_)
    show updV _ _ _ j = xx_v ρ (updV f _ _ j)
    unfold updV
    split <;> rfl
  · show xx_in h (updV f _ _ j)
    unfold updV
    split
    · exact trivial
    · exact r9.1.2.2.2.2 r _ j hc hj
theorem sw_i2b {x : Int32} (O : xx_O Y M l d) (hd : decode M.2.1 pc = .ok (.i2b, 1)) (kk : SW Y k n h (pc + 1) ls (.int x.toInt8.toInt32 :: st)) : SW Y k n h pc ls (.int x :: st) := fun ρ ow H locs cells slots lsA r => lv_i2b O.1 O.2.1 hd rfl (kk ρ ow H locs cells slots lsA (r.to (xx_hc (a := .int x.toInt8.toInt32) trivial (xx_ht r.stk))))
theorem sw_i2c {x : Int32} (O : xx_O Y M l d) (hd : decode M.2.1 pc = .ok (.i2c, 1)) (kk : SW Y k n h (pc + 1) ls (.int (x.toUInt32 % 65536).toInt32 :: st)) : SW Y k n h pc ls (.int x :: st) := fun ρ ow H locs cells slots lsA r => lv_i2c O.1 O.2.1 hd rfl (kk ρ ow H locs cells slots lsA (r.to (xx_hc (a := .int (x.toUInt32 % 65536).toInt32) trivial (xx_ht r.stk))))
theorem sw_pop2l {x : Int64} (O : xx_O Y M l d) (hd : decode M.2.1 pc = .ok (.pop2, 1)) (kk : SW Y k n h (pc + 1) ls st) : SW Y k n h pc ls (.long x :: st) := fun ρ ow H locs cells slots lsA r => lv_pop2_2 O.1 O.2.1 hd rfl (kk ρ ow H locs cells slots lsA (r.to (xx_ht r.stk)))
/-- what may lie in a row of objects -/
def xx_obO (h : XH) (x : Nat) : Prop := (∃ ci N f C T ty, xx_cl ci C T N ty ∧ h x = some (ci, N, f) ∧ Cond.castable C "java/lang/Object" ∈ xx_nws) ∨ ∃ N f, h x = some (100, N, f) ∧ Cond.castable "[I" "java/lang/Object" ∈ xx_nws ∧ 1000 ≤ x
theorem xx_any (O : xx_O Y M l d) (r9 : xx_R Y k n h ls st ρ ow H locs cells slots lsA) {x : Nat} (hx : xx_obO h x) : va_Any "java/lang/Object" (xt_s Y.1) H (ρ x) := by
  rcases hx with ⟨ci, N, f, C, T, ty, K, hc, hw⟩ | ⟨N, f, hc, hw, hs0⟩
  · obtain ⟨⟨cell, q1, q2, q3, q4⟩, hS, hfc, kC, hkC, hkind⟩ := r9.obj O K hc
    refine ⟨cell, q1, q3.1, ⟨kC, by rw [q2]; exact hkC⟩, fun comp h9 => ?_⟩
    obtain ⟨c0, t0, f1, f2, f3⟩ := Cond.castable_spec (O.2.2.2.2.2.2.2.2.1.use (args := #[]) hw)
    cases hfc.symm.trans f1
    cases h9.symm.trans f2
    rw [q2]
    exact f3
  · obtain ⟨q1, q2⟩ := r9.arr O (by omega) (by omega) hc hs0
    have hfc := xx_arrC O (t := 100) (.inl rfl)
    obtain ⟨kC, hkC, -⟩ := Vm.findClass_spec hfc
    refine ⟨_, q1, rfl, ⟨kC, hkC⟩, fun comp h9 => ?_⟩
    obtain ⟨c0, t0, f1, f2, f3⟩ := Cond.castable_spec (O.2.2.2.2.2.2.2.2.1.use (args := #[]) hw)
    cases hfc.symm.trans f1
    cases h9.symm.trans f2
    exact f3
theorem sw_aastore {N r x : Nat} {f : Nat → Value} {i : Int32} (O : xx_O Y M l d) (hd : decode M.2.1 pc = .ok (.aastore, 1)) (hc : h r = some (104, N, f)) (hin : vp_in i N) (h1 : 1000 ≤ r) (hx : xx_obO h x) {h2 : XH} (he : xx_up h r (104, N, updV f i.toNatClampNeg (.ref x)) = h2) (kk : SW Y k n h2 (pc + 1) ls st) : SW Y k n h pc ls (.ref x :: .int i :: .ref r :: st) := by
  subst he
  intro ρ ow H locs cells slots lsA r9
  obtain ⟨q1, q2⟩ := r9.arr O (by omega) (by omega) hc h1
  obtain ⟨i1, i2⟩ := xx_vpin (cA := xd_A (xy_D Y) 104) (f := fun k => xx_v ρ (f k)) hin
  obtain ⟨cellV, g1, g3, ⟨kC, hkC⟩, hasg⟩ := xx_any O r9 hx
  have hRA : va_RA (xt_s Y.1) (xd_A (xy_D Y) 104) (.object "java/lang/Object") := (O.2.2.2.2.2.2.2.1.2.2 104 (by omega) (by omega)).2 (by omega)
  obtain ⟨kA, comp, k1, k2, k3, -⟩ := hRA
  obtain ⟨kE, hkE, -⟩ := Vm.findClass_spec k3
  refine W.aast O.1 O.2.1 q1 (fun q h => by cases h) (fun h => by cases h) k1 k2 rfl hkE ⟨fun q => i1 (.inl q), Nat.not_le.mp fun q => i1 (.inr q)⟩ g1 (fun q h => by rw [h] at g3; cases g3) hkC (hasg _ k3) rfl rfl hd (fun H' e1 e2 e3 => kk ρ ow H' _ cells slots lsA (r9.put hc h1 e2 e3 ?_ (fun j hj => ?_) (xx_ht (xx_ht (xx_ht r9.stk)))))
  · refine xx_cell.mk h1 ?_
    unfold xx_newc
    rw [if_neg (by show ¬ 104 < 100; omega), if_pos (by show 104 < 200; omega)]
    rw [e1, arrV_store]
    refine congrArg some (xx_arr_eq fun j _ => ?_)
    show updV _ _ _ j = xx_v ρ (updV f _ _ j)
    unfold updV
    split <;> rfl
  · show xx_in h (updV f _ _ j)
    unfold updV
    split
    · exact xx_h0 r9.stk
    · exact r9.1.2.2.2.2 r _ j hc hj
theorem sw_anew {idx N r : Nat} {i : Int32} (O : xx_O Y M l d) (hd : decode M.2.1 pc = .ok (.anewarray idx, 3)) (w : Cond.classLink M.2.2.2.2.1 idx "java/lang/Object" ∈ xx_gws) (hn : ¬ i < 0) (hN : i.toNatClampNeg = N) (hb : N * 4 ≤ 536870912) (hr : h r = none) (h1 : 1000 ≤ r)
    (kk : SW Y k n (xx_blk h r 1 (fun _ => (104, N, fun _ => .null))) (pc + 3) ls (.ref r :: st)) : SW Y (k + 1) (n + N) h pc ls (.int i :: st) := by
  intro ρ ow H locs cells slots lsA r9
  have hKK := O.2.2.2.2.2.2.2.1
  have hw := O.2.2.2.2.2.1
  subst hN
  have hf : ∀ i, i < 1 → h (r + i) = none := fun i hi => by rw [show r + i = r by omega]; exact hr
  refine W.anew O.1 O.2.1 O.2.2.2.2.2.2.1 (hw _ w) (va_AO.use hKK.2.1.2.2.2.2.2.2.1) rfl hd rfl hn hb (by have := r9.2.2.2.1; omega) (by have := r9.2.2.2.2.1; omega) (fun cA kA comp f1 f2 f3 f4 => ?_)
  have hcA : cA = xd_A (xy_D Y) 104 := by
    obtain ⟨-, -, -, -, -, h4⟩ := (hKK.2.2 104 (by omega) (by omega)).2 (by omega)
    exact Option.some.inj (f1.symm.trans h4)
  have hρ : ∀ a, (h a).isSome = true → xx_ρn ρ r 1 H.size a = ρ a := fun a ha => if_neg (xx_blk_some (c := fun _ => (104, i.toNatClampNeg, fun _ => .null)) hf ha)
  have e5 : xx_ρn ρ r 1 H.size r = H.size := by
    unfold xx_ρn
    rw [if_pos ⟨by omega, by omega⟩]
    omega
  have R1 := r9.news (k := k) (n := n) (a := 1) (b := i.toNatClampNeg) (r0 := r) (N := 1) (c := fun _ => (104, i.toNatClampNeg, fun _ => .null)) (st' := .ref r :: st) (H1 := H.push { cls := cA, slots := Array.replicate i.toNatClampNeg .null, vm := .none }) (by omega) (by omega) hf h1 (by simp) (fun a ha => by rw [Array.getElem?_push, if_neg (Nat.ne_of_lt ha)]) (fun j hj => by
    obtain rfl : j = 0 := by omega
    refine xx_cell.mk (by omega) ?_
    unfold xx_newc
    rw [if_neg (show ¬ 104 < 100 by omega), if_pos (show 104 < 200 by omega)]
    show _[xx_ρn ρ r 1 H.size r]? = _
    rw [e5, arrV_new, hcA]
    simp only [Array.getElem?_push_size]
    exact congrArg some (xx_arr_eq fun j _ => rfl)) (fun i j _ _ => trivial) (xx_hc (by show (xx_blk h r 1 _ r).isSome = true; rw [xx_blk_0 (by omega)]; rfl) (fun v hv => xx_in_blk hf (xx_ht r9.stk v hv)))
  have k1 := kk _ _ _ locs _ _ lsA R1
  rw [show (Value.ref r :: st).map (xx_v (xx_ρn ρ r 1 H.size)) = Value.ref H.size :: st.map (xx_v ρ) by rw [List.map_cons, xx_map_eq hρ (xx_ht r9.stk)]; show Value.ref (xx_ρn ρ r 1 H.size r) :: _ = _; rw [e5]] at k1
  exact k1
end
