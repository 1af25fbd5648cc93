/-! ===== System.arraycopy of ints ===== -/
section
variable {Y : XY} {M : XM} {l : Launch} {d k n : Nat} {h : XH} {pc : Nat} {ls st : List Value} {ρ : Nat → Nat} {ow : Nat → Option Nat} {H : Heap} {locs : List Loc} {cells slots : Nat} {lsA : Array Slot}
theorem xx_R.putL {r : Nat} {c c' : XC} {st' : List Value} {H1 : Heap} {locs2 : List Loc} (r9 : xx_R Y k n h ls st ρ ow H locs cells slots lsA) (hc : h r = some c) (h1 : 1000 ≤ r) (z : H1.size = H.size) (o : ∀ a, a ≠ ρ r → H1[a]? = H[a]?) (hlc : ∀ q ∈ locs2, q ∈ locs ∨ q.base = ρ r)
    (hcell : xx_cell (xy_D Y) ρ ow r c' H1) (hin : ∀ j, j < c'.2.1 → xx_in h (c'.2.2 j)) (hs : ∀ v ∈ st', xx_in h v) : xx_R Y k n (xx_up h r c') ls st' ρ ow H1 locs2 cells slots lsA := by
  obtain ⟨e, hl⟩ := xx_locs (k9 := 0) r9 hc h1
  refine ⟨r9.1.put hc h1 z (fun a ha => o a (fun q => ha (by rw [q]; exact e))) hcell hin, fun q hq => ⟨?_, (r9.2.1 q hq).2⟩, fun q hq => ?_, r9.2.2.2.1, r9.2.2.2.2.1, r9.L, fun v hv => xx_in_up (r9.lcl v hv), fun v hv => xx_in_up (hs v hv)⟩
  · unfold xx_up
    split
    · rfl
    · exact (r9.2.1 q hq).1
  · rcases hlc q hq with h3 | h3
    · exact r9.2.2.1 q h3
    · rw [h3]
      exact (r9.1.2.2.1 _ _ e).1
def xx_ac (own : String) (idx : Nat) : Prop := Cond.methodLink own idx arraycopyName ∈ xx_gws ∧ Cond.native arraycopyName ∈ xx_gws ∧ Cond.static arraycopyName ∈ xx_gws ∧ Cond.initialized "java/lang/System" ∈ xx_gws
theorem sw_copy {idx N0 N1 r0 r1 : Nat} {f g : Nat → Int32} {sp dp n9 : Int32} (O : xx_O Y M l d) (K : xx_ac M.2.2.2.2.1 idx) (hd : decode M.2.1 pc = .ok (.invokestatic idx, 3)) (hc0 : h r0 = some (100, N0, fun k => .int (f k))) (hc1 : h r1 = some (100, N1, fun k => .int (g k))) (h9 : 1000 ≤ r1) (h1 : ¬ sp < 0) (h2 : ¬ dp < 0) (h3 : ¬ n9 < 0) (h4 : sp.toNatClampNeg + n9.toNatClampNeg ≤ N0) (h5 : dp.toNatClampNeg + n9.toNatClampNeg ≤ N1)
    (hdd : 1 ≤ d) (hw : (st.map fun v => v.category).sum + (nativeFrameWords "java/lang/System" "arraycopy" 5 + 11) ≤ 40) {h2' : XH} (he : xx_up h r1 (100, N1, fun j => .int (va_cpy f g sp.toNatClampNeg dp.toNatClampNeg n9.toNatClampNeg j)) = h2') (kk : SW Y k n h2' (pc + 3) ls st) (hs0 : 1000 ≤ r0 := by omega) : SW Y k n h pc ls (.int n9 :: .int dp :: .ref r1 :: .int sp :: .ref r0 :: st) := by
  subst he
  intro ρ ow H locs cells slots lsA r9
  have nn : ∀ z : Int32, ¬ z < 0 → z.toInt = (z.toNatClampNeg : Int) := by
    intro z hz
    have hz0 : (0 : Int) ≤ z.toInt := by
      have := Int32.not_lt.mp hz
      simpa using Int32.le_iff_toInt_le.mp this
    show z.toInt = ((z.toInt.toNat : Nat) : Int)
    omega
  have hcat : ((st.map (xx_v ρ)).map fun v => v.category).sum = (st.map fun v => v.category).sum := by
    rw [List.map_map]
    refine congrArg List.sum (List.map_congr_left fun v _ => ?_)
    exact xx_v_cat ρ v
  obtain ⟨hK0, -⟩ := O.2.2.2.2.2.2.2.1.2.2 100 (by omega) (by omega)
  obtain ⟨q0, -⟩ := r9.arr O (by omega) (by omega) hc0 hs0
  obtain ⟨q1, -⟩ := r9.arr O (by omega) (by omega) hc1 h9
  generalize hcA : xd_A (xy_D Y) 100 = cA at hK0 q0 q1
  have q0' : H[ρ r0]? = some (vp_cell cA (N0, .inl f)) := q0
  have q1' : H[ρ r1]? = some (vp_cell cA (N1, .inl g)) := q1
  obtain ⟨-, k0, hk0, cm0, hkk0⟩ := hK0 N0 (fun j => .int (f j))
  obtain ⟨-, k1, hk1, cm1, hkk1⟩ := hK0 N1 (fun j => .int (g j))
  have hgw := O.2.2.2.2.2.1
  intro T hT X
  obtain ⟨vm', X', step⟩ := X.arraycopy O.1 O.2.2.2.2.2.2.1 (hgw _ K.1) (hgw _ K.2.1) (hgw _ K.2.2.1) (hgw _ K.2.2.2) (src := ρ r0) (dst := ρ r1) (cs := vp_cell cA (N0, .inl f)) (cd := vp_cell cA (N1, .inl g)) (srcPos := sp) (destPos := dp) (n := n9) (by rw [hT]; exact q0') (by rw [hT]; exact q1')
    (fun _ h => by cases h) (fun _ h => by cases h) (fun h => by cases h) (fun h => by cases h) hk0 hk1 hkk0 hkk1 (by simp [xx_aty, refKind]) h1 h2 h3
    (by rw [nn sp h1, nn n9 h3]; show ¬ _ > ((arrV cA N0 (fun j => .int (f j))).slots.size : Int); rw [arrV_size]; omega)
    (by rw [nn dp h2, nn n9 h3]; show ¬ _ > ((arrV cA N1 (fun j => .int (g j))).slots.size : Int); rw [arrV_size]; omega)
    (fun vm₁ _ i hi => by
      have e : (vp_cell cA (N0, .inl f)).slots.getD (sp.toNatClampNeg + i) .null = .int (f (sp.toNatClampNeg + i)) := by
        show (arrV cA N0 (fun j => .int (f j))).slots.getD _ _ = _
        rw [Array.getD_eq_getD_getElem?, arrV_read _ _ (by omega)]
        rfl
      refine ⟨?_, ?_⟩
      · rw [e]
        rfl
      · rw [e]
        exact trivial)
    (g := F0 (xt_m Y.1) pc lsA (.int n9 :: .int dp :: .ref (ρ r1) :: .int sp :: .ref (ρ r0) :: st.map (xx_v ρ))) rfl (by show lsA.size = _; exact r9.L.1) (rest := st.map (xx_v ρ)) rfl (by rw [O.2.1]; exact hd) (by exact Nat.le_trans hdd O.2.2.2.2.2.2.2.2.2.2.2.2.1) (by show 2 * 0 + _ + _ ≤ _; rw [hcat]; have h9 := O.2.2.2.2.2.2.2.2.2.2.2.2.2.1; omega)
  have e1 : copied (vp_cell cA (N0, .inl f)) (vp_cell cA (N1, .inl g)) sp dp n9 = vp_cell cA (N1, .inl (va_cpy f g sp.toNatClampNeg dp.toNatClampNeg n9.toNatClampNeg)) := va_copied (fun z => .int z) cA cA f g h4
  rw [e1] at X' step
  have hl : ρ r1 < H.size := (Array.getElem?_eq_some_iff.mp q1').1
  have hheap : ((T.setVm vm').setCell (ρ r1) (vp_cell cA (N1, .inl (va_cpy f g sp.toNatClampNeg dp.toNatClampNeg n9.toNatClampNeg)))).heap = H.setIfInBounds (ρ r1) (vp_cell cA (N1, .inl (va_cpy f g sp.toNatClampNeg dp.toNatClampNeg n9.toNatClampNeg))) := by rw [← hT]; rfl
  have oq : ∀ q : Nat, q ≠ ρ r1 → (H.setIfInBounds (ρ r1) (vp_cell cA (N1, .inl (va_cpy f g sp.toNatClampNeg dp.toNatClampNeg n9.toNatClampNeg))))[q]? = H[q]? := fun q hq => by simp [Array.getElem?_setIfInBounds, Ne.symm hq]
  have oe : (H.setIfInBounds (ρ r1) (vp_cell cA (N1, .inl (va_cpy f g sp.toNatClampNeg dp.toNatClampNeg n9.toNatClampNeg))))[ρ r1]? = some (vp_cell cA (N1, .inl (va_cpy f g sp.toNatClampNeg dp.toNatClampNeg n9.toNatClampNeg))) := by simp [Array.getElem?_setIfInBounds, hl]
  obtain ⟨t, a1, b1⟩ := kk ρ ow _ _ cells slots lsA (r9.putL hc1 h9 (by simp) oq (fun q hq => by
      rcases List.mem_append.mp hq with h | h
      · exact .inl h
      · obtain ⟨z, -, hz⟩ := List.mem_map.mp h
        exact .inr (by rw [← hz])) (by
      refine xx_cell.mk h9 ?_
      unfold xx_newc
      rw [if_neg (by show ¬ 100 < 100; omega), if_pos (by show 100 < 200; omega)]
      rw [show xd_A (xy_D Y) (100, N1, fun j => Value.int (va_cpy f g sp.toNatClampNeg dp.toNatClampNeg n9.toNatClampNeg j)).1 = cA from hcA]
      exact oe) (fun j _ => trivial) (xx_ht (xx_ht (xx_ht (xx_ht (xx_ht r9.stk)))))) _ hheap X'
  exact ⟨t, step t a1, b1⟩
end
