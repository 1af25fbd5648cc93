/-! ===== texts of the machine's own, and append(String) ===== -/
section
variable {Y : XY} {M : XM} {l : Launch} {d k n : Nat} {h : XH} {pc : Nat} {ls st : List Value} {ρ : Nat → Nat} {ow : Nat → Option Nat} {H : Heap} {locs : List Loc} {cells slots : Nat} {lsA : Array Slot}
theorem sw_copyD {idx N0 N1 r0 r1 : Nat} {f g : Nat → Value} {dp n9 : Int32} (O : xx_O Y M l d) (K : xx_ac M.2.2.2.2.1 idx) (hd : decode M.2.1 pc = .ok (.invokestatic idx, 3)) (hc0 : h r0 = some (102, N0, f)) (hc1 : h r1 = some (102, N1, g)) (h9 : 1000 ≤ r1) (h2 : ¬ dp < 0) (h3 : ¬ n9 < 0) (h4 : n9.toNatClampNeg ≤ N0) (h5 : dp.toNatClampNeg + n9.toNatClampNeg ≤ N1)
    (hel : ∀ j, j < n9.toNatClampNeg → ∃ z : Int32, f j = .int z ∧ fits .byte (.int z) = true)
    (hdd : 1 ≤ d) (hw : (st.map fun v => v.category).sum + (nativeFrameWords "java/lang/System" "arraycopy" 5 + 11) ≤ 40) {h2' : XH} (he : xx_up h r1 (102, N1, va_cpy f g 0 dp.toNatClampNeg n9.toNatClampNeg) = h2') (kk : SW Y k n h2' (pc + 3) ls st) : SW Y k n h pc ls (.int n9 :: .int dp :: .ref r1 :: .int 0 :: .ref r0 :: st) := by
  subst he
  intro ρ ow H locs cells slots lsA r9
  have nn : ∀ z : Int32, ¬ z < 0 → z.toInt = (z.toNatClampNeg : Int) := by
    intro z hz
    have hz0 : (0 : Int) ≤ z.toInt := by
      have := Int32.not_lt.mp hz
      simpa using Int32.le_iff_toInt_le.mp this
    show z.toInt = ((z.toInt.toNat : Nat) : Int)
    omega
  have hcat : ((st.map (xx_v ρ)).map fun v => v.category).sum = (st.map fun v => v.category).sum := by
    rw [List.map_map]
    exact congrArg List.sum (List.map_congr_left fun v _ => xx_v_cat ρ v)
  obtain ⟨hK0, -⟩ := O.2.2.2.2.2.2.2.1.2.2 102 (by omega) (by omega)
  obtain ⟨cs, q0, a0, a1, a2, -, a4⟩ := r9.arrW O (by omega) (by omega) hc0
  obtain ⟨q1, -⟩ := r9.arr O (by omega) (by omega) hc1 h9
  generalize hcA : xd_A (xy_D Y) 102 = cA at hK0 q1
  obtain ⟨hns, k0, hk0, cm0, hkk0⟩ := a0
  obtain ⟨-, k1, hk1, cm1, hkk1⟩ := hK0 N1 (fun j => xx_v ρ (g j))
  have hgw := O.2.2.2.2.2.1
  intro T hT X
  obtain ⟨vm', X', step⟩ := X.arraycopy O.1 O.2.2.2.2.2.2.1 (hgw _ K.1) (hgw _ K.2.1) (hgw _ K.2.2.1) (hgw _ K.2.2.2) (src := ρ r0) (dst := ρ r1) (cs := cs) (cd := arrV cA N1 (fun j => xx_v ρ (g j))) (srcPos := 0) (destPos := dp) (n := n9) (by rw [hT]; exact q0) (by rw [hT]; exact q1)
    hns (fun _ h => by cases h) a1 (fun h => by cases h) hk0 hk1 hkk0 hkk1 (by simp [xx_aty, refKind]) (by decide) h2 h3
    (by rw [nn n9 h3, show (0 : Int32).toInt = 0 from rfl]; omega)
    (by rw [nn n9 h3, nn dp h2]; rw [arrV_size]; omega)
    (fun vm₁ hal i hi => by
      have e : cs.slots.getD ((0 : Int32).toNatClampNeg + i) .null = xx_v ρ (f i) := by
        rw [show (0 : Int32).toNatClampNeg + i = i from Nat.zero_add i, Array.getD_eq_getD_getElem?, a4 _ (by omega)]
        rfl
      rw [e]
      obtain ⟨z, e2, e3⟩ := hel i hi
      rw [e2]
      exact ⟨e3, trivial⟩)
    (g := F0 (xt_m Y.1) pc lsA (.int n9 :: .int dp :: .ref (ρ r1) :: .int 0 :: .ref (ρ r0) :: st.map (xx_v ρ))) rfl (by show lsA.size = _; exact r9.L.1) (rest := st.map (xx_v ρ)) rfl (by rw [O.2.1]; exact hd) (by exact Nat.le_trans hdd O.2.2.2.2.2.2.2.2.2.2.2.2.1) (by show 2 * 0 + _ + _ ≤ _; rw [hcat]; have h9 := O.2.2.2.2.2.2.2.2.2.2.2.2.2.1; omega)
  have e1 : copied cs (arrV cA N1 (fun j => xx_v ρ (g j))) 0 dp n9 = arrV cA N1 (fun j => xx_v ρ (va_cpy f g 0 dp.toNatClampNeg n9.toNatClampNeg j)) :=
    va_copiedX (fun z => xx_v ρ z) cs cA f g a4 (sp := (0 : Int32).toNatClampNeg) (dp := dp.toNatClampNeg) (n := n9.toNatClampNeg) (n0 := N0) (n1 := N1) (by show 0 + _ ≤ _; omega)
  rw [e1] at X' step
  have hl : ρ r1 < H.size := (Array.getElem?_eq_some_iff.mp q1).1
  generalize hnew : arrV cA N1 (fun j => xx_v ρ (va_cpy f g 0 dp.toNatClampNeg n9.toNatClampNeg j)) = cnew at X' step
  have hheap : ((T.setVm vm').setCell (ρ r1) cnew).heap = H.setIfInBounds (ρ r1) cnew := by rw [← hT]; rfl
  have oq : ∀ q : Nat, q ≠ ρ r1 → (H.setIfInBounds (ρ r1) cnew)[q]? = H[q]? := fun q hq => by simp [Array.getElem?_setIfInBounds, Ne.symm hq]
  have oe : (H.setIfInBounds (ρ r1) cnew)[ρ r1]? = some cnew := by simp [Array.getElem?_setIfInBounds, hl]
  obtain ⟨t, a1, b1⟩ := kk ρ ow _ _ cells slots lsA (r9.putL hc1 h9 (by simp) oq (fun q hq => by
      rcases List.mem_append.mp hq with h | h
      · exact .inl h
      · obtain ⟨z, -, hz⟩ := List.mem_map.mp h
        exact .inr (by rw [← hz])) (by
      refine xx_cell.mk h9 ?_
      unfold xx_newc
      rw [if_neg (by show ¬ 102 < 100; omega), if_pos (by show 102 < 200; omega), oe, ← hnew, ← hcA]) (fun j hj => by
      show xx_in h (va_cpy f g 0 dp.toNatClampNeg n9.toNatClampNeg j)
      unfold va_cpy
      split
      · rename_i q
        exact r9.1.2.2.2.2 r0 _ (0 + (j - dp.toNatClampNeg)) hc0 (show 0 + (j - dp.toNatClampNeg) < N0 by omega)
      · exact r9.1.2.2.2.2 r1 _ j hc1 hj) (xx_ht (xx_ht (xx_ht (xx_ht (xx_ht r9.stk)))))) _ hheap X'
  exact ⟨t, step t a1, b1⟩
theorem sw_ldcT {idx a : Nat} {tx : String} (O : xx_O Y M l d) (hd : decode M.2.1 pc = .ok (.ldc_w idx, 3)) (w : (M.2.2.2.2.1, idx, tx, a) ∈ xx_lits) {c : XC} (hc : h a = some c) (h1 : a < 1000) (kk : SW Y k n h (pc + 3) ls (.ref a :: st)) : SW Y k n h pc ls st := by
  intro ρ ow H locs cells slots lsA r9 T hT Xs
  have hZ := O.2.2.2.2.2.2.2.2.1.2.2.1 _ w
  have k1 := kk ρ ow H locs cells slots lsA (r9.to (xx_hc (a := .ref a) (by show (h a).isSome = true; rw [hc]; rfl) r9.stk))
  rw [show (Value.ref a :: st).map (xx_v ρ) = Value.ref (xd_E (xy_D Y) a) :: st.map (xx_v ρ) by rw [List.map_cons, ← xx_old r9 hc h1]; rfl] at k1
  obtain ⟨t, a1, b1⟩ := k1 T hT Xs
  exact ⟨t, Xs.ldcStringW O.1 O.2.2.2.2.2.2.1 hZ.1 hZ.2 (g := F0 (xt_m Y.1) pc lsA (st.map (xx_v ρ))) rfl (by rw [O.2.1]; exact hd) t a1, b1⟩
end
/-- a text: its object at t, its signs at u -/
def xx_tx (h : XH) (t u m : Nat) (F : Nat → Value) : Prop := (∃ f, h t = some (0, 4, f) ∧ f 0 = .ref u ∧ f 1 = .int 0) ∧ h u = some (102, m, F) ∧ (∀ j, j < m → ∃ z : Int32, F j = .int z ∧ fits .byte (.int z) = true) ∧ m ≤ 16
theorem xx_shr0 {m : Nat} (hm : m ≤ 16) : nI m >>> ((0 : Int32) &&& 31) = nI m := by
  have : ∀ a : Fin 17, nI a.1 >>> ((0 : Int32) &&& 31) = nI a.1 := by decide +kernel
  exact this ⟨m, by omega⟩
theorem xx_shl0 {m : Nat} (hm : m ≤ 16) : nI m <<< ((0 : Int32) &&& 31) = nI m := by
  have : ∀ a : Fin 17, nI a.1 <<< ((0 : Int32) &&& 31) = nI a.1 := by decide +kernel
  exact this ⟨m, by omega⟩
/-- signs behind signs -/
def apG (F G : Nat → Value) (c m : Nat) : Nat → Value := va_cpy F G 0 c m
theorem apG_lo {F G : Nat → Value} {c m j : Nat} (h : j < c) : apG F G c m j = G j := by unfold apG va_cpy; rw [if_neg (by omega)]
theorem apG_in {F G : Nat → Value} {c m j : Nat} (h : c ≤ j) (h2 : j < c + m) : apG F G c m j = F (j - c) := by unfold apG va_cpy; rw [if_pos (by omega), Nat.zero_add]
theorem apG_hi {F G : Nat → Value} {c m j : Nat} (h : c + m ≤ j) : apG F G c m j = G j := by unfold apG va_cpy; rw [if_neg (by omega)]
theorem tx_coder {l : Launch} {h : XH} (hl : l.stackTraces = false) {t u m : Nat} {F : Nat → Value} (ht : xx_tx h t u m F)  : XEx l m_J0_coder_7d493 0 0 0 [.ref t] (h) (some (.int 0)) (h) := by
  refine XMet.of hl rfl rfl (Nat.le_of_ble_eq_true rfl) (fun Y O hh hQ => ?_)
  obtain ⟨⟨f9, hf, hf0, hf1⟩, hu, hF, hm⟩ := ht
  show SW Y 0 0 (h) 0 [.ref t] []
  refine sw_gets (i := 0) (z := 1) O (xx_dt dd_J0_coder_7d493 0 rfl) rfl gs_J0_38 ?_
  refine sw_if_eq (tgt := 13) O (xx_dt dd_J0_coder_7d493 1 rfl) (by decide) (fun q => absurd q (by decide)) (fun _ => ?_)
  refine sw_aload_n O (xx_dt dd_J0_coder_7d493 2 rfl) rfl ?_
  refine sw_get (v := .int 0) O (xx_dt dd_J0_coder_7d493 3 rfl) cl_J0 fl_J0_15 hf (by decide) hf1 ?_
  refine sw_goto (tgt := 14) O (xx_dt dd_J0_coder_7d493 4 rfl) (by decide) ?_
  exact sw_iret O (xx_dt dd_J0_coder_7d493 6 rfl) rfl rfl (by rw [hQ]; exact ⟨rfl, rfl⟩)
theorem tx_length {l : Launch} {h : XH} (hl : l.stackTraces = false) {t u m : Nat} {F : Nat → Value} (ht : xx_tx h t u m F)  : XEx l m_J0_length_8abf5 1 0 0 [.ref t] (h) (some (.int (nI m))) (h) := by
  refine XMet.of hl rfl rfl (Nat.le_of_ble_eq_true rfl) (fun Y O hh hQ => ?_)
  have ht9 := ht
  obtain ⟨⟨f9, hf, hf0, hf1⟩, hu, hF, hm⟩ := ht
  show SW Y 0 0 (h) 0 [.ref t] []
  refine sw_aload_n O (xx_dt dd_J0_length_8abf5 0 rfl) rfl ?_
  refine sw_get (v := .ref u) O (xx_dt dd_J0_length_8abf5 1 rfl) cl_J0 fl_J0_9 hf (by decide) hf0 ?_
  refine sw_alen (t := 102) O (xx_dt dd_J0_length_8abf5 2 rfl) (by omega) (by omega) hu ?_
  refine sw_aload_n O (xx_dt dd_J0_length_8abf5 3 rfl) rfl ?_
  refine sw_callVx (as := []) (st := [.int (nI m)]) (st2 := [.int 0, .int (nI m)]) O (tx_coder hl ht9) ce_J0_coder_7d493 ml_J0_335 iv_J0_coder_7d493 cl_J0 rfl hf (xx_dt dd_J0_length_8abf5 4 rfl) (by decide) rfl rfl (Nat.le_of_ble_eq_true rfl) rfl ?_
  refine sw_ishr O (xx_dt dd_J0_length_8abf5 5 rfl) ?_
  rw [xx_shr0 hm]
  exact sw_iret O (xx_dt dd_J0_length_8abf5 6 rfl) rfl rfl (by rw [hQ]; exact ⟨rfl, rfl⟩)
theorem tx_getBytes {l : Launch} {h : XH} (hl : l.stackTraces = false) {t u m : Nat} {F : Nat → Value} (ht : xx_tx h t u m F) {v c : Nat} {G : Nat → Value} (hv : h v = some (102, 16, G)) (h9 : 1000 ≤ v) (hc : c + m ≤ 16)  : XEx l m_J0_getBytes_840e7 1 0 0 [.ref t, .ref v, .int (nI c), .int 0] (h) (none) (xx_up h v (102, 16, apG F G c m)) := by
  refine XMet.of hl rfl rfl (Nat.le_of_ble_eq_true rfl) (fun Y O hh hQ => ?_)
  have ht9 := ht
  obtain ⟨⟨f9, hf, hf0, hf1⟩, hu, hF, hm⟩ := ht
  show SW Y 0 0 (h) 0 [.ref t, .ref v, .int (nI c), .int 0] []
  refine sw_aload_n O (xx_dt dd_J0_getBytes_840e7 0 rfl) rfl ?_
  refine sw_callVx (as := []) (st := []) (st2 := [.int 0]) O (tx_coder hl ht9) ce_J0_coder_7d493 ml_J0_335 iv_J0_coder_7d493 cl_J0 rfl hf (xx_dt dd_J0_getBytes_840e7 1 rfl) (by decide) rfl rfl (Nat.le_of_ble_eq_true rfl) rfl ?_
  refine sw_iload_n O (xx_dt dd_J0_getBytes_840e7 2 rfl) rfl ?_
  refine sw_icmp_ne (tgt := 28) O (xx_dt dd_J0_getBytes_840e7 3 rfl) (by decide) (fun q => absurd rfl q) (fun _ => ?_)
  refine sw_aload_n O (xx_dt dd_J0_getBytes_840e7 4 rfl) rfl ?_
  refine sw_get (v := .ref u) O (xx_dt dd_J0_getBytes_840e7 5 rfl) cl_J0 fl_J0_9 hf (by decide) hf0 ?_
  refine sw_iconst (x := 0) O (xx_dt dd_J0_getBytes_840e7 6 rfl) (by decide) ?_
  refine sw_aload_n O (xx_dt dd_J0_getBytes_840e7 7 rfl) rfl ?_
  refine sw_iload_n O (xx_dt dd_J0_getBytes_840e7 8 rfl) rfl ?_
  refine sw_iload_n O (xx_dt dd_J0_getBytes_840e7 9 rfl) rfl ?_
  refine sw_ishl O (xx_dt dd_J0_getBytes_840e7 10 rfl) ?_
  rw [xx_shl0 (by omega)]
  refine sw_aload_n O (xx_dt dd_J0_getBytes_840e7 11 rfl) rfl ?_
  refine sw_get (v := .ref u) O (xx_dt dd_J0_getBytes_840e7 12 rfl) cl_J0 fl_J0_9 hf (by decide) hf0 ?_
  refine sw_alen (t := 102) O (xx_dt dd_J0_getBytes_840e7 13 rfl) (by omega) (by omega) hu ?_
  refine sw_copyD (h2' := xx_up h v (102, 16, apG F G c m)) O ay_J0_212 (xx_dt dd_J0_getBytes_840e7 14 rfl) hu hv h9 (xx_nlt0 c (by omega)) (xx_nlt0 m (by omega)) (by rw [nI_clamp (by omega)]; exact Nat.le_refl _) (by rw [nI_clamp (by omega), nI_clamp (by omega)]; omega) (fun j hj => hF j (by rw [nI_clamp (by omega)] at hj; exact hj)) (by omega) (by decide +kernel) (by rw [nI_clamp (by omega), nI_clamp (by omega)]; rfl) ?_
  refine sw_goto (tgt := 43) O (xx_dt dd_J0_getBytes_840e7 15 rfl) (by decide) ?_
  exact sw_ret O (xx_dt dd_J0_getBytes_840e7 25 rfl) rfl (by rw [hQ]; exact ⟨rfl, rfl⟩)
theorem sb_inflN {l : Launch} {h : XH} (hl : l.stackTraces = false) {r v c : Nat} {b : Int32} (hr : h r = some (1, 4, xx_sb v c b)) {t u m : Nat} {F : Nat → Value} (ht : xx_tx h t u m F)  : XEx l m_J5_inflateIfNeededFor_a7421 1 0 0 [.ref r, .ref t] (h) (none) (h) := by
  refine XMet.of hl rfl rfl (Nat.le_of_ble_eq_true rfl) (fun Y O hh hQ => ?_)
  have ht9 := ht
  obtain ⟨⟨f9, hf, hf0, hf1⟩, hu, hF, hm⟩ := ht
  show SW Y 0 0 (h) 0 [.ref r, .ref t] []
  refine sw_gets (i := 0) (z := 1) O (xx_dt dd_J5_inflateIfNeededFor_a7421 0 rfl) rfl gs_J5_18 ?_
  refine sw_if_eq (tgt := 21) O (xx_dt dd_J5_inflateIfNeededFor_a7421 1 rfl) (by decide) (fun q => absurd q (by decide)) (fun _ => ?_)
  refine sw_aload_n O (xx_dt dd_J5_inflateIfNeededFor_a7421 2 rfl) rfl ?_
  refine sw_get2 (v := .int 0) O (xx_dt dd_J5_inflateIfNeededFor_a7421 3 rfl) cl_J4 f2_J5_22 hr (by decide) rfl ?_
  refine sw_aload_n O (xx_dt dd_J5_inflateIfNeededFor_a7421 4 rfl) rfl ?_
  refine sw_callVx (as := []) (st := [.int 0]) (st2 := [.int 0, .int 0]) O (tx_coder hl ht9) ce_J0_coder_7d493 ml_J5_40 iv_J0_coder_7d493 cl_J0 rfl hf (xx_dt dd_J5_inflateIfNeededFor_a7421 5 rfl) (by decide) rfl rfl (Nat.le_of_ble_eq_true rfl) rfl ?_
  refine sw_icmp_eq (tgt := 21) O (xx_dt dd_J5_inflateIfNeededFor_a7421 6 rfl) (by decide) (fun _ => ?_) (fun q => absurd rfl q)
  exact sw_ret O (xx_dt dd_J5_inflateIfNeededFor_a7421 9 rfl) rfl (by rw [hQ]; exact ⟨rfl, rfl⟩)
theorem sb_putS {l : Launch} {h : XH} (hl : l.stackTraces = false) {r v c : Nat} {b : Int32} {G : Nat → Value} (hr : h r = some (1, 4, xx_sb v c b)) (hv : h v = some (102, 16, G)) (h1 : 1000 ≤ r) (h9 : 1000 ≤ v) (hrv : r ≠ v) {t u m : Nat} {F : Nat → Value} (ht : xx_tx h t u m F) (hc : c + m ≤ 16)  : XEx l m_J5_putStringAt_47b60 2 0 0 [.ref r, .int (nI c), .ref t] (h) (none) (xx_up h v (102, 16, apG F G c m)) := by
  refine XMet.of hl rfl rfl (Nat.le_of_ble_eq_true rfl) (fun Y O hh hQ => ?_)
  have ht9 := ht
  obtain ⟨⟨f9, hf, hf0, hf1⟩, hu, hF, hm⟩ := ht
  show SW Y 0 0 (h) 0 [.ref r, .int (nI c), .ref t] []
  refine sw_aload_n O (xx_dt dd_J5_putStringAt_47b60 0 rfl) rfl ?_
  refine sw_aload_n O (xx_dt dd_J5_putStringAt_47b60 1 rfl) rfl ?_
  refine sw_callWx (as := [.ref t]) (st := []) (st2 := []) O (sb_inflN hl hr ht9) ce_J5_inflateIfNeededFor_a7421 mk_J5_397 slc_J5_inflateIfNeededFor_a7421 cl_J4 (hr) (xx_dt dd_J5_putStringAt_47b60 2 rfl) (by decide) rfl rfl (Nat.le_of_ble_eq_true rfl) rfl ?_
  refine sw_aload_n O (xx_dt dd_J5_putStringAt_47b60 3 rfl) rfl ?_
  refine sw_aload_n O (xx_dt dd_J5_putStringAt_47b60 4 rfl) rfl ?_
  refine sw_get2 (v := .ref v) O (xx_dt dd_J5_putStringAt_47b60 5 rfl) cl_J4 f2_J5_15 hr (by decide) rfl ?_
  refine sw_iload_n O (xx_dt dd_J5_putStringAt_47b60 6 rfl) rfl ?_
  refine sw_aload_n O (xx_dt dd_J5_putStringAt_47b60 7 rfl) rfl ?_
  refine sw_get2 (v := .int 0) O (xx_dt dd_J5_putStringAt_47b60 8 rfl) cl_J4 f2_J5_22 hr (by decide) rfl ?_
  refine sw_callVx (as := [.ref v, .int (nI c), .int 0]) (st := []) (st2 := []) O (tx_getBytes hl ht9 hv h9 hc) ce_J0_getBytes_840e7 ml_J5_399 iv_J0_getBytes_840e7 cl_J0 rfl hf (xx_dt dd_J5_putStringAt_47b60 9 rfl) (by decide) rfl rfl (Nat.le_of_ble_eq_true rfl) rfl ?_
  exact sw_ret O (xx_dt dd_J5_putStringAt_47b60 10 rfl) rfl (by rw [hQ]; exact ⟨rfl, rfl⟩)
theorem sb_appendS5 {l : Launch} {h : XH} (hl : l.stackTraces = false) {r v c : Nat} {b : Int32} {G : Nat → Value} (hr : h r = some (1, 4, xx_sb v c b)) (hv : h v = some (102, 16, G)) (h1 : 1000 ≤ r) (h9 : 1000 ≤ v) (hrv : r ≠ v) {t u m : Nat} {F : Nat → Value} (ht : xx_tx h t u m F) (hc : c + m ≤ 16)  : XEx l m_J5_append_cf1ce 3 0 0 [.ref r, .ref t] (h) (some (.ref r)) (xx_up (xx_up h r (1, 4, xx_sb v (c + m) b)) v (102, 16, apG F G c m)) := by
  refine XMet.of hl rfl rfl (Nat.le_of_ble_eq_true rfl) (fun Y O hh hQ => ?_)
  have ht9 := ht
  obtain ⟨⟨f9, hf, hf0, hf1⟩, hu, hF, hm⟩ := ht
  show SW Y 0 0 (h) 0 [.ref r, .ref t, xx_d] []
  refine sw_aload_n O (xx_dt dd_J5_append_cf1ce 0 rfl) rfl ?_
  refine sw_ifnonnull (tgt := 9) O (xx_dt dd_J5_append_cf1ce 1 rfl) (by decide) ?_
  refine sw_aload_n O (xx_dt dd_J5_append_cf1ce 5 rfl) rfl ?_
  refine sw_callVx (as := []) (st := []) (st2 := [.int (nI m)]) O (tx_length hl ht9) ce_J0_length_8abf5 ml_J5_32 iv_J0_length_8abf5 cl_J0 rfl hf (xx_dt dd_J5_append_cf1ce 6 rfl) (by decide) rfl rfl (Nat.le_of_ble_eq_true rfl) rfl ?_
  refine sw_istore_n (ls2 := [.ref r, .ref t, .int (nI m)]) O (xx_dt dd_J5_append_cf1ce 7 rfl) (by decide) rfl ?_
  refine sw_aload_n O (xx_dt dd_J5_append_cf1ce 8 rfl) rfl ?_
  refine sw_aload_n O (xx_dt dd_J5_append_cf1ce 9 rfl) rfl ?_
  refine sw_get2 (v := .int (nI c)) O (xx_dt dd_J5_append_cf1ce 10 rfl) cl_J4 f2_J5_79 hr (by decide) rfl ?_
  refine sw_iload_n O (xx_dt dd_J5_append_cf1ce 11 rfl) rfl ?_
  refine sw_iadd O (xx_dt dd_J5_append_cf1ce 12 rfl) ?_
  rw [nI_plus]
  refine sw_callWx (as := [.int (nI (c + m))]) (st := []) (st2 := []) O (sb_ens hl hr hv (a := c + m) hc) ce_J5_ensureCapacityInternal_d00df mk_J5_100 slc_J5_ensureCapacityInternal_d00df cl_J4 (hr) (xx_dt dd_J5_append_cf1ce 13 rfl) (by decide) rfl rfl (Nat.le_of_ble_eq_true rfl) rfl ?_
  refine sw_aload_n O (xx_dt dd_J5_append_cf1ce 14 rfl) rfl ?_
  refine sw_aload_n O (xx_dt dd_J5_append_cf1ce 15 rfl) rfl ?_
  refine sw_get2 (v := .int (nI c)) O (xx_dt dd_J5_append_cf1ce 16 rfl) cl_J4 f2_J5_79 hr (by decide) rfl ?_
  refine sw_aload_n O (xx_dt dd_J5_append_cf1ce 17 rfl) rfl ?_
  refine sw_callWx (as := [.int (nI c), .ref t]) (st := []) (st2 := []) O (sb_putS hl hr hv h1 h9 hrv ht9 hc) ce_J5_putStringAt_47b60 mk_J5_208 slc_J5_putStringAt_47b60 cl_J4 (hr) (xx_dt dd_J5_append_cf1ce 18 rfl) (by decide) rfl rfl (Nat.le_of_ble_eq_true rfl) rfl ?_
  refine sw_aload_n O (xx_dt dd_J5_append_cf1ce 19 rfl) rfl ?_
  refine sw_dup O (xx_dt dd_J5_append_cf1ce 20 rfl) rfl ?_
  refine sw_get2 (v := .int (nI c)) O (xx_dt dd_J5_append_cf1ce 21 rfl) cl_J4 f2_J5_79 ((xx_up_ne hrv).trans hr) (by decide) rfl ?_
  refine sw_iload_n O (xx_dt dd_J5_append_cf1ce 22 rfl) rfl ?_
  refine sw_iadd O (xx_dt dd_J5_append_cf1ce 23 rfl) ?_
  rw [nI_plus]
  refine sw_put2 (h2 := xx_up (xx_up h r (1, 4, xx_sb v (c + m) b)) v (102, 16, apG F G c m)) O (xx_dt dd_J5_append_cf1ce 24 rfl) cl_J4 f2_J5_79 ((xx_up_ne hrv).trans hr) (by decide) h1 rfl (fun _ => ⟨rfl, rfl⟩) (by rw [xx_sb_c, xx_up_sw (Ne.symm hrv)]) ?_
  refine sw_aload_n O (xx_dt dd_J5_append_cf1ce 25 rfl) rfl ?_
  exact sw_aret O (xx_dt dd_J5_append_cf1ce 26 rfl) rfl (.inl ⟨_, rfl⟩) (by rw [hQ]; exact ⟨rfl, rfl⟩)
theorem sb_appendS {l : Launch} {h : XH} (hl : l.stackTraces = false) {r v c : Nat} {b : Int32} {G : Nat → Value} (hr : h r = some (1, 4, xx_sb v c b)) (hv : h v = some (102, 16, G)) (h1 : 1000 ≤ r) (h9 : 1000 ≤ v) (hrv : r ≠ v) {t u m : Nat} {F : Nat → Value} (ht : xx_tx h t u m F) (hc : c + m ≤ 16)  : XEx l m_J4_append_15ec4 4 0 0 [.ref r, .ref t] (h) (some (.ref r)) (xx_up (xx_up h r (1, 4, xx_sb v (c + m) b)) v (102, 16, apG F G c m)) := by
  refine XMet.of hl rfl rfl (Nat.le_of_ble_eq_true rfl) (fun Y O hh hQ => ?_)
  have ht9 := ht
  obtain ⟨⟨f9, hf, hf0, hf1⟩, hu, hF, hm⟩ := ht
  show SW Y 0 0 (h) 0 [.ref r, .ref t] []
  refine sw_aload_n O (xx_dt dd_J4_append_15ec4 0 rfl) rfl ?_
  refine sw_aload_n O (xx_dt dd_J4_append_15ec4 1 rfl) rfl ?_
  refine sw_callSUx (as := [.ref t]) (st := []) (st2 := [.ref r]) O (sb_appendS5 hl hr hv h1 h9 hrv ht9 hc) ce_J5_append_cf1ce su_J4_29 cl_J4 (hr) (xx_dt dd_J4_append_15ec4 2 rfl) (by decide) rfl rfl (Nat.le_of_ble_eq_true rfl) rfl ?_
  refine sw_pop O (xx_dt dd_J4_append_15ec4 3 rfl) rfl ?_
  refine sw_aload_n O (xx_dt dd_J4_append_15ec4 4 rfl) rfl ?_
  exact sw_aret O (xx_dt dd_J4_append_15ec4 5 rfl) rfl (.inl ⟨_, rfl⟩) (by rw [hQ]; exact ⟨rfl, rfl⟩)
