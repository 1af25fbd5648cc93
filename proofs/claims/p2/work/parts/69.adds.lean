/-! ===== the reference: regions and bidders are added ===== -/
theorem lyQ_R {z : Int64} {C C' : XS9} {r R : Nat} {s : Nat → Int32} (h1 : ∀ q i, q ≠ 5001 → C q i = C' q i) (h2 : cn (C 5001 900) = R) (h3 : cn (C' 5001 900) = R + 1) (h7 : C 7000 20 = 0) (h8 : C 8000 20 = 0) (h5 : cn (C 5003 900) = 0) (hr : r ≠ 5001 ∧ r ≠ 5010 + R) : lyQ z C r s = lyQ z C' r s := by
  have e2 : ∀ i, C 5002 i = C' 5002 i := fun i => h1 _ _ (by omega)
  have e3 : ∀ i, C 5003 i = C' 5003 i := fun i => h1 _ _ (by omega)
  have e4 : ∀ i, C 5004 i = C' 5004 i := fun i => h1 _ _ (by omega)
  have e7 : ∀ i, C 7000 i = C' 7000 i := fun i => h1 _ _ (by omega)
  have e8 : ∀ i, C 8000 i = C' 8000 i := fun i => h1 _ _ (by omega)
  have e9 : ∀ i, C 9000 i = C' 9000 i := fun i => h1 _ _ (by omega)
  have er : ∀ i, C r i = C' r i := fun i => h1 _ _ hr.1
  have ep : ∀ i, C (5030 + (r - 10000) / 20) i = C' (5030 + (r - 10000) / 20) i := fun i => h1 _ _ (by omega)
  have h5' : cn (C' 5003 900) = 0 := by rw [← e3]; exact h5
  have h7' : C' 7000 20 = 0 := by rw [← e7]; exact h7
  have h8' : C' 8000 20 = 0 := by rw [← e8]; exact h8
  unfold lyQ nmS
  by_cases u0 : r < 5010
  · rw [if_pos u0, if_pos u0]
    split <;> first | rfl | (exfalso; omega) | simp only [e2, e3, e4, e7]
  rw [if_neg u0, if_neg u0]
  by_cases u1 : r < 5020
  · rw [if_pos u1, if_pos u1, h2, h3]
    by_cases v : r - 5010 < R
    · rw [if_pos v, if_pos (by omega)]
    · rw [if_neg v, if_neg (by omega)]
  rw [if_neg u1, if_neg u1]
  simp only [e2, e3, e4, e7, e8, e9, er, ep, h5', h7', h8', if_true, Nat.not_lt_zero, if_false]
theorem add_reg {z : Int64} {σ : XS9} {h : XH} {R : Nat} {row : Nat → Int32} (hR : σ 5001 900 = nI R) (hR5 : R < 5) (hf7 : σ 7000 20 = 0) (hf8 : σ 8000 20 = 0) (hK : σ 5003 900 = 0) : xx_up (xx_up (setM z σ h) (5010 + R) (18, 4, fun k => .int (row k))) 5001 (206, R + 1, fun k => .ref (5010 + k)) = setM z (u2 (uR σ (5010 + R) row) 5001 900 (nI (R + 1))) h := by
  have n0 : ∀ i, isCtl (5010 + R) i = false := notCtl (by omega)
  have c1 : ∀ q i, q ≠ 5001 → ctl σ q i = ctl (u2 (uR σ (5010 + R) row) 5001 900 (nI (R + 1))) q i := fun q i hq => by
    unfold ctl
    rw [u2_ne hq]
    by_cases e : q = 5010 + R
    · rw [e, n0]; rfl
    · rw [uR_ne e]
  have hR' : (u2 (uR σ (5010 + R) row) 5001 900 (nI (R + 1))) 5001 900 = nI (R + 1) := u2_at
  funext q
  unfold xx_up
  by_cases a1 : q = 5001
  · rw [if_pos a1, a1, lm_5001 hR' (by omega)]
  rw [if_neg a1]
  by_cases a2 : q = 5010 + R
  · rw [if_pos a2, a2, lm_reg hR' (by omega) (by omega), u2_ne (by omega), uR_eq]
  rw [if_neg a2]
  unfold setM
  rw [u2_ne a1, uR_ne a2, lyQ_R (R := R) c1 (ct1 rfl hR (by omega)) (ct1 rfl hR' (by omega)) hf7 hf8 (by rw [show ctl σ 5003 900 = σ 5003 900 from rfl, hK]; rfl) ⟨a1, a2⟩]
theorem no_reg {z : Int64} {σ : XS9} {h : XH} {R : Nat} (hR : σ 5001 900 = nI R) (hR5 : R < 5) : setM z σ h (5010 + R) = h (5010 + R) := by
  refine setM_no ?_
  have e := ct1 (i := 900) rfl hR (by omega)
  unfold lyQ
  rw [if_neg (by omega), if_pos (by omega), e, if_neg (by omega)]
theorem ct_add {l : Launch} {H : XH} (hl : l.stackTraces = false) {r n : Nat} {f : Nat → Value} (hc : H r = some (206, n, f)) (h1 : 1000 ≤ r) (h0 : ∃ f0, H 0 = some (104, 0, f0)) (h3 : ∃ c3, H 3 = some c3) (he : H 19990 = none) (he2 : H 19991 = none) {x : Nat} (hx : xx_obO H x) (hn : n < 1000) (hel : ∀ j, j < n → f j = .null ∨ ∃ x, f j = .ref x ∧ xx_obO H x) : XEx l m_Jx4a65c_add_9ea2d 6 1 (n + n / 2 + 10) [.ref r, .ref x] H (some (.int 1)) (xx_up H r (206, n + 1, (fun j => if j = n then .ref x else f j))) := by
  obtain ⟨f0, h0⟩ := h0
  obtain ⟨c3, h3⟩ := h3
  exact ct_AL_add hl hc he (by omega) h1 h0 he2 (by omega) (by omega) h3 hx (by omega) hel
theorem ob_C {h : XH} {x ci N : Nat} {f : Nat → Value} {C : String} {T : u_T} {ty : Nat → FieldType} (K : xx_cl ci C T N ty) (hx : h x = some (ci, N, f)) (hk : Cond.castable C "java/lang/Object" ∈ xx_nws) : xx_obO h x := .inl ⟨ci, N, f, C, T, ty, K, hx, hk⟩
theorem ct_X12_init {l : Launch} {h : XH} (hl : l.stackTraces = false) {r : Nat}  : XEx l m_X12_init 1 0 0 [.ref r] (h) (none) (h) := by
  refine XMet.of hl rfl rfl (Nat.le_of_ble_eq_true rfl) (fun Y O hh hQ => ?_)
  show SW Y 0 0 (h) 0 [.ref r] []
  refine sw_aload_n O (xx_dt dd_X12_init 0 rfl) rfl ?_
  refine sw_objInit O oi_X12_1 (xx_dt dd_X12_init 1 rfl) (by omega) (Nat.le_of_ble_eq_true rfl) ?_
  exact sw_ret O (xx_dt dd_X12_init 2 rfl) rfl (by rw [hQ]; exact ⟨rfl, rfl⟩)
theorem ct_X13_init {l : Launch} {h : XH} (hl : l.stackTraces = false) {r : Nat}  : XEx l m_X13_init 1 0 0 [.ref r] (h) (none) (h) := by
  refine XMet.of hl rfl rfl (Nat.le_of_ble_eq_true rfl) (fun Y O hh hQ => ?_)
  show SW Y 0 0 (h) 0 [.ref r] []
  refine sw_aload_n O (xx_dt dd_X13_init 0 rfl) rfl ?_
  refine sw_objInit O oi_X13_1 (xx_dt dd_X13_init 1 rfl) (by omega) (Nat.le_of_ble_eq_true rfl) ?_
  exact sw_ret O (xx_dt dd_X13_init 2 rfl) rfl (by rw [hQ]; exact ⟨rfl, rfl⟩)
