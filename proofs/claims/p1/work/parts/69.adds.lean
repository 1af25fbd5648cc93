section
/-! ===== the reference: regions and bidders are added ===== -/
theorem lyQ_R {z : Int64} {C C' : XS9} {r R : Nat} {s : Nat → Int32} (h1 : ∀ q i, q ≠ 5001 → C q i = C' q i) (h2 : cn (C 5001 900) = R) (h3 : cn (C' 5001 900) = R + 1) (h7 : C 7000 20 = 0) (h8 : C 8000 20 = 0) (h5 : cn (C 5003 900) = 0) (hr : r ≠ 5001 ∧ r ≠ 5010 + R) : lyQ z C r s = lyQ z C' r s := by
  have e2 : ∀ i, C 5002 i = C' 5002 i := fun i => h1 _ _ (by omega)
  have e3 : ∀ i, C 5003 i = C' 5003 i := fun i => h1 _ _ (by omega)
  have e4 : ∀ i, C 5004 i = C' 5004 i := fun i => h1 _ _ (by omega)
  have e7 : ∀ i, C 7000 i = C' 7000 i := fun i => h1 _ _ (by omega)
  have e8 : ∀ i, C 8000 i = C' 8000 i := fun i => h1 _ _ (by omega)
  have e9 : ∀ i, C 9000 i = C' 9000 i := fun i => h1 _ _ (by omega)
  have er : ∀ i, C r i = C' r i := fun i => h1 _ _ hr.1
  have ep : ∀ i, C (5030 + (r - 10000) / 20) i = C' (5030 + (r - 10000) / 20) i := fun i => h1 _ _ (by omega)
  have h5' : cn (C' 5003 900) = 0 := by rw [← e3]; exact h5
  have h7' : C' 7000 20 = 0 := by rw [← e7]; exact h7
  have h8' : C' 8000 20 = 0 := by rw [← e8]; exact h8
  unfold lyQ nmS
  by_cases u0 : r < 5010
  · rw [if_pos u0, if_pos u0]
    split <;> first | rfl | (exfalso; omega) | simp only [e2, e3, e4, e7]
  rw [if_neg u0, if_neg u0]
  by_cases u1 : r < 5020
  · rw [if_pos u1, if_pos u1, h2, h3]
    by_cases v : r - 5010 < R
    · rw [if_pos v, if_pos (by omega)]
    · rw [if_neg v, if_neg (by omega)]
  rw [if_neg u1, if_neg u1]
  simp only [e2, e3, e4, e7, e8, e9, er, ep, h5', h7', h8', if_true, Nat.not_lt_zero, if_false]
theorem add_reg {z : Int64} {σ : XS9} {h : XH} {R : Nat} {row : Nat → Int32} (hR : σ 5001 900 = nI R) (hR5 : R < 5) (hf7 : σ 7000 20 = 0) (hf8 : σ 8000 20 = 0) (hK : σ 5003 900 = 0) : xx_up (xx_up (setM z σ h) (5010 + R) (18, 4, fun k => .int (row k))) 5001 (206, R + 1, fun k => .ref (5010 + k)) = setM z (u2 (uR σ (5010 + R) row) 5001 900 (nI (R + 1))) h := by
  have n0 : ∀ i, isCtl (5010 + R) i = false := notCtl (by omega)
  have c1 : ∀ q i, q ≠ 5001 → ctl σ q i = ctl (u2 (uR σ (5010 + R) row) 5001 900 (nI (R + 1))) q i := fun q i hq => by
    unfold ctl
    rw [u2_ne hq]
    by_cases e : q = 5010 + R
    · rw [e, n0]; rfl
    · rw [uR_ne e]
  have hR' : (u2 (uR σ (5010 + R) row) 5001 900 (nI (R + 1))) 5001 900 = nI (R + 1) := u2_at
  funext q
  unfold xx_up
  by_cases a1 : q = 5001
  · rw [if_pos a1, a1, lm_5001 hR' (by omega)]
  rw [if_neg a1]
  by_cases a2 : q = 5010 + R
  · rw [if_pos a2, a2, lm_reg hR' (by omega) (by omega), u2_ne (by omega), uR_eq]
  rw [if_neg a2]
  unfold setM
  rw [u2_ne a1, uR_ne a2, lyQ_R (R := R) c1 (ct1 rfl hR (by omega)) (ct1 rfl hR' (by omega)) hf7 hf8 (by rw [show ctl σ 5003 900 = σ 5003 900 from rfl, hK]; rfl) ⟨a1, a2⟩]
theorem no_reg {z : Int64} {σ : XS9} {h : XH} {R : Nat} (hR : σ 5001 900 = nI R) (hR5 : R < 5) : setM z σ h (5010 + R) = h (5010 + R) := by
  refine setM_no ?_
  have e := ct1 (i := 900) rfl hR (by omega)
  unfold lyQ
  rw [if_neg (by omega), if_pos (by omega), e, if_neg (by omega)]
theorem ct_add {l : Launch} {H : XH} (hl : l.stackTraces = false) {r n : Nat} {f : Nat → Value} (hc : H r = some (206, n, f)) (h1 : 1000 ≤ r) (h0 : ∃ f0, H 0 = some (104, 0, f0)) (h3 : ∃ c3, H 3 = some c3) (he : H 19990 = none) (he2 : H 19991 = none) {x : Nat} (hx : xx_obO H x) (hn : n < 1000) (hel : ∀ j, j < n → f j = .null ∨ ∃ x, f j = .ref x ∧ xx_obO H x) : XEx l m_Jx4a65c_add_9ea2d 6 1 (n + n / 2 + 10) [.ref r, .ref x] H (some (.int 1)) (xx_up H r (206, n + 1, (fun j => if j = n then .ref x else f j))) := by
  obtain ⟨f0, h0⟩ := h0
  obtain ⟨c3, h3⟩ := h3
  exact ct_AL_add hl hc he (by omega) h1 h0 he2 (by omega) (by omega) h3 hx (by omega) hel
theorem ob_C {h : XH} {x ci N : Nat} {f : Nat → Value} {C : String} {T : u_T} {ty : Nat → FieldType} (K : xx_cl ci C T N ty) (hx : h x = some (ci, N, f)) (hk : Cond.castable C "java/lang/Object" ∈ xx_nws) : xx_obO h x := .inl ⟨ci, N, f, C, T, ty, K, hx, hk⟩
theorem ct_X12_init {l : Launch} {h : XH} (hl : l.stackTraces = false) {r : Nat}  : XEx l m_X12_init 1 0 0 [.ref r] (h) (none) (h) := by
  refine XMet.of hl rfl rfl (Nat.le_of_ble_eq_true rfl) (fun Y O hh hQ => ?_)
  show SW Y 0 0 (h) 0 [.ref r] []
  refine sw_aload_n O (xx_dt dd_X12_init 0 rfl) rfl ?_
  refine sw_objInit O oi_X12_1 (xx_dt dd_X12_init 1 rfl) (by omega) (Nat.le_of_ble_eq_true rfl) ?_
  exact sw_ret O (xx_dt dd_X12_init 2 rfl) rfl (by rw [hQ]; exact ⟨rfl, rfl⟩)
theorem ct_X13_init {l : Launch} {h : XH} (hl : l.stackTraces = false) {r : Nat}  : XEx l m_X13_init 1 0 0 [.ref r] (h) (none) (h) := by
  refine XMet.of hl rfl rfl (Nat.le_of_ble_eq_true rfl) (fun Y O hh hQ => ?_)
  show SW Y 0 0 (h) 0 [.ref r] []
  refine sw_aload_n O (xx_dt dd_X13_init 0 rfl) rfl ?_
  refine sw_objInit O oi_X13_1 (xx_dt dd_X13_init 1 rfl) (by omega) (Nat.le_of_ble_eq_true rfl) ?_
  exact sw_ret O (xx_dt dd_X13_init 2 rfl) rfl (by rw [hQ]; exact ⟨rfl, rfl⟩)
theorem noq_reg {z : Int64} {σ : XS9} {R : Nat} (hR : σ 5001 900 = nI R) (hR5 : R < 5) : lyQ z (ctl σ) (5010 + R) (σ (5010 + R)) = none := by
  have e := ct1 (i := 900) rfl hR (by omega)
  unfold lyQ
  rw [if_neg (by omega), if_pos (by omega), e, if_neg (by omega)]
def f_Mregion (σ : XS9) (x y v : Int32) (R : Nat) : Int32 := (if n_bt x 1 5 then (if n_bt y 1 9 then (if n_bt v 1 999 then (if (σ 5000 1) = 0 then (if (nI R) = 5 then 0 else nI R) else 0) else 0) else 0) else 0)
def g_Mregion (σ : XS9) (x y v : Int32) (R : Nat) : XS9 := (if n_bt x 1 5 then (if n_bt y 1 9 then (if n_bt v 1 999 then (if (σ 5000 1) = 0 then (if (nI R) = 5 then u2 (u2 σ 5000 0 0) 5000 0 2 else u2 (uR (u2 σ 5000 0 0) (5010 + R) (fun k => match k with | 0 => x | 1 => y | 2 => v | _ => 0)) 5001 900 (nI (R + 1))) else u2 (u2 σ 5000 0 0) 5000 0 2) else u2 (u2 σ 5000 0 0) 5000 0 1) else u2 (u2 σ 5000 0 0) 5000 0 1) else u2 (u2 σ 5000 0 0) 5000 0 1)
theorem ct_X14_region {l : Launch} {h : XH} (hl : l.stackTraces = false) {z : Int64} {σ : XS9} (hbs : xx_bs h) {R : Nat} (hR : σ 5001 900 = nI R) (hR5 : R ≤ 5) (hp0 : σ 5000 1 = 0 → σ 7000 20 = 0 ∧ σ 8000 20 = 0 ∧ σ 5003 900 = 0) (hfr : ∀ r, 5000 ≤ r → r < 20010 → h r = none) {x y v : Int32} : XEx l m_X14_region 10 2 22 [.ref 5000, .int x, .int y, .int v] (setM z σ h) (some (.int (f_Mregion σ x y v R))) (setM z (g_Mregion σ x y v R) h) := by
  refine XMet.of hl rfl rfl (Nat.le_of_ble_eq_true rfl) (fun Y O hh hQ => ?_)
  show SW Y 2 22 (setM z σ h) 0 [.ref 5000, .int x, .int y, .int v, xx_d] []
  refine sw_aload_n O (xx_dt dd_X14_region 0 rfl) rfl ?_
  refine sw_iconst (x := 0) O (xx_dt dd_X14_region 1 rfl) (by decide) ?_
  refine sw_put (h2 := setM z (u2 σ 5000 0 0) h) O (xx_dt dd_X14_region 2 rfl) cl_X14 fl_X14_46 (lm_mod (σ := σ)) (by decide) (by omega) rfl (fun _ => ⟨rfl, rfl⟩) (pm_mod (σ := σ) (by omega)) ?_
  refine sw_iload_n O (xx_dt dd_X14_region 3 rfl) rfl ?_
  refine sw_iconst (x := 1) O (xx_dt dd_X14_region 4 rfl) (by decide) ?_
  refine sw_iconst (x := 5) O (xx_dt dd_X14_region 5 rfl) (by decide) ?_
  refine sw_callSx (as := [.int x, .int 1, .int 5]) (st := []) (st2 := [.int (bZ (n_bt x 1 5))]) O (ct_X14_is hl) ce_X14_is ml_X14_70 st_X14_is (xx_dt dd_X14_region 6 rfl) (by decide) rfl rfl (Nat.le_of_ble_eq_true rfl) rfl ?_
  refine sw_if_eqB (tgt := 35) O (xx_dt dd_X14_region 7 rfl) (by decide) (fun q1 => ?_) (fun q1 => ?_)
  · refine sw_aload_n O (xx_dt dd_X14_region 18 rfl) rfl ?_
    refine sw_iconst (x := 1) O (xx_dt dd_X14_region 19 rfl) (by decide) ?_
    refine sw_callVx (as := [.int 1]) (st := []) (st2 := [.int 0]) O (ct_X14_refuse hl (z := z) (σ := u2 σ 5000 0 0) hbs (x := 1)) ce_X14_refuse ml_X14_74 iv_X14_refuse cl_X14 rfl (lm_mod (σ := u2 σ 5000 0 0)) (xx_dt dd_X14_region 20 rfl) (by decide) rfl rfl (Nat.le_of_ble_eq_true rfl) rfl ?_
    exact sw_iret O (xx_dt dd_X14_region 21 rfl) rfl rfl (by rw [hQ]; exact ⟨by unfold f_Mregion; simp only [if_neg q1], by unfold g_Mregion; simp only [if_neg q1]⟩)
  · refine sw_iload_n O (xx_dt dd_X14_region 8 rfl) rfl ?_
    refine sw_iconst (x := 1) O (xx_dt dd_X14_region 9 rfl) (by decide) ?_
    refine sw_bipush (x := 9) O (xx_dt dd_X14_region 10 rfl) (by decide) ?_
    refine sw_callSx (as := [.int y, .int 1, .int 9]) (st := []) (st2 := [.int (bZ (n_bt y 1 9))]) O (ct_X14_is hl) ce_X14_is ml_X14_70 st_X14_is (xx_dt dd_X14_region 11 rfl) (by decide) rfl rfl (Nat.le_of_ble_eq_true rfl) rfl ?_
    refine sw_if_eqB (tgt := 35) O (xx_dt dd_X14_region 12 rfl) (by decide) (fun q2 => ?_) (fun q2 => ?_)
    · refine sw_aload_n O (xx_dt dd_X14_region 18 rfl) rfl ?_
      refine sw_iconst (x := 1) O (xx_dt dd_X14_region 19 rfl) (by decide) ?_
      refine sw_callVx (as := [.int 1]) (st := []) (st2 := [.int 0]) O (ct_X14_refuse hl (z := z) (σ := u2 σ 5000 0 0) hbs (x := 1)) ce_X14_refuse ml_X14_74 iv_X14_refuse cl_X14 rfl (lm_mod (σ := u2 σ 5000 0 0)) (xx_dt dd_X14_region 20 rfl) (by decide) rfl rfl (Nat.le_of_ble_eq_true rfl) rfl ?_
      exact sw_iret O (xx_dt dd_X14_region 21 rfl) rfl rfl (by rw [hQ]; exact ⟨by unfold f_Mregion; simp only [if_pos q1, if_neg q2], by unfold g_Mregion; simp only [if_pos q1, if_neg q2]⟩)
    · refine sw_iload_n O (xx_dt dd_X14_region 13 rfl) rfl ?_
      refine sw_iconst (x := 1) O (xx_dt dd_X14_region 14 rfl) (by decide) ?_
      refine sw_sipush (x := 999) O (xx_dt dd_X14_region 15 rfl) (by decide) ?_
      refine sw_callSx (as := [.int v, .int 1, .int 999]) (st := []) (st2 := [.int (bZ (n_bt v 1 999))]) O (ct_X14_is hl) ce_X14_is ml_X14_70 st_X14_is (xx_dt dd_X14_region 16 rfl) (by decide) rfl rfl (Nat.le_of_ble_eq_true rfl) rfl ?_
      refine sw_if_neB (tgt := 41) O (xx_dt dd_X14_region 17 rfl) (by decide) (fun q3 => ?_) (fun q3 => ?_)
      · refine sw_aload_n O (xx_dt dd_X14_region 22 rfl) rfl ?_
        refine sw_get (v := .int (σ 5000 1)) O (xx_dt dd_X14_region 23 rfl) cl_X14 fl_X14_77 (lm_mod (σ := u2 σ 5000 0 0)) (by decide) rfl ?_
        refine sw_if_ne (tgt := 59) O (xx_dt dd_X14_region 24 rfl) (by decide) (fun q4 => ?_) (fun q4 => ?_)
        · refine sw_aload_n O (xx_dt dd_X14_region 30 rfl) rfl ?_
          refine sw_iconst (x := 2) O (xx_dt dd_X14_region 31 rfl) (by decide) ?_
          refine sw_callVx (as := [.int 2]) (st := []) (st2 := [.int 0]) O (ct_X14_refuse hl (z := z) (σ := u2 σ 5000 0 0) hbs (x := 2)) ce_X14_refuse ml_X14_74 iv_X14_refuse cl_X14 rfl (lm_mod (σ := u2 σ 5000 0 0)) (xx_dt dd_X14_region 32 rfl) (by decide) rfl rfl (Nat.le_of_ble_eq_true rfl) rfl ?_
          exact sw_iret O (xx_dt dd_X14_region 33 rfl) rfl rfl (by rw [hQ]; exact ⟨by unfold f_Mregion; simp only [if_pos q1, if_pos q2, if_pos q3, if_neg q4], by unfold g_Mregion; simp only [if_pos q1, if_pos q2, if_pos q3, if_neg q4]⟩)
        · refine sw_aload_n O (xx_dt dd_X14_region 25 rfl) rfl ?_
          refine sw_get (v := .ref 5001) O (xx_dt dd_X14_region 26 rfl) cl_X14 fl_X14_23 (lm_mod (σ := u2 σ 5000 0 0)) (by decide) rfl ?_
          refine sw_callVL (ci := 6) (as := []) (st := []) (st2 := [.int (nI R)]) O (ct_AL_size hl (lm_5001 (σ := u2 σ 5000 0 0) (R := R) hR (by omega))) ce_Jx4a65c_size_8abf5 ml_X14_57 iv_Jx4a65c_size_8abf5 cl_Jx4a65c rfl (lm_5001 (σ := u2 σ 5000 0 0) (R := R) hR (by omega)) (xx_dt dd_X14_region 27 rfl) (by decide) rfl rfl (Nat.le_of_ble_eq_true rfl) rfl ?_
          refine sw_iconst (x := 5) O (xx_dt dd_X14_region 28 rfl) (by decide) ?_
          refine sw_icmp_ne (tgt := 65) O (xx_dt dd_X14_region 29 rfl) (by decide) (fun q5 => ?_) (fun q5 => ?_)
          · have hp9 := hp0 (by assumption)
            have hR4 : R < 5 := by rcases Nat.lt_or_ge R 5 with h9 | h9; exact h9; exact absurd (show nI R = 5 from congrArg nI (Nat.le_antisymm hR5 h9)) (by assumption)
            refine sw_new (k := 1) (n := 18) (r := 5010 + R) O (xx_dt dd_X14_region 34 rfl) cl_X12 nw_X14_65 ((no_reg (z := z) (σ := u2 σ 5000 0 0) (R := R) hR hR4).trans (hfr (5010 + R) (by omega) (by omega))) (by omega) ?_
            rw [xx_blk_up, ← setM_up (.inr (noq_reg (σ := u2 σ 5000 0 0) (R := R) hR hR4))]
            have hbs0 := hbs
            have hbs := bs_up (r := 5010 + R) (c := (18, 4, fun j => defaultValue (tyX12 j))) hbs (by omega) (by omega) (by omega)
            refine sw_dup O (xx_dt dd_X14_region 35 rfl) rfl ?_
            refine sw_callIx (as := []) (st := [.ref (5010 + R)]) (st2 := [.ref (5010 + R)]) (k' := 0) (n' := 0) O (ct_X12_init hl) ce_X12_init ml_X14_80 ii_X12_init (xx_dt dd_X14_region 36 rfl) (by decide) rfl rfl (Nat.le_of_ble_eq_true rfl) rfl ?_
            refine sw_astore (ls2 := [.ref 5000, .int x, .int y, .int v, .ref (5010 + R)]) O (xx_dt dd_X14_region 37 rfl) (by decide) rfl ?_
            refine sw_aload O (xx_dt dd_X14_region 38 rfl) rfl ?_
            refine sw_iload_n O (xx_dt dd_X14_region 39 rfl) rfl ?_
            refine sw_put (h2 := setM z (u2 σ 5000 0 0) (xx_up h (5010 + R) (18, 4, updV (fun j => defaultValue (tyX12 j)) 0 (.int x)))) O (xx_dt dd_X14_region 40 rfl) cl_X12 fl_X14_81 ((setM_no (noq_reg (σ := u2 σ 5000 0 0) (R := R) hR hR4)).trans (xx_up_eq _ _ _)) (by decide) (by omega) rfl (fun _ => ⟨rfl, rfl⟩) (by rw [← setM_up (.inr (noq_reg (σ := u2 σ 5000 0 0) (R := R) hR hR4)), xx_up_up]) ?_
            have hbs := bs_up (r := 5010 + R) (c := (18, 4, updV (fun j => defaultValue (tyX12 j)) 0 (.int x))) hbs0 (by omega) (by omega) (by omega)
            refine sw_aload O (xx_dt dd_X14_region 41 rfl) rfl ?_
            refine sw_iload_n O (xx_dt dd_X14_region 42 rfl) rfl ?_
            refine sw_put (h2 := setM z (u2 σ 5000 0 0) (xx_up h (5010 + R) (18, 4, updV (updV (fun j => defaultValue (tyX12 j)) 0 (.int x)) 1 (.int y)))) O (xx_dt dd_X14_region 43 rfl) cl_X12 fl_X14_67 ((setM_no (noq_reg (σ := u2 σ 5000 0 0) (R := R) hR hR4)).trans (xx_up_eq _ _ _)) (by decide) (by omega) rfl (fun _ => ⟨rfl, rfl⟩) (by rw [← setM_up (.inr (noq_reg (σ := u2 σ 5000 0 0) (R := R) hR hR4)), xx_up_up]) ?_
            have hbs := bs_up (r := 5010 + R) (c := (18, 4, updV (updV (fun j => defaultValue (tyX12 j)) 0 (.int x)) 1 (.int y))) hbs0 (by omega) (by omega) (by omega)
            refine sw_aload O (xx_dt dd_X14_region 44 rfl) rfl ?_
            refine sw_iload_n O (xx_dt dd_X14_region 45 rfl) rfl ?_
            refine sw_put (h2 := setM z (u2 σ 5000 0 0) (xx_up h (5010 + R) (18, 4, updV (updV (updV (fun j => defaultValue (tyX12 j)) 0 (.int x)) 1 (.int y)) 2 (.int v)))) O (xx_dt dd_X14_region 46 rfl) cl_X12 fl_X14_84 ((setM_no (noq_reg (σ := u2 σ 5000 0 0) (R := R) hR hR4)).trans (xx_up_eq _ _ _)) (by decide) (by omega) rfl (fun _ => ⟨rfl, rfl⟩) (by rw [← setM_up (.inr (noq_reg (σ := u2 σ 5000 0 0) (R := R) hR hR4)), xx_up_up]) ?_
            have hbs := bs_up (r := 5010 + R) (c := (18, 4, updV (updV (updV (fun j => defaultValue (tyX12 j)) 0 (.int x)) 1 (.int y)) 2 (.int v))) hbs0 (by omega) (by omega) (by omega)
            refine sw_aload_n O (xx_dt dd_X14_region 47 rfl) rfl ?_
            refine sw_get (v := .ref 5001) O (xx_dt dd_X14_region 48 rfl) cl_X14 fl_X14_23 (lm_mod (σ := u2 σ 5000 0 0)) (by decide) rfl ?_
            refine sw_aload O (xx_dt dd_X14_region 49 rfl) rfl ?_
            refine xx_wid (k' := 0 + 1) (n' := 0 + ((R) + (R) / 2 + 10)) (by omega) (by omega) (sw_callVL (k := 0) (n := 0) (k' := 1) (n' := (R) + (R) / 2 + 10) (ci := 6) (as := [.ref (5010 + R)]) (st := []) (st2 := [.int 1]) O (ct_add hl (lm_5001 (σ := u2 σ 5000 0 0) (R := R) hR (by omega)) (by omega) (hbs.1.imp fun f0 e => (setM_out (by omega)).trans e) (hbs.2.1.imp fun f0 e => (setM_out (by omega)).trans e) (setM_no2 hbs).1 (setM_no2 hbs).2 (ob_C cl_X12 ((setM_no (noq_reg (σ := u2 σ 5000 0 0) (R := R) hR hR4)).trans (xx_up_eq _ _ _)) ca_X12) (by omega) (fun j9 hj9 => .inr ⟨5010 + j9, rfl, ob_C cl_X12 (lm_reg (σ := u2 σ 5000 0 0) hR (by omega) hj9) ca_X12⟩)) ce_Jx4a65c_add_9ea2d ml_X14_87 iv_Jx4a65c_add_9ea2d cl_Jx4a65c rfl (lm_5001 (σ := u2 σ 5000 0 0) (R := R) hR (by omega)) (xx_dt dd_X14_region 50 rfl) (by decide) rfl rfl (Nat.le_of_ble_eq_true rfl) rfl ?_)
            rw [setM_up (.inr (noq_reg (σ := u2 σ 5000 0 0) (R := R) hR hR4)), show (fun j9 => if j9 = R then Value.ref (5010 + R) else Value.ref (5010 + j9)) = (fun k => Value.ref (5010 + k)) from funext fun j9 => (by split <;> simp_all)]
            refine sw_alter (r := 5010 + R) (F2 := fun k => .int ((fun k => match k with | 0 => x | 1 => y | 2 => v | _ => 0) k)) ((xx_up_ne (by omega)).trans (xx_up_eq _ _ _)) (fun k9 hk9 => by match k9, hk9 with | 0, _ => rfl | 1, _ => rfl | 2, _ => rfl | 3, _ => rfl) ?_
            rw [← xx_up_sw (r := 5010 + R) (e := 5001) (by omega), xx_up_up, add_reg (σ := u2 σ 5000 0 0) hR hR4 hp9.1 hp9.2.1 hp9.2.2]
            have hbs := hbs0
            refine sw_pop O (xx_dt dd_X14_region 51 rfl) rfl ?_
            refine sw_aload_n O (xx_dt dd_X14_region 52 rfl) rfl ?_
            refine sw_get (v := .ref 5001) O (xx_dt dd_X14_region 53 rfl) cl_X14 fl_X14_23 (lm_mod (σ := u2 (uR (u2 σ 5000 0 0) (5010 + R) (fun k => match k with | 0 => x | 1 => y | 2 => v | _ => 0)) 5001 900 (nI (R + 1)))) (by decide) rfl ?_
            refine sw_callVL (ci := 6) (as := []) (st := []) (st2 := [.int (nI (R + 1))]) O (ct_AL_size hl (lm_5001 (σ := u2 (uR (u2 σ 5000 0 0) (5010 + R) (fun k => match k with | 0 => x | 1 => y | 2 => v | _ => 0)) 5001 900 (nI (R + 1))) (R := R + 1) rfl (by omega))) ce_Jx4a65c_size_8abf5 ml_X14_57 iv_Jx4a65c_size_8abf5 cl_Jx4a65c rfl (lm_5001 (σ := u2 (uR (u2 σ 5000 0 0) (5010 + R) (fun k => match k with | 0 => x | 1 => y | 2 => v | _ => 0)) 5001 900 (nI (R + 1))) (R := R + 1) rfl (by omega)) (xx_dt dd_X14_region 54 rfl) (by decide) rfl rfl (Nat.le_of_ble_eq_true rfl) rfl ?_
            refine sw_iconst (x := 1) O (xx_dt dd_X14_region 55 rfl) (by decide) ?_
            refine sw_isub O (xx_dt dd_X14_region 56 rfl) ?_
            rw [nI_s1 R]
            exact sw_iret O (xx_dt dd_X14_region 57 rfl) rfl rfl (by rw [hQ]; exact ⟨by unfold f_Mregion; simp only [if_pos q1, if_pos q2, if_pos q3, if_pos q4, if_neg q5], by unfold g_Mregion; simp only [if_pos q1, if_pos q2, if_pos q3, if_pos q4, if_neg q5]⟩)
          · refine sw_aload_n O (xx_dt dd_X14_region 30 rfl) rfl ?_
            refine sw_iconst (x := 2) O (xx_dt dd_X14_region 31 rfl) (by decide) ?_
            refine sw_callVx (as := [.int 2]) (st := []) (st2 := [.int 0]) O (ct_X14_refuse hl (z := z) (σ := u2 σ 5000 0 0) hbs (x := 2)) ce_X14_refuse ml_X14_74 iv_X14_refuse cl_X14 rfl (lm_mod (σ := u2 σ 5000 0 0)) (xx_dt dd_X14_region 32 rfl) (by decide) rfl rfl (Nat.le_of_ble_eq_true rfl) rfl ?_
            exact sw_iret O (xx_dt dd_X14_region 33 rfl) rfl rfl (by rw [hQ]; exact ⟨by unfold f_Mregion; simp only [if_pos q1, if_pos q2, if_pos q3, if_pos q4, if_pos q5], by unfold g_Mregion; simp only [if_pos q1, if_pos q2, if_pos q3, if_pos q4, if_pos q5]⟩)
      · refine sw_aload_n O (xx_dt dd_X14_region 18 rfl) rfl ?_
        refine sw_iconst (x := 1) O (xx_dt dd_X14_region 19 rfl) (by decide) ?_
        refine sw_callVx (as := [.int 1]) (st := []) (st2 := [.int 0]) O (ct_X14_refuse hl (z := z) (σ := u2 σ 5000 0 0) hbs (x := 1)) ce_X14_refuse ml_X14_74 iv_X14_refuse cl_X14 rfl (lm_mod (σ := u2 σ 5000 0 0)) (xx_dt dd_X14_region 20 rfl) (by decide) rfl rfl (Nat.le_of_ble_eq_true rfl) rfl ?_
        exact sw_iret O (xx_dt dd_X14_region 21 rfl) rfl rfl (by rw [hQ]; exact ⟨by unfold f_Mregion; simp only [if_pos q1, if_pos q2, if_neg q3], by unfold g_Mregion; simp only [if_pos q1, if_pos q2, if_neg q3]⟩)
end
section
/-! ===== the reference: a bidder is added ===== -/
theorem lyQ_Bi {z : Int64} {C C' : XS9} {r B : Nat} {s : Nat → Int32} (h1 : ∀ q i, q ≠ 5002 → q ≠ 5030 + B → C q i = C' q i) (h2 : cn (C 5002 900) = B) (h3 : cn (C' 5002 900) = B + 1) (h4 : cn (C' (5030 + B) 900) = 0) (hB : B < 6) (hr : r ≠ 5002 ∧ r ≠ 5020 + B ∧ r ≠ 5030 + B) : lyQ z C r s = lyQ z C' r s := by
  have e1 : ∀ i, C 5001 i = C' 5001 i := fun i => h1 _ _ (by omega) (by omega)
  have e3 : ∀ i, C 5003 i = C' 5003 i := fun i => h1 _ _ (by omega) (by omega)
  have e4 : ∀ i, C 5004 i = C' 5004 i := fun i => h1 _ _ (by omega) (by omega)
  have e7 : ∀ i, C 7000 i = C' 7000 i := fun i => h1 _ _ (by omega) (by omega)
  have e8 : ∀ i, C 8000 i = C' 8000 i := fun i => h1 _ _ (by omega) (by omega)
  have e9 : ∀ i, C 9000 i = C' 9000 i := fun i => h1 _ _ (by omega) (by omega)
  have er : ∀ i, C r i = C' r i := fun i => h1 _ _ hr.1 hr.2.2
  unfold lyQ lyB nmS
  by_cases u0 : r < 5010
  · rw [if_pos u0, if_pos u0]
    split <;> first | rfl | (exfalso; omega) | simp only [e1, e3, e4, e7]
  rw [if_neg u0, if_neg u0]
  by_cases u1 : r < 5020
  · rw [if_pos u1, if_pos u1, e1]
  rw [if_neg u1, if_neg u1]
  by_cases u2 : r < 5030
  · rw [if_pos u2, if_pos u2, h2, h3]
    by_cases v : r - 5020 < B
    · rw [if_pos v, if_pos (by omega)]
    · rw [if_neg v, if_neg (by omega)]
  rw [if_neg u2, if_neg u2]
  by_cases u3 : r < 5040
  · rw [if_pos u3, if_pos u3, h2, h3]
    by_cases v : r - 5030 < B
    · rw [if_pos v, if_pos (by omega)]
      simp only [er]
    · rw [if_neg v, if_neg (by omega)]
  rw [if_neg u3, if_neg u3]
  by_cases u4 : r < 10000
  · simp only [e1, e3, e7, e8, e9, if_pos u4]
  by_cases u5 : r < 10200
  · simp only [if_neg (show ¬ r < 5200 by omega), if_neg (show ¬ r < 5300 by omega), if_neg (show ¬ r < 6000 by omega), if_neg (show ¬ r < 6100 by omega), if_neg (show ¬ r < 6200 by omega), if_neg (show ¬ r < 6300 by omega), if_neg (show ¬ r < 6400 by omega), if_neg (show ¬ r < 7000 by omega), if_neg (show ¬ r < 8000 by omega), if_neg (show ¬ r < 9000 by omega), if_neg (show ¬ r < 9010 by omega), if_neg u4, if_pos u5, h2, h3]
    by_cases v : (r - 10000) / 20 < B
    · have ep : ∀ i, C (5030 + (r - 10000) / 20) i = C' (5030 + (r - 10000) / 20) i := fun i => h1 _ _ (by omega) (by omega)
      simp only [ep, v, show (r - 10000) / 20 < B + 1 by omega]
    · rw [if_neg (by omega)]
      by_cases w : (r - 10000) / 20 = B
      · rw [w, h4, if_neg (by omega)]
      · rw [if_neg (by omega)]
  simp only [e1, e3, e4, e7, e8, e9, er, if_neg u4, if_neg u5, if_neg (show ¬ r < 9010 by omega), if_neg (show ¬ r < 5200 by omega), if_neg (show ¬ r < 5300 by omega), if_neg (show ¬ r < 6000 by omega), if_neg (show ¬ r < 6100 by omega), if_neg (show ¬ r < 6200 by omega), if_neg (show ¬ r < 6300 by omega), if_neg (show ¬ r < 6400 by omega), if_neg (show ¬ r < 7000 by omega), if_neg (show ¬ r < 8000 by omega), if_neg (show ¬ r < 9000 by omega)]
theorem add_bid {z : Int64} {σ : XS9} {h : XH} {B : Nat} {row : Nat → Int32} {L : Nat → Value} (hB : σ 5002 900 = nI B) (hB5 : B < 6) : xx_up (xx_up (xx_up (setM z σ h) (5020 + B) (15, 6, fun k => if k = 5 then .ref (5030 + B) else .int (row k))) (5030 + B) (206, 0, fun k => .ref (xx_box (u2 (u2 (uR σ (5020 + B) row) (5030 + B) 900 0) 5002 900 (nI (B + 1)) (5030 + B) k) (nmP B k)))) 5002 (206, B + 1, fun k => .ref (5020 + k)) = setM z (u2 (u2 (uR σ (5020 + B) row) (5030 + B) 900 0) 5002 900 (nI (B + 1))) h := by
  have n0 : ∀ i, isCtl (5020 + B) i = false := notCtl (by omega)
  have c1 : ∀ q i, q ≠ 5002 → q ≠ 5030 + B → ctl σ q i = ctl (u2 (u2 (uR σ (5020 + B) row) (5030 + B) 900 0) 5002 900 (nI (B + 1))) q i := fun q i hq hq2 => by
    unfold ctl
    rw [u2_ne hq, u2_ne hq2]
    by_cases e : q = 5020 + B
    · rw [e, n0]; rfl
    · rw [uR_ne e]
  have hB' : (u2 (u2 (uR σ (5020 + B) row) (5030 + B) 900 0) 5002 900 (nI (B + 1))) 5002 900 = nI (B + 1) := u2_at
  have hp' : (u2 (u2 (uR σ (5020 + B) row) (5030 + B) 900 0) 5002 900 (nI (B + 1))) (5030 + B) 900 = nI 0 := by
    rw [u2_ne (by omega), u2_at]
    rfl
  have hct : isCtl (5030 + B) 900 = true := by
    unfold isCtl
    rw [show Nat.ble 5030 (5030 + B) = true from Nat.ble_eq_true_of_le (by omega), show Nat.ble (5030 + B) 5039 = true from Nat.ble_eq_true_of_le (by omega)]
    simp
  funext q
  unfold xx_up
  by_cases a1 : q = 5002
  · rw [if_pos a1, a1, lm_5002 hB' (by omega)]
  rw [if_neg a1]
  by_cases a3 : q = 5030 + B
  · rw [if_pos a3, a3, lm_pks hB' (by omega) (by omega) hp' (by omega)]
  rw [if_neg a3]
  by_cases a2 : q = 5020 + B
  · rw [if_pos a2, a2, lm_bid hB' (by omega) (by omega), u2_ne (by omega), u2_ne (by omega), uR_eq]
  rw [if_neg a2]
  unfold setM
  rw [u2_ne a1, u2_ne a3, uR_ne a2, lyQ_Bi (B := B) c1 (ct1 rfl hB (by omega)) (ct1 rfl hB' (by omega)) (ct1 hct hp' (by omega)) hB5 ⟨a1, a2, a3⟩]
theorem noq_bid {z : Int64} {σ : XS9} {B : Nat} (hB : σ 5002 900 = nI B) (hB5 : B < 6) : lyQ z (ctl σ) (5020 + B) (σ (5020 + B)) = none ∧ lyQ z (ctl σ) (5030 + B) (σ (5030 + B)) = none := by
  have e := ct1 (i := 900) rfl hB (by omega)
  constructor
  · unfold lyQ
    rw [if_neg (by omega), if_neg (by omega), if_pos (by omega), e, if_neg (by omega)]
  · unfold lyQ
    rw [if_neg (by omega), if_neg (by omega), if_neg (by omega), if_pos (by omega), e, if_neg (by omega)]
theorem ct_X9_init {l : Launch} {h : XH} (hl : l.stackTraces = false) {r q : Nat} {F : Nat → Value} (hr : h r = some (15, 6, F)) (hq : h q = none) (h1 : 1000 ≤ r) (h2 : 1000 ≤ q) (hrq : r ≠ q) (h0 : ∃ f0, h 0 = some (104, 0, f0))  : XEx l m_X9_init 5 1 3 [.ref r] (h) (none) ((xx_up (xx_up h r (15, 6, updV F 5 (.ref q))) q (206, 0, fun _ => .null))) := by
  refine XMet.of hl rfl rfl (Nat.le_of_ble_eq_true rfl) (fun Y O hh hQ => ?_)
  obtain ⟨f0, h0⟩ := h0
  show SW Y 1 3 (h) 0 [.ref r] []
  refine sw_aload_n O (xx_dt dd_X9_init 0 rfl) rfl ?_
  refine sw_objInit O oi_X9_1 (xx_dt dd_X9_init 1 rfl) (by omega) (Nat.le_of_ble_eq_true rfl) ?_
  refine sw_aload_n O (xx_dt dd_X9_init 2 rfl) rfl ?_
  refine sw_new (k := 0) (n := 0) (r := q) O (xx_dt dd_X9_init 3 rfl) cl_Jx4a65c nw_X9_7 hq h2 ?_
  rw [xx_blk_up]
  refine sw_alter (r := q) (F2 := vp_V [.int 0, .null, .int 0]) (xx_up_eq _ _ _) (fun j hj => by match j, hj with | 0, _ => rfl | 1, _ => rfl | 2, _ => rfl) ?_
  rw [xx_up_up]
  refine sw_dup O (xx_dt dd_X9_init 4 rfl) rfl ?_
  refine sw_callIx (as := []) (st := [.ref q, .ref r]) (st2 := [.ref q, .ref r]) (k' := 0) (n' := 0) O (ct_AL_init hl (r := q) (xx_up_eq _ _ _) h2 (fun k _ => rfl) ((xx_up_ne (by omega)).trans h0)) ce_Jx4a65c_init_da8c8 ml_X9_9 ii_Jx4a65c_init_da8c8 (xx_dt dd_X9_init 5 rfl) (by decide) rfl rfl (Nat.le_of_ble_eq_true rfl) rfl ?_
  rw [xx_up_up]
  refine sw_putF (h2 := (xx_up (xx_up h r (15, 6, updV F 5 (.ref q))) q (206, 0, fun _ => .null))) O (xx_dt dd_X9_init 6 rfl) cl_X9 fz_X9_10 ((xx_up_ne hrq).trans hr) (by decide) h1 rfl rfl (fun _ => ⟨rfl, rfl⟩) (by rw [← xx_up_sw hrq]) ?_
  exact sw_ret O (xx_dt dd_X9_init 7 rfl) rfl (by rw [hQ]; exact ⟨rfl, rfl⟩)
def f_Mbidder (σ : XS9) (x y v u : Int32) (B : Nat) : Int32 := (if n_bt x 0 99999 then (if n_bt y 1 200 then (if n_bt v 0 30 then (if n_bt u 0 3 then (if (σ 5000 1) = 0 then (if (nI B) = 6 then 0 else nI B) else 0) else 0) else 0) else 0) else 0)
def g_Mbidder (σ : XS9) (x y v u : Int32) (B : Nat) : XS9 := (if n_bt x 0 99999 then (if n_bt y 1 200 then (if n_bt v 0 30 then (if n_bt u 0 3 then (if (σ 5000 1) = 0 then (if (nI B) = 6 then u2 (u2 σ 5000 0 0) 5000 0 2 else u2 (u2 (uR (u2 σ 5000 0 0) (5020 + B) (fun k => match k with | 0 => x | 1 => y | 2 => v | 3 => u | _ => 0)) (5030 + B) 900 0) 5002 900 (nI (B + 1))) else u2 (u2 σ 5000 0 0) 5000 0 2) else u2 (u2 σ 5000 0 0) 5000 0 1) else u2 (u2 σ 5000 0 0) 5000 0 1) else u2 (u2 σ 5000 0 0) 5000 0 1) else u2 (u2 σ 5000 0 0) 5000 0 1)
theorem ct_X14_bidder {l : Launch} {h : XH} (hl : l.stackTraces = false) {z : Int64} {σ : XS9} (hbs : xx_bs h) {B : Nat} (hB : σ 5002 900 = nI B) (hB6 : B ≤ 6) (hfr : ∀ r, 5000 ≤ r → r < 20010 → h r = none) {x y v u : Int32} : XEx l m_X14_bidder 10 3 27 [.ref 5000, .int x, .int y, .int v, .int u] (setM z σ h) (some (.int (f_Mbidder σ x y v u B))) (setM z (g_Mbidder σ x y v u B) h) := by
  refine XMet.of hl rfl rfl (Nat.le_of_ble_eq_true rfl) (fun Y O hh hQ => ?_)
  show SW Y 3 27 (setM z σ h) 0 [.ref 5000, .int x, .int y, .int v, .int u, xx_d] []
  refine sw_aload_n O (xx_dt dd_X14_bidder 0 rfl) rfl ?_
  refine sw_iconst (x := 0) O (xx_dt dd_X14_bidder 1 rfl) (by decide) ?_
  refine sw_put (h2 := setM z (u2 σ 5000 0 0) h) O (xx_dt dd_X14_bidder 2 rfl) cl_X14 fl_X14_46 (lm_mod (σ := σ)) (by decide) (by omega) rfl (fun _ => ⟨rfl, rfl⟩) (pm_mod (σ := σ) (by omega)) ?_
  refine sw_iload_n O (xx_dt dd_X14_bidder 3 rfl) rfl ?_
  refine sw_iconst (x := 0) O (xx_dt dd_X14_bidder 4 rfl) (by decide) ?_
  refine sw_ldc O ct_X14_117 (xx_dt dd_X14_bidder 5 rfl) ?_
  refine sw_callSx (as := [.int x, .int 0, .int 99999]) (st := []) (st2 := [.int (bZ (n_bt x 0 99999))]) O (ct_X14_is hl) ce_X14_is ml_X14_70 st_X14_is (xx_dt dd_X14_bidder 6 rfl) (by decide) rfl rfl (Nat.le_of_ble_eq_true rfl) rfl ?_
  refine sw_if_eqB (tgt := 46) O (xx_dt dd_X14_bidder 7 rfl) (by decide) (fun q1 => ?_) (fun q1 => ?_)
  · refine sw_aload_n O (xx_dt dd_X14_bidder 23 rfl) rfl ?_
    refine sw_iconst (x := 1) O (xx_dt dd_X14_bidder 24 rfl) (by decide) ?_
    refine sw_callVx (as := [.int 1]) (st := []) (st2 := [.int 0]) O (ct_X14_refuse hl (z := z) (σ := u2 σ 5000 0 0) hbs (x := 1)) ce_X14_refuse ml_X14_74 iv_X14_refuse cl_X14 rfl (lm_mod (σ := u2 σ 5000 0 0)) (xx_dt dd_X14_bidder 25 rfl) (by decide) rfl rfl (Nat.le_of_ble_eq_true rfl) rfl ?_
    exact sw_iret O (xx_dt dd_X14_bidder 26 rfl) rfl rfl (by rw [hQ]; exact ⟨by unfold f_Mbidder; simp only [if_neg q1], by unfold g_Mbidder; simp only [if_neg q1]⟩)
  · refine sw_iload_n O (xx_dt dd_X14_bidder 8 rfl) rfl ?_
    refine sw_iconst (x := 1) O (xx_dt dd_X14_bidder 9 rfl) (by decide) ?_
    refine sw_sipush (x := 200) O (xx_dt dd_X14_bidder 10 rfl) (by decide) ?_
    refine sw_callSx (as := [.int y, .int 1, .int 200]) (st := []) (st2 := [.int (bZ (n_bt y 1 200))]) O (ct_X14_is hl) ce_X14_is ml_X14_70 st_X14_is (xx_dt dd_X14_bidder 11 rfl) (by decide) rfl rfl (Nat.le_of_ble_eq_true rfl) rfl ?_
    refine sw_if_eqB (tgt := 46) O (xx_dt dd_X14_bidder 12 rfl) (by decide) (fun q2 => ?_) (fun q2 => ?_)
    · refine sw_aload_n O (xx_dt dd_X14_bidder 23 rfl) rfl ?_
      refine sw_iconst (x := 1) O (xx_dt dd_X14_bidder 24 rfl) (by decide) ?_
      refine sw_callVx (as := [.int 1]) (st := []) (st2 := [.int 0]) O (ct_X14_refuse hl (z := z) (σ := u2 σ 5000 0 0) hbs (x := 1)) ce_X14_refuse ml_X14_74 iv_X14_refuse cl_X14 rfl (lm_mod (σ := u2 σ 5000 0 0)) (xx_dt dd_X14_bidder 25 rfl) (by decide) rfl rfl (Nat.le_of_ble_eq_true rfl) rfl ?_
      exact sw_iret O (xx_dt dd_X14_bidder 26 rfl) rfl rfl (by rw [hQ]; exact ⟨by unfold f_Mbidder; simp only [if_pos q1, if_neg q2], by unfold g_Mbidder; simp only [if_pos q1, if_neg q2]⟩)
    · refine sw_iload_n O (xx_dt dd_X14_bidder 13 rfl) rfl ?_
      refine sw_iconst (x := 0) O (xx_dt dd_X14_bidder 14 rfl) (by decide) ?_
      refine sw_bipush (x := 30) O (xx_dt dd_X14_bidder 15 rfl) (by decide) ?_
      refine sw_callSx (as := [.int v, .int 0, .int 30]) (st := []) (st2 := [.int (bZ (n_bt v 0 30))]) O (ct_X14_is hl) ce_X14_is ml_X14_70 st_X14_is (xx_dt dd_X14_bidder 16 rfl) (by decide) rfl rfl (Nat.le_of_ble_eq_true rfl) rfl ?_
      refine sw_if_eqB (tgt := 46) O (xx_dt dd_X14_bidder 17 rfl) (by decide) (fun q3 => ?_) (fun q3 => ?_)
      · refine sw_aload_n O (xx_dt dd_X14_bidder 23 rfl) rfl ?_
        refine sw_iconst (x := 1) O (xx_dt dd_X14_bidder 24 rfl) (by decide) ?_
        refine sw_callVx (as := [.int 1]) (st := []) (st2 := [.int 0]) O (ct_X14_refuse hl (z := z) (σ := u2 σ 5000 0 0) hbs (x := 1)) ce_X14_refuse ml_X14_74 iv_X14_refuse cl_X14 rfl (lm_mod (σ := u2 σ 5000 0 0)) (xx_dt dd_X14_bidder 25 rfl) (by decide) rfl rfl (Nat.le_of_ble_eq_true rfl) rfl ?_
        exact sw_iret O (xx_dt dd_X14_bidder 26 rfl) rfl rfl (by rw [hQ]; exact ⟨by unfold f_Mbidder; simp only [if_pos q1, if_pos q2, if_neg q3], by unfold g_Mbidder; simp only [if_pos q1, if_pos q2, if_neg q3]⟩)
      · refine sw_iload O (xx_dt dd_X14_bidder 18 rfl) rfl ?_
        refine sw_iconst (x := 0) O (xx_dt dd_X14_bidder 19 rfl) (by decide) ?_
        refine sw_iconst (x := 3) O (xx_dt dd_X14_bidder 20 rfl) (by decide) ?_
        refine sw_callSx (as := [.int u, .int 0, .int 3]) (st := []) (st2 := [.int (bZ (n_bt u 0 3))]) O (ct_X14_is hl) ce_X14_is ml_X14_70 st_X14_is (xx_dt dd_X14_bidder 21 rfl) (by decide) rfl rfl (Nat.le_of_ble_eq_true rfl) rfl ?_
        refine sw_if_neB (tgt := 52) O (xx_dt dd_X14_bidder 22 rfl) (by decide) (fun q4 => ?_) (fun q4 => ?_)
        · refine sw_aload_n O (xx_dt dd_X14_bidder 27 rfl) rfl ?_
          refine sw_get (v := .int (σ 5000 1)) O (xx_dt dd_X14_bidder 28 rfl) cl_X14 fl_X14_77 (lm_mod (σ := u2 σ 5000 0 0)) (by decide) rfl ?_
          refine sw_if_ne (tgt := 71) O (xx_dt dd_X14_bidder 29 rfl) (by decide) (fun q5 => ?_) (fun q5 => ?_)
          · refine sw_aload_n O (xx_dt dd_X14_bidder 35 rfl) rfl ?_
            refine sw_iconst (x := 2) O (xx_dt dd_X14_bidder 36 rfl) (by decide) ?_
            refine sw_callVx (as := [.int 2]) (st := []) (st2 := [.int 0]) O (ct_X14_refuse hl (z := z) (σ := u2 σ 5000 0 0) hbs (x := 2)) ce_X14_refuse ml_X14_74 iv_X14_refuse cl_X14 rfl (lm_mod (σ := u2 σ 5000 0 0)) (xx_dt dd_X14_bidder 37 rfl) (by decide) rfl rfl (Nat.le_of_ble_eq_true rfl) rfl ?_
            exact sw_iret O (xx_dt dd_X14_bidder 38 rfl) rfl rfl (by rw [hQ]; exact ⟨by unfold f_Mbidder; simp only [if_pos q1, if_pos q2, if_pos q3, if_pos q4, if_neg q5], by unfold g_Mbidder; simp only [if_pos q1, if_pos q2, if_pos q3, if_pos q4, if_neg q5]⟩)
          · refine sw_aload_n O (xx_dt dd_X14_bidder 30 rfl) rfl ?_
            refine sw_get (v := .ref 5002) O (xx_dt dd_X14_bidder 31 rfl) cl_X14 fl_X14_27 (lm_mod (σ := u2 σ 5000 0 0)) (by decide) rfl ?_
            refine sw_callVL (ci := 6) (as := []) (st := []) (st2 := [.int (nI B)]) O (ct_AL_size hl (lm_5002 (σ := u2 σ 5000 0 0) (B := B) hB (by omega))) ce_Jx4a65c_size_8abf5 ml_X14_57 iv_Jx4a65c_size_8abf5 cl_Jx4a65c rfl (lm_5002 (σ := u2 σ 5000 0 0) (B := B) hB (by omega)) (xx_dt dd_X14_bidder 32 rfl) (by decide) rfl rfl (Nat.le_of_ble_eq_true rfl) rfl ?_
            refine sw_bipush (x := 6) O (xx_dt dd_X14_bidder 33 rfl) (by decide) ?_
            refine sw_icmp_ne (tgt := 77) O (xx_dt dd_X14_bidder 34 rfl) (by decide) (fun q6 => ?_) (fun q6 => ?_)
            · have hB5 : B < 6 := by rcases Nat.lt_or_ge B 6 with h9 | h9; exact h9; exact absurd (show nI B = 6 from congrArg nI (Nat.le_antisymm hB6 h9)) (by assumption)
              refine sw_new (k := 2) (n := 21) (r := 5020 + B) O (xx_dt dd_X14_bidder 39 rfl) cl_X9 nw_X14_118 ((setM_no (z := z) (noq_bid (σ := u2 σ 5000 0 0) (B := B) hB hB5).1).trans (hfr (5020 + B) (by omega) (by omega))) (by omega) ?_
              rw [xx_blk_up, ← setM_up (.inr (noq_bid (σ := u2 σ 5000 0 0) (B := B) hB hB5).1)]
              have hbs0 := hbs
              have hbs := bs_up (r := 5020 + B) (c := (15, 6, fun j => defaultValue (tyX9 j))) hbs (by omega) (by omega) (by omega)
              refine sw_dup O (xx_dt dd_X14_bidder 40 rfl) rfl ?_
              refine sw_callIx (k := 1) (n := 18) (k' := 1) (n' := 3) (as := []) (st := [.ref (5020 + B)]) (st2 := [.ref (5020 + B)]) O (ct_X9_init hl (r := 5020 + B) (q := 5030 + B) ((setM_no (noq_bid (σ := u2 σ 5000 0 0) (B := B) hB hB5).1).trans (xx_up_eq _ _ _)) ((setM_no (noq_bid (σ := u2 σ 5000 0 0) (B := B) hB hB5).2).trans ((xx_up_ne (by omega)).trans (hfr (5030 + B) (by omega) (by omega)))) (by omega) (by omega) (by omega) (hbs.1.imp fun f0 e => (setM_out (by omega)).trans e)) ce_X9_init ml_X14_120 ii_X9_init (xx_dt dd_X14_bidder 41 rfl) (by decide) rfl rfl (Nat.le_of_ble_eq_true rfl) rfl ?_
              rw [← setM_up (.inr (noq_bid (σ := u2 σ 5000 0 0) (B := B) hB hB5).1), xx_up_up, ← setM_up (.inr (noq_bid (σ := u2 σ 5000 0 0) (B := B) hB hB5).2)]
              have hbs := bs_up (r := 5030 + B) (c := (206, 0, fun _ => .null)) (bs_up (r := 5020 + B) (c := (15, 6, updV (fun j => defaultValue (tyX9 j)) 5 (.ref (5030 + B)))) hbs0 (by omega) (by omega) (by omega)) (by omega) (by omega) (by omega)
              refine sw_astore (ls2 := [.ref 5000, .int x, .int y, .int v, .int u, .ref (5020 + B)]) O (xx_dt dd_X14_bidder 42 rfl) (by decide) rfl ?_
              refine sw_aload O (xx_dt dd_X14_bidder 43 rfl) rfl ?_
              refine sw_iload_n O (xx_dt dd_X14_bidder 44 rfl) rfl ?_
              refine sw_put (h2 := setM z (u2 σ 5000 0 0) (xx_up (xx_up h (5020 + B) (15, 6, updV (updV (fun j => defaultValue (tyX9 j)) 5 (.ref (5030 + B))) 0 (.int x))) (5030 + B) (206, 0, fun _ => .null))) O (xx_dt dd_X14_bidder 45 rfl) cl_X9 fl_X14_121 ((setM_no (noq_bid (σ := u2 σ 5000 0 0) (B := B) hB hB5).1).trans ((xx_up_ne (by omega)).trans (xx_up_eq _ _ _))) (by decide) (by omega) rfl (fun _ => ⟨rfl, rfl⟩) (by rw [← setM_up (.inr (noq_bid (σ := u2 σ 5000 0 0) (B := B) hB hB5).1), ← xx_up_sw (r := 5020 + B) (e := 5030 + B) (by omega), xx_up_up]) ?_
              have hbs := bs_up (r := 5030 + B) (c := (206, 0, fun _ => .null)) (bs_up (r := 5020 + B) (c := (15, 6, updV (updV (fun j => defaultValue (tyX9 j)) 5 (.ref (5030 + B))) 0 (.int x))) hbs0 (by omega) (by omega) (by omega)) (by omega) (by omega) (by omega)
              refine sw_aload O (xx_dt dd_X14_bidder 46 rfl) rfl ?_
              refine sw_iload_n O (xx_dt dd_X14_bidder 47 rfl) rfl ?_
              refine sw_put (h2 := setM z (u2 σ 5000 0 0) (xx_up (xx_up h (5020 + B) (15, 6, updV (updV (updV (fun j => defaultValue (tyX9 j)) 5 (.ref (5030 + B))) 0 (.int x)) 1 (.int y))) (5030 + B) (206, 0, fun _ => .null))) O (xx_dt dd_X14_bidder 48 rfl) cl_X9 fl_X14_124 ((setM_no (noq_bid (σ := u2 σ 5000 0 0) (B := B) hB hB5).1).trans ((xx_up_ne (by omega)).trans (xx_up_eq _ _ _))) (by decide) (by omega) rfl (fun _ => ⟨rfl, rfl⟩) (by rw [← setM_up (.inr (noq_bid (σ := u2 σ 5000 0 0) (B := B) hB hB5).1), ← xx_up_sw (r := 5020 + B) (e := 5030 + B) (by omega), xx_up_up]) ?_
              have hbs := bs_up (r := 5030 + B) (c := (206, 0, fun _ => .null)) (bs_up (r := 5020 + B) (c := (15, 6, updV (updV (updV (fun j => defaultValue (tyX9 j)) 5 (.ref (5030 + B))) 0 (.int x)) 1 (.int y))) hbs0 (by omega) (by omega) (by omega)) (by omega) (by omega) (by omega)
              refine sw_aload O (xx_dt dd_X14_bidder 49 rfl) rfl ?_
              refine sw_iload_n O (xx_dt dd_X14_bidder 50 rfl) rfl ?_
              refine sw_put (h2 := setM z (u2 σ 5000 0 0) (xx_up (xx_up h (5020 + B) (15, 6, updV (updV (updV (updV (fun j => defaultValue (tyX9 j)) 5 (.ref (5030 + B))) 0 (.int x)) 1 (.int y)) 2 (.int v))) (5030 + B) (206, 0, fun _ => .null))) O (xx_dt dd_X14_bidder 51 rfl) cl_X9 fl_X14_127 ((setM_no (noq_bid (σ := u2 σ 5000 0 0) (B := B) hB hB5).1).trans ((xx_up_ne (by omega)).trans (xx_up_eq _ _ _))) (by decide) (by omega) rfl (fun _ => ⟨rfl, rfl⟩) (by rw [← setM_up (.inr (noq_bid (σ := u2 σ 5000 0 0) (B := B) hB hB5).1), ← xx_up_sw (r := 5020 + B) (e := 5030 + B) (by omega), xx_up_up]) ?_
              have hbs := bs_up (r := 5030 + B) (c := (206, 0, fun _ => .null)) (bs_up (r := 5020 + B) (c := (15, 6, updV (updV (updV (updV (fun j => defaultValue (tyX9 j)) 5 (.ref (5030 + B))) 0 (.int x)) 1 (.int y)) 2 (.int v))) hbs0 (by omega) (by omega) (by omega)) (by omega) (by omega) (by omega)
              refine sw_aload O (xx_dt dd_X14_bidder 52 rfl) rfl ?_
              refine sw_iload O (xx_dt dd_X14_bidder 53 rfl) rfl ?_
              refine sw_put (h2 := setM z (u2 σ 5000 0 0) (xx_up (xx_up h (5020 + B) (15, 6, updV (updV (updV (updV (updV (fun j => defaultValue (tyX9 j)) 5 (.ref (5030 + B))) 0 (.int x)) 1 (.int y)) 2 (.int v)) 3 (.int u))) (5030 + B) (206, 0, fun _ => .null))) O (xx_dt dd_X14_bidder 54 rfl) cl_X9 fl_X14_130 ((setM_no (noq_bid (σ := u2 σ 5000 0 0) (B := B) hB hB5).1).trans ((xx_up_ne (by omega)).trans (xx_up_eq _ _ _))) (by decide) (by omega) rfl (fun _ => ⟨rfl, rfl⟩) (by rw [← setM_up (.inr (noq_bid (σ := u2 σ 5000 0 0) (B := B) hB hB5).1), ← xx_up_sw (r := 5020 + B) (e := 5030 + B) (by omega), xx_up_up]) ?_
              have hbs := bs_up (r := 5030 + B) (c := (206, 0, fun _ => .null)) (bs_up (r := 5020 + B) (c := (15, 6, updV (updV (updV (updV (updV (fun j => defaultValue (tyX9 j)) 5 (.ref (5030 + B))) 0 (.int x)) 1 (.int y)) 2 (.int v)) 3 (.int u))) hbs0 (by omega) (by omega) (by omega)) (by omega) (by omega) (by omega)
              refine sw_aload_n O (xx_dt dd_X14_bidder 55 rfl) rfl ?_
              refine sw_get (v := .ref 5002) O (xx_dt dd_X14_bidder 56 rfl) cl_X14 fl_X14_27 (lm_mod (σ := u2 σ 5000 0 0)) (by decide) rfl ?_
              refine sw_aload O (xx_dt dd_X14_bidder 57 rfl) rfl ?_
              refine xx_wid (k' := 0 + 1) (n' := 0 + ((B) + (B) / 2 + 10)) (by omega) (by omega) (sw_callVL (k := 0) (n := 0) (k' := 1) (n' := (B) + (B) / 2 + 10) (ci := 6) (as := [.ref (5020 + B)]) (st := []) (st2 := [.int 1]) O (ct_add hl (lm_5002 (σ := u2 σ 5000 0 0) (B := B) hB (by omega)) (by omega) (hbs.1.imp fun f0 e => (setM_out (by omega)).trans e) (hbs.2.1.imp fun f0 e => (setM_out (by omega)).trans e) (setM_no2 hbs).1 (setM_no2 hbs).2 (ob_C cl_X9 ((setM_no (noq_bid (σ := u2 σ 5000 0 0) (B := B) hB hB5).1).trans ((xx_up_ne (by omega)).trans (xx_up_eq _ _ _))) ca_X9) (by omega) (fun j9 hj9 => .inr ⟨5020 + j9, rfl, ob_C cl_X9 (lm_bid (σ := u2 σ 5000 0 0) hB (by omega) hj9) ca_X9⟩)) ce_Jx4a65c_add_9ea2d ml_X14_87 iv_Jx4a65c_add_9ea2d cl_Jx4a65c rfl (lm_5002 (σ := u2 σ 5000 0 0) (B := B) hB (by omega)) (xx_dt dd_X14_bidder 58 rfl) (by decide) rfl rfl (Nat.le_of_ble_eq_true rfl) rfl ?_)
              rw [setM_up (.inr (noq_bid (σ := u2 σ 5000 0 0) (B := B) hB hB5).2), setM_up (.inr (noq_bid (σ := u2 σ 5000 0 0) (B := B) hB hB5).1), show (fun j9 => if j9 = B then Value.ref (5020 + B) else Value.ref (5020 + j9)) = (fun k => Value.ref (5020 + k)) from funext fun j9 => (by split <;> simp_all)]
              refine sw_alter (r := 5020 + B) (F2 := fun k => if k = 5 then .ref (5030 + B) else .int ((fun k => match k with | 0 => x | 1 => y | 2 => v | 3 => u | _ => 0) k)) ((xx_up_ne (by omega)).trans ((xx_up_ne (by omega)).trans (xx_up_eq _ _ _))) (fun k9 hk9 => by match k9, hk9 with | 0, _ => rfl | 1, _ => rfl | 2, _ => rfl | 3, _ => rfl | 4, _ => rfl | 5, _ => rfl) ?_
              rw [← xx_up_sw (r := 5020 + B) (e := 5002) (by omega), ← xx_up_sw (r := 5020 + B) (e := 5030 + B) (by omega), xx_up_up]
              refine sw_alter (r := 5030 + B) (F2 := fun k => .ref (xx_box (u2 (u2 (uR (u2 σ 5000 0 0) (5020 + B) (fun k => match k with | 0 => x | 1 => y | 2 => v | 3 => u | _ => 0)) (5030 + B) 900 0) 5002 900 (nI (B + 1)) (5030 + B) k) (nmP B k))) ((xx_up_ne (by omega)).trans (xx_up_eq _ _ _)) (fun k9 hk9 => absurd hk9 (Nat.not_lt_zero _)) ?_
              rw [← xx_up_sw (r := 5030 + B) (e := 5002) (by omega), xx_up_up, add_bid (σ := u2 σ 5000 0 0) (L := fun _ => .null) hB hB5]
              have hbs := hbs0
              refine sw_pop O (xx_dt dd_X14_bidder 59 rfl) rfl ?_
              refine sw_aload_n O (xx_dt dd_X14_bidder 60 rfl) rfl ?_
              refine sw_get (v := .ref 5002) O (xx_dt dd_X14_bidder 61 rfl) cl_X14 fl_X14_27 (lm_mod (σ := u2 (u2 (uR (u2 σ 5000 0 0) (5020 + B) (fun k => match k with | 0 => x | 1 => y | 2 => v | 3 => u | _ => 0)) (5030 + B) 900 0) 5002 900 (nI (B + 1)))) (by decide) rfl ?_
              refine sw_callVL (ci := 6) (as := []) (st := []) (st2 := [.int (nI (B + 1))]) O (ct_AL_size hl (lm_5002 (σ := u2 (u2 (uR (u2 σ 5000 0 0) (5020 + B) (fun k => match k with | 0 => x | 1 => y | 2 => v | 3 => u | _ => 0)) (5030 + B) 900 0) 5002 900 (nI (B + 1))) (B := B + 1) rfl (by omega))) ce_Jx4a65c_size_8abf5 ml_X14_57 iv_Jx4a65c_size_8abf5 cl_Jx4a65c rfl (lm_5002 (σ := u2 (u2 (uR (u2 σ 5000 0 0) (5020 + B) (fun k => match k with | 0 => x | 1 => y | 2 => v | 3 => u | _ => 0)) (5030 + B) 900 0) 5002 900 (nI (B + 1))) (B := B + 1) rfl (by omega)) (xx_dt dd_X14_bidder 62 rfl) (by decide) rfl rfl (Nat.le_of_ble_eq_true rfl) rfl ?_
              refine sw_iconst (x := 1) O (xx_dt dd_X14_bidder 63 rfl) (by decide) ?_
              refine sw_isub O (xx_dt dd_X14_bidder 64 rfl) ?_
              rw [nI_s1 B]
              exact sw_iret O (xx_dt dd_X14_bidder 65 rfl) rfl rfl (by rw [hQ]; exact ⟨by unfold f_Mbidder; simp only [if_pos q1, if_pos q2, if_pos q3, if_pos q4, if_pos q5, if_neg q6], by unfold g_Mbidder; simp only [if_pos q1, if_pos q2, if_pos q3, if_pos q4, if_pos q5, if_neg q6]⟩)
            · refine sw_aload_n O (xx_dt dd_X14_bidder 35 rfl) rfl ?_
              refine sw_iconst (x := 2) O (xx_dt dd_X14_bidder 36 rfl) (by decide) ?_
              refine sw_callVx (as := [.int 2]) (st := []) (st2 := [.int 0]) O (ct_X14_refuse hl (z := z) (σ := u2 σ 5000 0 0) hbs (x := 2)) ce_X14_refuse ml_X14_74 iv_X14_refuse cl_X14 rfl (lm_mod (σ := u2 σ 5000 0 0)) (xx_dt dd_X14_bidder 37 rfl) (by decide) rfl rfl (Nat.le_of_ble_eq_true rfl) rfl ?_
              exact sw_iret O (xx_dt dd_X14_bidder 38 rfl) rfl rfl (by rw [hQ]; exact ⟨by unfold f_Mbidder; simp only [if_pos q1, if_pos q2, if_pos q3, if_pos q4, if_pos q5, if_pos q6], by unfold g_Mbidder; simp only [if_pos q1, if_pos q2, if_pos q3, if_pos q4, if_pos q5, if_pos q6]⟩)
        · refine sw_aload_n O (xx_dt dd_X14_bidder 23 rfl) rfl ?_
          refine sw_iconst (x := 1) O (xx_dt dd_X14_bidder 24 rfl) (by decide) ?_
          refine sw_callVx (as := [.int 1]) (st := []) (st2 := [.int 0]) O (ct_X14_refuse hl (z := z) (σ := u2 σ 5000 0 0) hbs (x := 1)) ce_X14_refuse ml_X14_74 iv_X14_refuse cl_X14 rfl (lm_mod (σ := u2 σ 5000 0 0)) (xx_dt dd_X14_bidder 25 rfl) (by decide) rfl rfl (Nat.le_of_ble_eq_true rfl) rfl ?_
          exact sw_iret O (xx_dt dd_X14_bidder 26 rfl) rfl rfl (by rw [hQ]; exact ⟨by unfold f_Mbidder; simp only [if_pos q1, if_pos q2, if_pos q3, if_neg q4], by unfold g_Mbidder; simp only [if_pos q1, if_pos q2, if_pos q3, if_neg q4]⟩)
end
section
/-! ===== the reference: numbers in lists ===== -/
def vF (v : Int32) : Nat → Value := updV (fun j => defaultValue (tyJ6 j)) 0 (.int v)
def boxH (h : XH) (v : Int32) (e : Nat) : XH := if xx_small v then h else xx_up h e (2, 1, vF v)
def g_addI (σ : XS9) (r n : Nat) (v : Int32) : XS9 := u2 (u2 σ r n v) r 900 (nI (n + 1))
theorem addI_ne {σ : XS9} {r n q : Nat} {v : Int32} (h : q ≠ r) : g_addI σ r n v q = σ q := by unfold g_addI; rw [u2_ne h, u2_ne h]
theorem addI_n {σ : XS9} {r n : Nat} {v : Int32} : g_addI σ r n v r 900 = nI (n + 1) := u2_at
theorem addI_k {σ : XS9} {r n k : Nat} {v : Int32} (h : k ≠ n) (h2 : k ≠ 900) : g_addI σ r n v r k = σ r k := by unfold g_addI; rw [u2_oi h2, u2_oi h]
theorem addI_v {σ : XS9} {r n : Nat} {v : Int32} (h2 : n < 900) : g_addI σ r n v r n = v := by unfold g_addI; rw [u2_oi (by omega), u2_at]
theorem rowCtl {j : Nat} (hj : j < 10) (i : Nat) : isCtl (5030 + j) i = true := by
  unfold isCtl
  rw [show Nat.ble 5030 (5030 + j) = true from Nat.ble_eq_true_of_le (by omega), show Nat.ble (5030 + j) 5039 = true from Nat.ble_eq_true_of_le (by omega)]
  simp
theorem ct_val {l : Launch} {z : Int64} {σ : XS9} {h : XH} (hl : l.stackTraces = false) (hbs : xx_bs h) {v : Int32} {e : Nat} (hq : lyQ z (ctl σ) e (σ e) = none) (he : h e = none) (h9 : 1000 ≤ e) : XEx l m_J6_valueOf_2dffe 3 1 1 [.int v] (setM z σ h) (some (.ref (xx_box v e))) (setM z σ (boxH h v e)) := by
  have t := ct_valueOf (l := l) (h := setM z σ h) hl (v := v) (e := e) ((setM_no hq).trans he) h9 ((setM_out (by omega)).trans hbs.2.2.1)
  have e2 : setM z σ (boxH h v e) = if xx_small v then setM z σ h else xx_up (setM z σ h) e (2, 1, vF v) := by
    unfold boxH
    split
    · rfl
    · exact setM_up (.inr hq)
  rw [e2]
  exact t
theorem bs_box {h : XH} {v : Int32} {e : Nat} (hb : xx_bs h) (h1 : 1000 ≤ e) (h2 : e ≠ 19990) (h3 : e ≠ 19991) : xx_bs (boxH h v e) := by
  unfold boxH
  split
  · exact hb
  · exact bs_up hb h1 h2 h3
theorem ob_box {z : Int64} {σ : XS9} {h : XH} {v : Int32} {e : Nat} (hbs : xx_bs h) (hq : lyQ z (ctl σ) e (σ e) = none) : xx_obO (setM z σ (boxH h v e)) (xx_box v e) := by
  unfold boxH xx_box
  by_cases hs : xx_small v
  · rw [if_pos hs, if_pos hs]
    have := (small_nat hs).2
    exact ob_C cl_J6 ((setM_out (by omega)).trans (hbs.2.2.2.1 _ this)) ca_J6
  · rw [if_neg hs, if_neg hs]
    exact ob_C cl_J6 ((setM_no hq).trans (xx_up_eq _ _ _)) ca_J6
theorem box_same {h : XH} {v : Int32} {e q : Nat} (hne : q ≠ e) : boxH h v e q = h q := by
  unfold boxH
  split
  · rfl
  · exact xx_up_ne hne
theorem lyQ_P {z : Int64} {C C' : XS9} {r j n : Nat} {s : Nat → Int32} (h1 : ∀ q i, q ≠ 5030 + j → C q i = C' q i) (h2 : cn (C (5030 + j) 900) = n) (h3 : cn (C' (5030 + j) 900) = n + 1) (h4 : ∀ k, k ≠ n → k < 20 → C (5030 + j) k = C' (5030 + j) k) (hj : j < 6) (hn : n < 20) (hr : r ≠ 5030 + j ∧ r ≠ nmP j n) : lyQ z C r s = lyQ z C' r s := by
  have e1 : ∀ i, C 5001 i = C' 5001 i := fun i => h1 _ _ (by omega)
  have e2 : ∀ i, C 5002 i = C' 5002 i := fun i => h1 _ _ (by omega)
  have e3 : ∀ i, C 5003 i = C' 5003 i := fun i => h1 _ _ (by omega)
  have e4 : ∀ i, C 5004 i = C' 5004 i := fun i => h1 _ _ (by omega)
  have e7 : ∀ i, C 7000 i = C' 7000 i := fun i => h1 _ _ (by omega)
  have e8 : ∀ i, C 8000 i = C' 8000 i := fun i => h1 _ _ (by omega)
  have e9 : ∀ i, C 9000 i = C' 9000 i := fun i => h1 _ _ (by omega)
  have er : ∀ i, C r i = C' r i := fun i => h1 _ _ hr.1
  have hnm : r ≠ 10000 + 20 * j + n := hr.2
  unfold lyQ lyB nmS
  by_cases u4 : r < 10000
  · simp only [e1, e2, e3, e4, e7, e8, e9, er, if_pos u4]
  by_cases u5 : r < 10200
  · simp only [if_neg (show ¬ r < 5010 by omega), if_neg (show ¬ r < 5020 by omega), if_neg (show ¬ r < 5030 by omega), if_neg (show ¬ r < 5040 by omega), if_neg (show ¬ r < 5200 by omega), if_neg (show ¬ r < 5300 by omega), if_neg (show ¬ r < 6000 by omega), if_neg (show ¬ r < 6100 by omega), if_neg (show ¬ r < 6200 by omega), if_neg (show ¬ r < 6300 by omega), if_neg (show ¬ r < 6400 by omega), if_neg (show ¬ r < 7000 by omega), if_neg (show ¬ r < 8000 by omega), if_neg (show ¬ r < 9000 by omega), if_neg (show ¬ r < 9010 by omega), if_neg u4, if_pos u5, e2]
    by_cases w : (r - 10000) / 20 = j
    · rw [w, h2, h3]
      by_cases v : (r - 10000) % 20 < n
      · rw [h4 _ (by omega) (by omega)]
        simp only [v, show (r - 10000) % 20 < n + 1 by omega]
      · rw [if_neg (by omega), if_neg (by omega)]
    · have ep : ∀ i, C (5030 + (r - 10000) / 20) i = C' (5030 + (r - 10000) / 20) i := fun i => h1 _ _ (by omega)
      simp only [ep]
  simp only [e1, e2, e3, e4, e7, e8, e9, er, if_neg u4, if_neg u5, if_neg (show ¬ r < 9010 by omega), if_neg (show ¬ r < 5200 by omega), if_neg (show ¬ r < 5300 by omega), if_neg (show ¬ r < 6000 by omega), if_neg (show ¬ r < 6100 by omega), if_neg (show ¬ r < 6200 by omega), if_neg (show ¬ r < 6300 by omega), if_neg (show ¬ r < 6400 by omega), if_neg (show ¬ r < 7000 by omega), if_neg (show ¬ r < 8000 by omega), if_neg (show ¬ r < 9000 by omega)]
theorem noq_pint {z : Int64} {σ : XS9} {B j n : Nat} (hB : σ 5002 900 = nI B) (hB6 : B ≤ 6) (hj : j < B) (hp : σ (5030 + j) 900 = nI n) (hn : n < 20) (s : Nat → Int32) : lyQ z (ctl σ) (nmP j n) s = none := by
  have e2 := ct1 (i := 900) rfl hB (by omega)
  have e4 := ct1 (rowCtl (by omega) 900) hp (by omega)
  have q1 : (nmP j n - 10000) / 20 = j := by unfold nmP; omega
  have q2 : (nmP j n - 10000) % 20 = n := by unfold nmP; omega
  have q3 : 10000 ≤ nmP j n ∧ nmP j n < 10200 := by unfold nmP; omega
  unfold lyQ
  rw [if_neg (by omega), if_neg (by omega), if_neg (by omega), if_neg (by omega), if_neg (by omega), if_neg (by omega), if_neg (by omega), if_neg (by omega), if_neg (by omega), if_neg (by omega), if_neg (by omega), if_neg (by omega), if_neg (by omega), if_neg (by omega), if_neg (by omega), if_neg (by omega), if_pos (by omega), q1, q2, e2, e4, if_neg (by omega)]
theorem add_int {z : Int64} {σ : XS9} {h : XH} {B j n : Nat} {v : Int32} (hB : σ 5002 900 = nI B) (hB6 : B ≤ 6) (hj : j < B) (hp : σ (5030 + j) 900 = nI n) (hn : n < 20) : (xx_small v → xx_up (setM z σ h) (5030 + j) (206, n + 1, fun k => .ref (xx_box (g_addI σ (5030 + j) n v (5030 + j) k) (nmP j k))) = setM z (g_addI σ (5030 + j) n v) h) ∧ (¬ xx_small v → xx_up (xx_up (setM z σ h) (nmP j n) (2, 1, fun _ => .int v)) (5030 + j) (206, n + 1, fun k => .ref (xx_box (g_addI σ (5030 + j) n v (5030 + j) k) (nmP j k))) = setM z (g_addI σ (5030 + j) n v) h) := by
  have hct := rowCtl (j := j) (by omega)
  have hB' : g_addI σ (5030 + j) n v 5002 900 = nI B := by rw [addI_ne (by omega)]; exact hB
  have hp' : g_addI σ (5030 + j) n v (5030 + j) 900 = nI (n + 1) := addI_n
  have c1 : ∀ q i, q ≠ 5030 + j → ctl σ q i = ctl (g_addI σ (5030 + j) n v) q i := fun q i hq => by unfold ctl; rw [addI_ne hq]
  have hsame : ∀ q, q ≠ 5030 + j → q ≠ nmP j n → setM z σ h q = setM z (g_addI σ (5030 + j) n v) h q := fun q a1 a2 => by
    unfold setM
    rw [addI_ne a1, lyQ_P (n := n) (j := j) c1 (ct1 (hct 900) hp (by omega)) (ct1 (hct 900) hp' (by omega)) (fun k h1 h2 => by rw [ctl_at (hct k), ctl_at (hct k), addI_k h1 (by omega)]) (by omega) hn ⟨a1, a2⟩]
  have hn1 : nmP j n ≠ 5030 + j := by unfold nmP; omega
  refine ⟨fun hs => ?_, fun hs => ?_⟩ <;> funext q
  · unfold xx_up
    by_cases a1 : q = 5030 + j
    · rw [if_pos a1, a1, lm_pks hB' hB6 hj hp' (by omega)]
    rw [if_neg a1]
    by_cases a2 : q = nmP j n
    · rw [a2, setM_no (noq_pint hB hB6 hj hp hn _)]
      refine (setM_no ?_).symm
      have e2 := ct1 (i := 900) rfl hB' (by omega)
      have q1 : (nmP j n - 10000) / 20 = j := by unfold nmP; omega
      have q2 : (nmP j n - 10000) % 20 = n := by unfold nmP; omega
      have q3 : 10000 ≤ nmP j n ∧ nmP j n < 10200 := by unfold nmP; omega
      unfold lyQ
      rw [if_neg (by omega), if_neg (by omega), if_neg (by omega), if_neg (by omega), if_neg (by omega), if_neg (by omega), if_neg (by omega), if_neg (by omega), if_neg (by omega), if_neg (by omega), if_neg (by omega), if_neg (by omega), if_neg (by omega), if_neg (by omega), if_neg (by omega), if_neg (by omega), if_pos (by omega), q1, q2, ctl_at (hct n), addI_v (by omega), if_neg (fun h9 => h9.2.2 hs)]
    · exact hsame q a1 a2
  · unfold xx_up
    by_cases a1 : q = 5030 + j
    · rw [if_pos a1, a1, lm_pks hB' hB6 hj hp' (by omega)]
    rw [if_neg a1]
    by_cases a2 : q = nmP j n
    · rw [if_pos a2, a2, lm_pint hB' hB6 hj hp' (by omega) (k := n) (by omega) (by rw [addI_v (by omega)]; exact hs), addI_v (by omega)]
    · rw [if_neg a2]
      exact hsame q a1 a2
theorem sw_boxP {Y : XY} {k9 n9 pc : Nat} {ls st : List Value} {z : Int64} {σ : XS9} {h : XH} {B j n : Nat} {v : Int32} (hB : σ 5002 900 = nI B) (hB6 : B ≤ 6) (hj : j < B) (hp : σ (5030 + j) 900 = nI n) (hn : n < 20) (kk : SW Y k9 n9 (setM z (g_addI σ (5030 + j) n v) h) pc ls st) : SW Y k9 n9 (xx_up (setM z σ (boxH h v (nmP j n))) (5030 + j) (206, n + 1, fun k => if k = n then .ref (xx_box v (nmP j n)) else .ref (xx_box (σ (5030 + j) k) (nmP j k)))) pc ls st := by
  have hn1 : nmP j n ≠ 5030 + j := by unfold nmP; omega
  have T := add_int (z := z) (h := h) (v := v) hB hB6 hj hp hn
  refine sw_alter (r := 5030 + j) (F2 := fun k => .ref (xx_box (g_addI σ (5030 + j) n v (5030 + j) k) (nmP j k))) (xx_up_eq _ _ _) (fun k hk => ?_) ?_
  · by_cases e : k = n
    · subst e
      rw [if_pos rfl, addI_v (by omega)]
    · rw [if_neg e, addI_k e (by omega)]
  · rw [xx_up_up]
    by_cases hs : xx_small v
    · have e : boxH h v (nmP j n) = h := if_pos hs
      rw [e, T.1 hs]
      exact kk
    · have e : boxH h v (nmP j n) = xx_up h (nmP j n) (2, 1, vF v) := if_neg hs
      rw [e, setM_up (.inr (noq_pint hB hB6 hj hp hn _))]
      refine sw_alter (r := nmP j n) (F2 := fun _ => .int v) ((xx_up_ne hn1).trans (xx_up_eq _ _ _)) (fun k hk => by match k, hk with | 0, _ => rfl) ?_
      rw [← xx_up_sw hn1, xx_up_up, T.2 hs]
      exact kk
theorem fr_addI {σ : XS9} {r n q : Nat} {v : Int32} (h : q ≠ r) : g_addI σ r n v q = σ q := addI_ne h
theorem addI_n2 {σ : XS9} {r p : Nat} {v : Int32} : g_addI σ r (2 * p + 1) v r 900 = nI (2 * (p + 1)) := addI_n.trans (congrArg nI (by omega))
def g_Madd (σ : XS9) (j p : Nat) (c a : Int32) : XS9 := g_addI (g_addI σ (5030 + j) (2 * p) c) (5030 + j) (2 * p + 1) a
theorem ct_X14_addPackage {l : Launch} {h : XH} (hl : l.stackTraces = false) {z : Int64} {σ : XS9} (hbs : xx_bs h) (hfr : ∀ r, 5000 ≤ r → r < 20010 → h r = none) {B : Nat} (hB : σ 5002 900 = nI B) (hB6 : B ≤ 6) {j : Nat} (hj : j < B) {p : Nat} (hp : σ (5030 + j) 900 = nI (2 * p)) (hp6 : p ≤ 5) {c a : Int32} : XEx l m_X14_addPackage 8 4 58 [.ref (5020 + j), .int c, .int a] (setM z σ h) none (setM z (g_Madd σ j p c a) h) := by
  refine XMet.of hl rfl rfl (Nat.le_of_ble_eq_true rfl) (fun Y O hh hQ => ?_)
  show SW Y 4 58 (setM z σ h) 0 [.ref (5020 + j), .int c, .int a] []
  refine sw_aload_n O (xx_dt dd_X14_addPackage 0 rfl) rfl ?_
  refine sw_get (v := .ref (5030 + j)) O (xx_dt dd_X14_addPackage 1 rfl) cl_X9 fl_X14_203 (lm_bid (σ := σ) (B := B) hB (by omega) (j := j) (by omega)) (by decide) rfl ?_
  refine sw_iload_n O (xx_dt dd_X14_addPackage 2 rfl) rfl ?_
  refine sw_callSx (k := 3) (n := 57) (k' := 1) (n' := 1) (as := [.int c]) (st := [.ref (5030 + j)]) (st2 := [.ref (xx_box c (nmP j (2 * p))), .ref (5030 + j)]) O (ct_val hl (z := z) (σ := σ) hbs (v := c) (e := nmP j (2 * p)) (noq_pint (B := B) hB (by omega) (j := j) (by omega) hp (by omega) _) (hfr (nmP j (2 * p)) (by unfold nmP; omega) (by unfold nmP; omega)) (by unfold nmP; omega)) ce_J6_valueOf_2dffe ml_X14_206 st_J6_valueOf_2dffe (xx_dt dd_X14_addPackage 3 rfl) (by decide) rfl rfl (Nat.le_of_ble_eq_true rfl) rfl ?_
  have hbs0 := hbs
  have hbs := bs_box (v := c) (e := nmP j (2 * p)) hbs (by unfold nmP; omega) (by unfold nmP; omega) (by unfold nmP; omega)
  refine xx_wid (k' := 2 + 1) (n' := 29 + ((2 * p) + (2 * p) / 2 + 10)) (by omega) (by omega) (sw_callVL (k := 2) (n := 29) (k' := 1) (n' := (2 * p) + (2 * p) / 2 + 10) (ci := 6) (as := [.ref (xx_box c (nmP j (2 * p)))]) (st := []) (st2 := [.int 1]) O (ct_add hl (lm_pks (σ := σ) (B := B) hB (by omega) (j := j) (by omega) (p := 2 * p) hp (by omega)) (by omega) (hbs.1.imp fun f0 e => (setM_out (by omega)).trans e) (hbs.2.1.imp fun f0 e => (setM_out (by omega)).trans e) (setM_no2 hbs).1 (setM_no2 hbs).2 (ob_box hbs0 (noq_pint (B := B) hB (by omega) (j := j) (by omega) hp (by omega) _)) (by omega) (fun k9 hk9 => .inr ⟨_, rfl, ob_C cl_J6 (lm_pbox (σ := σ) hbs (B := B) hB (by omega) (j := j) (by omega) (p := 2 * p) hp (by omega) (k := k9) hk9) ca_J6⟩)) ce_Jx4a65c_add_9ea2d ml_X14_87 iv_Jx4a65c_add_9ea2d cl_Jx4a65c rfl (lm_pks (σ := σ) (B := B) hB (by omega) (j := j) (by omega) (p := 2 * p) hp (by omega)) (xx_dt dd_X14_addPackage 4 rfl) (by decide) rfl rfl (Nat.le_of_ble_eq_true rfl) rfl ?_)
  refine sw_boxP (σ := σ) (B := B) hB (by omega) (j := j) (by omega) (n := 2 * p) hp (by omega) ?_
  have hbs := hbs0
  refine sw_pop O (xx_dt dd_X14_addPackage 5 rfl) rfl ?_
  refine sw_aload_n O (xx_dt dd_X14_addPackage 6 rfl) rfl ?_
  refine sw_get (v := .ref (5030 + j)) O (xx_dt dd_X14_addPackage 7 rfl) cl_X9 fl_X14_203 (lm_bid (σ := g_addI σ (5030 + j) (2 * p) c) (B := B) ((congrFun (fr_addI (by omega)) 900).trans hB) (by omega) (j := j) (by omega)) (by decide) rfl ?_
  refine sw_iload_n O (xx_dt dd_X14_addPackage 8 rfl) rfl ?_
  refine sw_callSx (k := 1) (n := 28) (k' := 1) (n' := 1) (as := [.int a]) (st := [.ref (5030 + j)]) (st2 := [.ref (xx_box a (nmP j (2 * p + 1))), .ref (5030 + j)]) O (ct_val hl (z := z) (σ := g_addI σ (5030 + j) (2 * p) c) hbs (v := a) (e := nmP j (2 * p + 1)) (noq_pint (B := B) ((congrFun (fr_addI (by omega)) 900).trans hB) (by omega) (j := j) (by omega) addI_n (by omega) _) (hfr (nmP j (2 * p + 1)) (by unfold nmP; omega) (by unfold nmP; omega)) (by unfold nmP; omega)) ce_J6_valueOf_2dffe ml_X14_206 st_J6_valueOf_2dffe (xx_dt dd_X14_addPackage 9 rfl) (by decide) rfl rfl (Nat.le_of_ble_eq_true rfl) rfl ?_
  have hbs0 := hbs
  have hbs := bs_box (v := a) (e := nmP j (2 * p + 1)) hbs (by unfold nmP; omega) (by unfold nmP; omega) (by unfold nmP; omega)
  refine xx_wid (k' := 0 + 1) (n' := 0 + ((2 * p + 1) + (2 * p + 1) / 2 + 10)) (by omega) (by omega) (sw_callVL (k := 0) (n := 0) (k' := 1) (n' := (2 * p + 1) + (2 * p + 1) / 2 + 10) (ci := 6) (as := [.ref (xx_box a (nmP j (2 * p + 1)))]) (st := []) (st2 := [.int 1]) O (ct_add hl (lm_pks (σ := g_addI σ (5030 + j) (2 * p) c) (B := B) ((congrFun (fr_addI (by omega)) 900).trans hB) (by omega) (j := j) (by omega) (p := 2 * p + 1) addI_n (by omega)) (by omega) (hbs.1.imp fun f0 e => (setM_out (by omega)).trans e) (hbs.2.1.imp fun f0 e => (setM_out (by omega)).trans e) (setM_no2 hbs).1 (setM_no2 hbs).2 (ob_box hbs0 (noq_pint (B := B) ((congrFun (fr_addI (by omega)) 900).trans hB) (by omega) (j := j) (by omega) addI_n (by omega) _)) (by omega) (fun k9 hk9 => .inr ⟨_, rfl, ob_C cl_J6 (lm_pbox (σ := g_addI σ (5030 + j) (2 * p) c) hbs (B := B) ((congrFun (fr_addI (by omega)) 900).trans hB) (by omega) (j := j) (by omega) (p := 2 * p + 1) addI_n (by omega) (k := k9) hk9) ca_J6⟩)) ce_Jx4a65c_add_9ea2d ml_X14_87 iv_Jx4a65c_add_9ea2d cl_Jx4a65c rfl (lm_pks (σ := g_addI σ (5030 + j) (2 * p) c) (B := B) ((congrFun (fr_addI (by omega)) 900).trans hB) (by omega) (j := j) (by omega) (p := 2 * p + 1) addI_n (by omega)) (xx_dt dd_X14_addPackage 10 rfl) (by decide) rfl rfl (Nat.le_of_ble_eq_true rfl) rfl ?_)
  refine sw_boxP (σ := g_addI σ (5030 + j) (2 * p) c) (B := B) ((congrFun (fr_addI (by omega)) 900).trans hB) (by omega) (j := j) (by omega) (n := 2 * p + 1) addI_n (by omega) ?_
  have hbs := hbs0
  refine sw_pop O (xx_dt dd_X14_addPackage 11 rfl) rfl ?_
  exact sw_ret O (xx_dt dd_X14_addPackage 12 rfl) rfl (by rw [hQ]; exact ⟨rfl, rfl⟩)
end
