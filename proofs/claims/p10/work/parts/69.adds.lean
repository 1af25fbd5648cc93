/-! ===== the reference: regions and bidders are added ===== -/
theorem lyQ_R {z : Int64} {C C' : XS9} {r R : Nat} {s : Nat → Int32} (h1 : ∀ q i, q ≠ 5001 → C q i = C' q i) (h2 : cn (C 5001 900) = R) (h3 : cn (C' 5001 900) = R + 1) (h7 : C 7000 20 = 0) (h8 : C 8000 20 = 0) (h5 : cn (C 5003 900) = 0) (hr : r ≠ 5001 ∧ r ≠ 5010 + R) : lyQ z C r s = lyQ z C' r s := by
  have e2 : ∀ i, C 5002 i = C' 5002 i := fun i => h1 _ _ (by omega)
  have e3 : ∀ i, C 5003 i = C' 5003 i := fun i => h1 _ _ (by omega)
  have e4 : ∀ i, C 5004 i = C' 5004 i := fun i => h1 _ _ (by omega)
  have e7 : ∀ i, C 7000 i = C' 7000 i := fun i => h1 _ _ (by omega)
  have e8 : ∀ i, C 8000 i = C' 8000 i := fun i => h1 _ _ (by omega)
  have e9 : ∀ i, C 9000 i = C' 9000 i := fun i => h1 _ _ (by omega)
  have er : ∀ i, C r i = C' r i := fun i => h1 _ _ hr.1
  have ep : ∀ i, C (5030 + (r - 10000) / 20) i = C' (5030 + (r - 10000) / 20) i := fun i => h1 _ _ (by omega)
  have h5' : cn (C' 5003 900) = 0 := by rw [← e3]; exact h5
  have h7' : C' 7000 20 = 0 := by rw [← e7]; exact h7
  have h8' : C' 8000 20 = 0 := by rw [← e8]; exact h8
  unfold lyQ nmS
  by_cases u0 : r < 5010
  · rw [if_pos u0, if_pos u0]
    split <;> first | rfl | (exfalso; omega) | simp only [e2, e3, e4, e7]
  rw [if_neg u0, if_neg u0]
  by_cases u1 : r < 5020
  · rw [if_pos u1, if_pos u1, h2, h3]
    by_cases v : r - 5010 < R
    · rw [if_pos v, if_pos (by omega)]
    · rw [if_neg v, if_neg (by omega)]
  rw [if_neg u1, if_neg u1]
  simp only [e2, e3, e4, e7, e8, e9, er, ep, h5', h7', h8', if_true, Nat.not_lt_zero, if_false]
theorem add_reg {z : Int64} {σ : XS9} {h : XH} {R : Nat} {row : Nat → Int32} (hR : σ 5001 900 = nI R) (hR5 : R < 5) (hf7 : σ 7000 20 = 0) (hf8 : σ 8000 20 = 0) (hK : σ 5003 900 = 0) : xx_up (xx_up (setM z σ h) (5010 + R) (18, 4, fun k => .int (row k))) 5001 (206, R + 1, fun k => .ref (5010 + k)) = setM z (u2 (uR σ (5010 + R) row) 5001 900 (nI (R + 1))) h := by
  have n0 : ∀ i, isCtl (5010 + R) i = false := notCtl (by omega)
  have c1 : ∀ q i, q ≠ 5001 → ctl σ q i = ctl (u2 (uR σ (5010 + R) row) 5001 900 (nI (R + 1))) q i := fun q i hq => by
    unfold ctl
    rw [u2_ne hq]
    by_cases e : q = 5010 + R
    · rw [e, n0]; rfl
    · rw [uR_ne e]
  have hR' : (u2 (uR σ (5010 + R) row) 5001 900 (nI (R + 1))) 5001 900 = nI (R + 1) := u2_at
  funext q
  unfold xx_up
  by_cases a1 : q = 5001
  · rw [if_pos a1, a1, lm_5001 hR' (by omega)]
  rw [if_neg a1]
  by_cases a2 : q = 5010 + R
  · rw [if_pos a2, a2, lm_reg hR' (by omega) (by omega), u2_ne (by omega), uR_eq]
  rw [if_neg a2]
  unfold setM
  rw [u2_ne a1, uR_ne a2, lyQ_R (R := R) c1 (ct1 rfl hR (by omega)) (ct1 rfl hR' (by omega)) hf7 hf8 (by rw [show ctl σ 5003 900 = σ 5003 900 from rfl, hK]; rfl) ⟨a1, a2⟩]
theorem no_reg {z : Int64} {σ : XS9} {h : XH} {R : Nat} (hR : σ 5001 900 = nI R) (hR5 : R < 5) : setM z σ h (5010 + R) = h (5010 + R) := by
  refine setM_no ?_
  have e := ct1 (i := 900) rfl hR (by omega)
  unfold lyQ
  rw [if_neg (by omega), if_pos (by omega), e, if_neg (by omega)]
theorem ct_add {l : Launch} {H : XH} (hl : l.stackTraces = false) {r n : Nat} {f : Nat → Value} (hc : H r = some (206, n, f)) (h1 : 1000 ≤ r) (h0 : ∃ f0, H 0 = some (104, 0, f0)) (h3 : ∃ c3, H 3 = some c3) (he : H 19990 = none) (he2 : H 19991 = none) {x : Nat} (hx : xx_obO H x) (hn : n < 1000) (hel : ∀ j, j < n → f j = .null ∨ ∃ x, f j = .ref x ∧ xx_obO H x) : XEx l m_Jx4a65c_add_9ea2d 6 1 (n + n / 2 + 10) [.ref r, .ref x] H (some (.int 1)) (xx_up H r (206, n + 1, (fun j => if j = n then .ref x else f j))) := by
  obtain ⟨f0, h0⟩ := h0
  obtain ⟨c3, h3⟩ := h3
  exact ct_AL_add hl hc he (by omega) h1 h0 he2 (by omega) (by omega) h3 hx (by omega) hel
theorem ob_C {h : XH} {x ci N : Nat} {f : Nat → Value} {C : String} {T : u_T} {ty : Nat → FieldType} (K : xx_cl ci C T N ty) (hx : h x = some (ci, N, f)) (hk : Cond.castable C "java/lang/Object" ∈ xx_nws) : xx_obO h x := .inl ⟨ci, N, f, C, T, ty, K, hx, hk⟩
theorem ct_X12_init {l : Launch} {h : XH} (hl : l.stackTraces = false) {r : Nat}  : XEx l m_X12_init 1 0 0 [.ref r] (h) (none) (h) := by
  refine XMet.of hl rfl rfl (Nat.le_of_ble_eq_true rfl) (fun Y O hh hQ => ?_)
  show SW Y 0 0 (h) 0 [.ref r] []
  refine sw_aload_n O (xx_dt dd_X12_init 0 rfl) rfl ?_
  refine sw_objInit O oi_X12_1 (xx_dt dd_X12_init 1 rfl) (by omega) (Nat.le_of_ble_eq_true rfl) ?_
  exact sw_ret O (xx_dt dd_X12_init 2 rfl) rfl (by rw [hQ]; exact ⟨rfl, rfl⟩)
theorem ct_X13_init {l : Launch} {h : XH} (hl : l.stackTraces = false) {r : Nat}  : XEx l m_X13_init 1 0 0 [.ref r] (h) (none) (h) := by
  refine XMet.of hl rfl rfl (Nat.le_of_ble_eq_true rfl) (fun Y O hh hQ => ?_)
  show SW Y 0 0 (h) 0 [.ref r] []
  refine sw_aload_n O (xx_dt dd_X13_init 0 rfl) rfl ?_
  refine sw_objInit O oi_X13_1 (xx_dt dd_X13_init 1 rfl) (by omega) (Nat.le_of_ble_eq_true rfl) ?_
  exact sw_ret O (xx_dt dd_X13_init 2 rfl) rfl (by rw [hQ]; exact ⟨rfl, rfl⟩)
theorem noq_reg {z : Int64} {σ : XS9} {R : Nat} (hR : σ 5001 900 = nI R) (hR5 : R < 5) : lyQ z (ctl σ) (5010 + R) (σ (5010 + R)) = none := by
  have e := ct1 (i := 900) rfl hR (by omega)
  unfold lyQ
  rw [if_neg (by omega), if_pos (by omega), e, if_neg (by omega)]
def f_Mregion (σ : XS9) (x y v : Int32) (R : Nat) : Int32 := (if n_bt x 1 5 then (if n_bt y 1 9 then (if n_bt v 1 999 then (if (σ 5000 1) = 0 then (if (nI R) = 5 then 0 else nI R) else 0) else 0) else 0) else 0)
def g_Mregion (σ : XS9) (x y v : Int32) (R : Nat) : XS9 := (if n_bt x 1 5 then (if n_bt y 1 9 then (if n_bt v 1 999 then (if (σ 5000 1) = 0 then (if (nI R) = 5 then u2 (u2 σ 5000 0 0) 5000 0 2 else u2 (uR (u2 σ 5000 0 0) (5010 + R) (fun k => match k with | 0 => x | 1 => y | 2 => v | _ => 0)) 5001 900 (nI (R + 1))) else u2 (u2 σ 5000 0 0) 5000 0 2) else u2 (u2 σ 5000 0 0) 5000 0 1) else u2 (u2 σ 5000 0 0) 5000 0 1) else u2 (u2 σ 5000 0 0) 5000 0 1)
theorem ct_X14_region {l : Launch} {h : XH} (hl : l.stackTraces = false) {z : Int64} {σ : XS9} (hbs : xx_bs h) {R : Nat} (hR : σ 5001 900 = nI R) (hR5 : R ≤ 5) (hp0 : σ 5000 1 = 0 → σ 7000 20 = 0 ∧ σ 8000 20 = 0 ∧ σ 5003 900 = 0) (hfr : ∀ r, 5000 ≤ r → r < 20010 → h r = none) {x y v : Int32} : XEx l m_X14_region 10 2 22 [.ref 5000, .int x, .int y, .int v] (setM z σ h) (some (.int (f_Mregion σ x y v R))) (setM z (g_Mregion σ x y v R) h) := by
  refine XMet.of hl rfl rfl (Nat.le_of_ble_eq_true rfl) (fun Y O hh hQ => ?_)
  show SW Y 2 22 (setM z σ h) 0 [.ref 5000, .int x, .int y, .int v, xx_d] []
  refine sw_aload_n O (xx_dt dd_X14_region 0 rfl) rfl ?_
  refine sw_iconst (x := 0) O (xx_dt dd_X14_region 1 rfl) (by decide) ?_
  refine sw_put (h2 := setM z (u2 σ 5000 0 0) h) O (xx_dt dd_X14_region 2 rfl) cl_X14 fl_X14_46 (lm_mod (σ := σ)) (by decide) (by omega) rfl (fun _ => ⟨rfl, rfl⟩) (pm_mod (σ := σ) (by omega)) ?_
  refine sw_iload_n O (xx_dt dd_X14_region 3 rfl) rfl ?_
  refine sw_iconst (x := 1) O (xx_dt dd_X14_region 4 rfl) (by decide) ?_
  refine sw_iconst (x := 5) O (xx_dt dd_X14_region 5 rfl) (by decide) ?_
  refine sw_callSx (as := [.int x, .int 1, .int 5]) (st := []) (st2 := [.int (bZ (n_bt x 1 5))]) O (ct_X14_is hl) ce_X14_is ml_X14_70 st_X14_is (xx_dt dd_X14_region 6 rfl) (by decide) rfl rfl (Nat.le_of_ble_eq_true rfl) rfl ?_
  refine sw_if_eqB (tgt := 35) O (xx_dt dd_X14_region 7 rfl) (by decide) (fun q1 => ?_) (fun q1 => ?_)
  · refine sw_aload_n O (xx_dt dd_X14_region 18 rfl) rfl ?_
    refine sw_iconst (x := 1) O (xx_dt dd_X14_region 19 rfl) (by decide) ?_
    refine sw_callVx (as := [.int 1]) (st := []) (st2 := [.int 0]) O (ct_X14_refuse hl (z := z) (σ := u2 σ 5000 0 0) hbs (x := 1)) ce_X14_refuse ml_X14_74 iv_X14_refuse cl_X14 rfl (lm_mod (σ := u2 σ 5000 0 0)) (xx_dt dd_X14_region 20 rfl) (by decide) rfl rfl (Nat.le_of_ble_eq_true rfl) rfl ?_
    exact sw_iret O (xx_dt dd_X14_region 21 rfl) rfl rfl (by rw [hQ]; exact ⟨by unfold f_Mregion; simp only [if_neg q1], by unfold g_Mregion; simp only [if_neg q1]⟩)
  · refine sw_iload_n O (xx_dt dd_X14_region 8 rfl) rfl ?_
    refine sw_iconst (x := 1) O (xx_dt dd_X14_region 9 rfl) (by decide) ?_
    refine sw_bipush (x := 9) O (xx_dt dd_X14_region 10 rfl) (by decide) ?_
    refine sw_callSx (as := [.int y, .int 1, .int 9]) (st := []) (st2 := [.int (bZ (n_bt y 1 9))]) O (ct_X14_is hl) ce_X14_is ml_X14_70 st_X14_is (xx_dt dd_X14_region 11 rfl) (by decide) rfl rfl (Nat.le_of_ble_eq_true rfl) rfl ?_
    refine sw_if_eqB (tgt := 35) O (xx_dt dd_X14_region 12 rfl) (by decide) (fun q2 => ?_) (fun q2 => ?_)
    · refine sw_aload_n O (xx_dt dd_X14_region 18 rfl) rfl ?_
      refine sw_iconst (x := 1) O (xx_dt dd_X14_region 19 rfl) (by decide) ?_
      refine sw_callVx (as := [.int 1]) (st := []) (st2 := [.int 0]) O (ct_X14_refuse hl (z := z) (σ := u2 σ 5000 0 0) hbs (x := 1)) ce_X14_refuse ml_X14_74 iv_X14_refuse cl_X14 rfl (lm_mod (σ := u2 σ 5000 0 0)) (xx_dt dd_X14_region 20 rfl) (by decide) rfl rfl (Nat.le_of_ble_eq_true rfl) rfl ?_
      exact sw_iret O (xx_dt dd_X14_region 21 rfl) rfl rfl (by rw [hQ]; exact ⟨by unfold f_Mregion; simp only [if_pos q1, if_neg q2], by unfold g_Mregion; simp only [if_pos q1, if_neg q2]⟩)
    · refine sw_iload_n O (xx_dt dd_X14_region 13 rfl) rfl ?_
      refine sw_iconst (x := 1) O (xx_dt dd_X14_region 14 rfl) (by decide) ?_
      refine sw_sipush (x := 999) O (xx_dt dd_X14_region 15 rfl) (by decide) ?_
      refine sw_callSx (as := [.int v, .int 1, .int 999]) (st := []) (st2 := [.int (bZ (n_bt v 1 999))]) O (ct_X14_is hl) ce_X14_is ml_X14_70 st_X14_is (xx_dt dd_X14_region 16 rfl) (by decide) rfl rfl (Nat.le_of_ble_eq_true rfl) rfl ?_
      refine sw_if_neB (tgt := 41) O (xx_dt dd_X14_region 17 rfl) (by decide) (fun q3 => ?_) (fun q3 => ?_)
      · refine sw_aload_n O (xx_dt dd_X14_region 22 rfl) rfl ?_
        refine sw_get (v := .int (σ 5000 1)) O (xx_dt dd_X14_region 23 rfl) cl_X14 fl_X14_77 (lm_mod (σ := u2 σ 5000 0 0)) (by decide) rfl ?_
        refine sw_if_ne (tgt := 59) O (xx_dt dd_X14_region 24 rfl) (by decide) (fun q4 => ?_) (fun q4 => ?_)
        · refine sw_aload_n O (xx_dt dd_X14_region 30 rfl) rfl ?_
          refine sw_iconst (x := 2) O (xx_dt dd_X14_region 31 rfl) (by decide) ?_
          refine sw_callVx (as := [.int 2]) (st := []) (st2 := [.int 0]) O (ct_X14_refuse hl (z := z) (σ := u2 σ 5000 0 0) hbs (x := 2)) ce_X14_refuse ml_X14_74 iv_X14_refuse cl_X14 rfl (lm_mod (σ := u2 σ 5000 0 0)) (xx_dt dd_X14_region 32 rfl) (by decide) rfl rfl (Nat.le_of_ble_eq_true rfl) rfl ?_
          exact sw_iret O (xx_dt dd_X14_region 33 rfl) rfl rfl (by rw [hQ]; exact ⟨by unfold f_Mregion; simp only [if_pos q1, if_pos q2, if_pos q3, if_neg q4], by unfold g_Mregion; simp only [if_pos q1, if_pos q2, if_pos q3, if_neg q4]⟩)
        · refine sw_aload_n O (xx_dt dd_X14_region 25 rfl) rfl ?_
          refine sw_get (v := .ref 5001) O (xx_dt dd_X14_region 26 rfl) cl_X14 fl_X14_23 (lm_mod (σ := u2 σ 5000 0 0)) (by decide) rfl ?_
          refine sw_callVL (ci := 6) (as := []) (st := []) (st2 := [.int (nI R)]) O (ct_AL_size hl (lm_5001 (σ := u2 σ 5000 0 0) (R := R) hR (by omega))) ce_Jx4a65c_size_8abf5 ml_X14_57 iv_Jx4a65c_size_8abf5 cl_Jx4a65c rfl (lm_5001 (σ := u2 σ 5000 0 0) (R := R) hR (by omega)) (xx_dt dd_X14_region 27 rfl) (by decide) rfl rfl (Nat.le_of_ble_eq_true rfl) rfl ?_
          refine sw_iconst (x := 5) O (xx_dt dd_X14_region 28 rfl) (by decide) ?_
          refine sw_icmp_ne (tgt := 65) O (xx_dt dd_X14_region 29 rfl) (by decide) (fun q5 => ?_) (fun q5 => ?_)
          · have hp9 := hp0 (by assumption)
            have hR4 : R < 5 := by rcases Nat.lt_or_ge R 5 with h9 | h9; exact h9; exact absurd (show nI R = 5 from congrArg nI (Nat.le_antisymm hR5 h9)) (by assumption)
            refine sw_new (k := 1) (n := 18) (r := 5010 + R) O (xx_dt dd_X14_region 34 rfl) cl_X12 nw_X14_65 ((no_reg (z := z) (σ := u2 σ 5000 0 0) (R := R) hR hR4).trans (hfr (5010 + R) (by omega) (by omega))) (by omega) ?_
            rw [xx_blk_up, ← setM_up (.inr (noq_reg (σ := u2 σ 5000 0 0) (R := R) hR hR4))]
            have hbs0 := hbs
            have hbs := bs_up (r := 5010 + R) (c := (18, 4, fun j => defaultValue (tyX12 j))) hbs (by omega) (by omega) (by omega)
            refine sw_dup O (xx_dt dd_X14_region 35 rfl) rfl ?_
            refine sw_callIx (as := []) (st := [.ref (5010 + R)]) (st2 := [.ref (5010 + R)]) (k' := 0) (n' := 0) O (ct_X12_init hl) ce_X12_init ml_X14_80 ii_X12_init (xx_dt dd_X14_region 36 rfl) (by decide) rfl rfl (Nat.le_of_ble_eq_true rfl) rfl ?_
            refine sw_astore (ls2 := [.ref 5000, .int x, .int y, .int v, .ref (5010 + R)]) O (xx_dt dd_X14_region 37 rfl) (by decide) rfl ?_
            refine sw_aload O (xx_dt dd_X14_region 38 rfl) rfl ?_
            refine sw_iload_n O (xx_dt dd_X14_region 39 rfl) rfl ?_
            refine sw_put (h2 := setM z (u2 σ 5000 0 0) (xx_up h (5010 + R) (18, 4, updV (fun j => defaultValue (tyX12 j)) 0 (.int x)))) O (xx_dt dd_X14_region 40 rfl) cl_X12 fl_X14_81 ((setM_no (noq_reg (σ := u2 σ 5000 0 0) (R := R) hR hR4)).trans (xx_up_eq _ _ _)) (by decide) (by omega) rfl (fun _ => ⟨rfl, rfl⟩) (by rw [← setM_up (.inr (noq_reg (σ := u2 σ 5000 0 0) (R := R) hR hR4)), xx_up_up]) ?_
            have hbs := bs_up (r := 5010 + R) (c := (18, 4, updV (fun j => defaultValue (tyX12 j)) 0 (.int x))) hbs0 (by omega) (by omega) (by omega)
            refine sw_aload O (xx_dt dd_X14_region 41 rfl) rfl ?_
            refine sw_iload_n O (xx_dt dd_X14_region 42 rfl) rfl ?_
            refine sw_put (h2 := setM z (u2 σ 5000 0 0) (xx_up h (5010 + R) (18, 4, updV (updV (fun j => defaultValue (tyX12 j)) 0 (.int x)) 1 (.int y)))) O (xx_dt dd_X14_region 43 rfl) cl_X12 fl_X14_67 ((setM_no (noq_reg (σ := u2 σ 5000 0 0) (R := R) hR hR4)).trans (xx_up_eq _ _ _)) (by decide) (by omega) rfl (fun _ => ⟨rfl, rfl⟩) (by rw [← setM_up (.inr (noq_reg (σ := u2 σ 5000 0 0) (R := R) hR hR4)), xx_up_up]) ?_
            have hbs := bs_up (r := 5010 + R) (c := (18, 4, updV (updV (fun j => defaultValue (tyX12 j)) 0 (.int x)) 1 (.int y))) hbs0 (by omega) (by omega) (by omega)
            refine sw_aload O (xx_dt dd_X14_region 44 rfl) rfl ?_
            refine sw_iload_n O (xx_dt dd_X14_region 45 rfl) rfl ?_
            refine sw_put (h2 := setM z (u2 σ 5000 0 0) (xx_up h (5010 + R) (18, 4, updV (updV (updV (fun j => defaultValue (tyX12 j)) 0 (.int x)) 1 (.int y)) 2 (.int v)))) O (xx_dt dd_X14_region 46 rfl) cl_X12 fl_X14_84 ((setM_no (noq_reg (σ := u2 σ 5000 0 0) (R := R) hR hR4)).trans (xx_up_eq _ _ _)) (by decide) (by omega) rfl (fun _ => ⟨rfl, rfl⟩) (by rw [← setM_up (.inr (noq_reg (σ := u2 σ 5000 0 0) (R := R) hR hR4)), xx_up_up]) ?_
            have hbs := bs_up (r := 5010 + R) (c := (18, 4, updV (updV (updV (fun j => defaultValue (tyX12 j)) 0 (.int x)) 1 (.int y)) 2 (.int v))) hbs0 (by omega) (by omega) (by omega)
            refine sw_aload_n O (xx_dt dd_X14_region 47 rfl) rfl ?_
            refine sw_get (v := .ref 5001) O (xx_dt dd_X14_region 48 rfl) cl_X14 fl_X14_23 (lm_mod (σ := u2 σ 5000 0 0)) (by decide) rfl ?_
            refine sw_aload O (xx_dt dd_X14_region 49 rfl) rfl ?_
            refine xx_wid (k' := 0 + 1) (n' := 0 + ((R) + (R) / 2 + 10)) (by omega) (by omega) (sw_callVL (k := 0) (n := 0) (k' := 1) (n' := (R) + (R) / 2 + 10) (ci := 6) (as := [.ref (5010 + R)]) (st := []) (st2 := [.int 1]) O (ct_add hl (lm_5001 (σ := u2 σ 5000 0 0) (R := R) hR (by omega)) (by omega) (hbs.1.imp fun f0 e => (setM_out (by omega)).trans e) (hbs.2.1.imp fun f0 e => (setM_out (by omega)).trans e) (setM_no2 hbs).1 (setM_no2 hbs).2 (ob_C cl_X12 ((setM_no (noq_reg (σ := u2 σ 5000 0 0) (R := R) hR hR4)).trans (xx_up_eq _ _ _)) ca_X12) (by omega) (fun j9 hj9 => .inr ⟨5010 + j9, rfl, ob_C cl_X12 (lm_reg (σ := u2 σ 5000 0 0) hR (by omega) hj9) ca_X12⟩)) ce_Jx4a65c_add_9ea2d ml_X14_87 iv_Jx4a65c_add_9ea2d cl_Jx4a65c rfl (lm_5001 (σ := u2 σ 5000 0 0) (R := R) hR (by omega)) (xx_dt dd_X14_region 50 rfl) (by decide) rfl rfl (Nat.le_of_ble_eq_true rfl) rfl ?_)
            rw [setM_up (.inr (noq_reg (σ := u2 σ 5000 0 0) (R := R) hR hR4)), show (fun j9 => if j9 = R then Value.ref (5010 + R) else Value.ref (5010 + j9)) = (fun k => Value.ref (5010 + k)) from funext fun j9 => (by split <;> simp_all)]
            refine sw_alter (r := 5010 + R) (F2 := fun k => .int ((fun k => match k with | 0 => x | 1 => y | 2 => v | _ => 0) k)) ((xx_up_ne (by omega)).trans (xx_up_eq _ _ _)) (fun k9 hk9 => by match k9, hk9 with | 0, _ => rfl | 1, _ => rfl | 2, _ => rfl | 3, _ => rfl) ?_
            rw [← xx_up_sw (r := 5010 + R) (e := 5001) (by omega), xx_up_up, add_reg (σ := u2 σ 5000 0 0) hR hR4 hp9.1 hp9.2.1 hp9.2.2]
            have hbs := hbs0
            refine sw_pop O (xx_dt dd_X14_region 51 rfl) rfl ?_
            refine sw_aload_n O (xx_dt dd_X14_region 52 rfl) rfl ?_
            refine sw_get (v := .ref 5001) O (xx_dt dd_X14_region 53 rfl) cl_X14 fl_X14_23 (lm_mod (σ := u2 (uR (u2 σ 5000 0 0) (5010 + R) (fun k => match k with | 0 => x | 1 => y | 2 => v | _ => 0)) 5001 900 (nI (R + 1)))) (by decide) rfl ?_
            refine sw_callVL (ci := 6) (as := []) (st := []) (st2 := [.int (nI (R + 1))]) O (ct_AL_size hl (lm_5001 (σ := u2 (uR (u2 σ 5000 0 0) (5010 + R) (fun k => match k with | 0 => x | 1 => y | 2 => v | _ => 0)) 5001 900 (nI (R + 1))) (R := R + 1) rfl (by omega))) ce_Jx4a65c_size_8abf5 ml_X14_57 iv_Jx4a65c_size_8abf5 cl_Jx4a65c rfl (lm_5001 (σ := u2 (uR (u2 σ 5000 0 0) (5010 + R) (fun k => match k with | 0 => x | 1 => y | 2 => v | _ => 0)) 5001 900 (nI (R + 1))) (R := R + 1) rfl (by omega)) (xx_dt dd_X14_region 54 rfl) (by decide) rfl rfl (Nat.le_of_ble_eq_true rfl) rfl ?_
            refine sw_iconst (x := 1) O (xx_dt dd_X14_region 55 rfl) (by decide) ?_
            refine sw_isub O (xx_dt dd_X14_region 56 rfl) ?_
            rw [nI_s1 R]
            exact sw_iret O (xx_dt dd_X14_region 57 rfl) rfl rfl (by rw [hQ]; exact ⟨by unfold f_Mregion; simp only [if_pos q1, if_pos q2, if_pos q3, if_pos q4, if_neg q5], by unfold g_Mregion; simp only [if_pos q1, if_pos q2, if_pos q3, if_pos q4, if_neg q5]⟩)
          · refine sw_aload_n O (xx_dt dd_X14_region 30 rfl) rfl ?_
            refine sw_iconst (x := 2) O (xx_dt dd_X14_region 31 rfl) (by decide) ?_
            refine sw_callVx (as := [.int 2]) (st := []) (st2 := [.int 0]) O (ct_X14_refuse hl (z := z) (σ := u2 σ 5000 0 0) hbs (x := 2)) ce_X14_refuse ml_X14_74 iv_X14_refuse cl_X14 rfl (lm_mod (σ := u2 σ 5000 0 0)) (xx_dt dd_X14_region 32 rfl) (by decide) rfl rfl (Nat.le_of_ble_eq_true rfl) rfl ?_
            exact sw_iret O (xx_dt dd_X14_region 33 rfl) rfl rfl (by rw [hQ]; exact ⟨by unfold f_Mregion; simp only [if_pos q1, if_pos q2, if_pos q3, if_pos q4, if_pos q5], by unfold g_Mregion; simp only [if_pos q1, if_pos q2, if_pos q3, if_pos q4, if_pos q5]⟩)
      · refine sw_aload_n O (xx_dt dd_X14_region 18 rfl) rfl ?_
        refine sw_iconst (x := 1) O (xx_dt dd_X14_region 19 rfl) (by decide) ?_
        refine sw_callVx (as := [.int 1]) (st := []) (st2 := [.int 0]) O (ct_X14_refuse hl (z := z) (σ := u2 σ 5000 0 0) hbs (x := 1)) ce_X14_refuse ml_X14_74 iv_X14_refuse cl_X14 rfl (lm_mod (σ := u2 σ 5000 0 0)) (xx_dt dd_X14_region 20 rfl) (by decide) rfl rfl (Nat.le_of_ble_eq_true rfl) rfl ?_
        exact sw_iret O (xx_dt dd_X14_region 21 rfl) rfl rfl (by rw [hQ]; exact ⟨by unfold f_Mregion; simp only [if_pos q1, if_pos q2, if_neg q3], by unfold g_Mregion; simp only [if_pos q1, if_pos q2, if_neg q3]⟩)
