/-! ===== the reference: a bidder is added ===== -/
theorem lyQ_Bi {z : Int64} {C C' : XS9} {r B : Nat} {s : Nat → Int32} (h1 : ∀ q i, q ≠ 5002 → q ≠ 5030 + B → C q i = C' q i) (h2 : cn (C 5002 900) = B) (h3 : cn (C' 5002 900) = B + 1) (h4 : cn (C' (5030 + B) 900) = 0) (hB : B < 6) (hr : r ≠ 5002 ∧ r ≠ 5020 + B ∧ r ≠ 5030 + B) : lyQ z C r s = lyQ z C' r s := by
  have e1 : ∀ i, C 5001 i = C' 5001 i := fun i => h1 _ _ (by omega) (by omega)
  have e3 : ∀ i, C 5003 i = C' 5003 i := fun i => h1 _ _ (by omega) (by omega)
  have e4 : ∀ i, C 5004 i = C' 5004 i := fun i => h1 _ _ (by omega) (by omega)
  have e7 : ∀ i, C 7000 i = C' 7000 i := fun i => h1 _ _ (by omega) (by omega)
  have e8 : ∀ i, C 8000 i = C' 8000 i := fun i => h1 _ _ (by omega) (by omega)
  have e9 : ∀ i, C 9000 i = C' 9000 i := fun i => h1 _ _ (by omega) (by omega)
  have er : ∀ i, C r i = C' r i := fun i => h1 _ _ hr.1 hr.2.2
  unfold lyQ lyB nmS
  by_cases u0 : r < 5010
  · rw [if_pos u0, if_pos u0]
    split <;> first | rfl | (exfalso; omega) | simp only [e1, e3, e4, e7]
  rw [if_neg u0, if_neg u0]
  by_cases u1 : r < 5020
  · rw [if_pos u1, if_pos u1, e1]
  rw [if_neg u1, if_neg u1]
  by_cases u2 : r < 5030
  · rw [if_pos u2, if_pos u2, h2, h3]
    by_cases v : r - 5020 < B
    · rw [if_pos v, if_pos (by omega)]
    · rw [if_neg v, if_neg (by omega)]
  rw [if_neg u2, if_neg u2]
  by_cases u3 : r < 5040
  · rw [if_pos u3, if_pos u3, h2, h3]
    by_cases v : r - 5030 < B
    · rw [if_pos v, if_pos (by omega)]
      simp only [er]
    · rw [if_neg v, if_neg (by omega)]
  rw [if_neg u3, if_neg u3]
  by_cases u4 : r < 10000
  · simp only [e1, e3, e7, e8, e9, if_pos u4]
  by_cases u5 : r < 10200
  · simp only [if_neg (show ¬ r < 5200 by omega), if_neg (show ¬ r < 5300 by omega), if_neg (show ¬ r < 6000 by omega), if_neg (show ¬ r < 6100 by omega), if_neg (show ¬ r < 6200 by omega), if_neg (show ¬ r < 6300 by omega), if_neg (show ¬ r < 6400 by omega), if_neg (show ¬ r < 7000 by omega), if_neg (show ¬ r < 8000 by omega), if_neg (show ¬ r < 9000 by omega), if_neg (show ¬ r < 9010 by omega), if_neg u4, if_pos u5, h2, h3]
    by_cases v : (r - 10000) / 20 < B
    · have ep : ∀ i, C (5030 + (r - 10000) / 20) i = C' (5030 + (r - 10000) / 20) i := fun i => h1 _ _ (by omega) (by omega)
      simp only [ep, v, show (r - 10000) / 20 < B + 1 by omega]
    · rw [if_neg (by omega)]
      by_cases w : (r - 10000) / 20 = B
      · rw [w, h4, if_neg (by omega)]
      · rw [if_neg (by omega)]
  simp only [e1, e3, e4, e7, e8, e9, er, if_neg u4, if_neg u5, if_neg (show ¬ r < 9010 by omega), if_neg (show ¬ r < 5200 by omega), if_neg (show ¬ r < 5300 by omega), if_neg (show ¬ r < 6000 by omega), if_neg (show ¬ r < 6100 by omega), if_neg (show ¬ r < 6200 by omega), if_neg (show ¬ r < 6300 by omega), if_neg (show ¬ r < 6400 by omega), if_neg (show ¬ r < 7000 by omega), if_neg (show ¬ r < 8000 by omega), if_neg (show ¬ r < 9000 by omega)]
theorem add_bid {z : Int64} {σ : XS9} {h : XH} {B : Nat} {row : Nat → Int32} {L : Nat → Value} (hB : σ 5002 900 = nI B) (hB5 : B < 6) : xx_up (xx_up (xx_up (setM z σ h) (5020 + B) (15, 6, fun k => if k = 5 then .ref (5030 + B) else .int (row k))) (5030 + B) (206, 0, fun k => .ref (xx_box (u2 (u2 (uR σ (5020 + B) row) (5030 + B) 900 0) 5002 900 (nI (B + 1)) (5030 + B) k) (nmP B k)))) 5002 (206, B + 1, fun k => .ref (5020 + k)) = setM z (u2 (u2 (uR σ (5020 + B) row) (5030 + B) 900 0) 5002 900 (nI (B + 1))) h := by
  have n0 : ∀ i, isCtl (5020 + B) i = false := notCtl (by omega)
  have c1 : ∀ q i, q ≠ 5002 → q ≠ 5030 + B → ctl σ q i = ctl (u2 (u2 (uR σ (5020 + B) row) (5030 + B) 900 0) 5002 900 (nI (B + 1))) q i := fun q i hq hq2 => by
    unfold ctl
    rw [u2_ne hq, u2_ne hq2]
    by_cases e : q = 5020 + B
    · rw [e, n0]; rfl
    · rw [uR_ne e]
  have hB' : (u2 (u2 (uR σ (5020 + B) row) (5030 + B) 900 0) 5002 900 (nI (B + 1))) 5002 900 = nI (B + 1) := u2_at
  have hp' : (u2 (u2 (uR σ (5020 + B) row) (5030 + B) 900 0) 5002 900 (nI (B + 1))) (5030 + B) 900 = nI 0 := by
    rw [u2_ne (by omega), u2_at]
    rfl
  have hct : isCtl (5030 + B) 900 = true := by
    unfold isCtl
    rw [show Nat.ble 5030 (5030 + B) = true from Nat.ble_eq_true_of_le (by omega), show Nat.ble (5030 + B) 5039 = true from Nat.ble_eq_true_of_le (by omega)]
    simp
  funext q
  unfold xx_up
  by_cases a1 : q = 5002
  · rw [if_pos a1, a1, lm_5002 hB' (by omega)]
  rw [if_neg a1]
  by_cases a3 : q = 5030 + B
  · rw [if_pos a3, a3, lm_pks hB' (by omega) (by omega) hp' (by omega)]
  rw [if_neg a3]
  by_cases a2 : q = 5020 + B
  · rw [if_pos a2, a2, lm_bid hB' (by omega) (by omega), u2_ne (by omega), u2_ne (by omega), uR_eq]
  rw [if_neg a2]
  unfold setM
  rw [u2_ne a1, u2_ne a3, uR_ne a2, lyQ_Bi (B := B) c1 (ct1 rfl hB (by omega)) (ct1 rfl hB' (by omega)) (ct1 hct hp' (by omega)) hB5 ⟨a1, a2, a3⟩]
theorem noq_bid {z : Int64} {σ : XS9} {B : Nat} (hB : σ 5002 900 = nI B) (hB5 : B < 6) : lyQ z (ctl σ) (5020 + B) (σ (5020 + B)) = none ∧ lyQ z (ctl σ) (5030 + B) (σ (5030 + B)) = none := by
  have e := ct1 (i := 900) rfl hB (by omega)
  constructor
  · unfold lyQ
    rw [if_neg (by omega), if_neg (by omega), if_pos (by omega), e, if_neg (by omega)]
  · unfold lyQ
    rw [if_neg (by omega), if_neg (by omega), if_neg (by omega), if_pos (by omega), e, if_neg (by omega)]
theorem ct_X9_init {l : Launch} {h : XH} (hl : l.stackTraces = false) {r q : Nat} {F : Nat → Value} (hr : h r = some (15, 6, F)) (hq : h q = none) (h1 : 1000 ≤ r) (h2 : 1000 ≤ q) (hrq : r ≠ q) (h0 : ∃ f0, h 0 = some (104, 0, f0))  : XEx l m_X9_init 5 1 3 [.ref r] (h) (none) ((xx_up (xx_up h r (15, 6, updV F 5 (.ref q))) q (206, 0, fun _ => .null))) := by
  refine XMet.of hl rfl rfl (Nat.le_of_ble_eq_true rfl) (fun Y O hh hQ => ?_)
  obtain ⟨f0, h0⟩ := h0
  show SW Y 1 3 (h) 0 [.ref r] []
  refine sw_aload_n O (xx_dt dd_X9_init 0 rfl) rfl ?_
  refine sw_objInit O oi_X9_1 (xx_dt dd_X9_init 1 rfl) (by omega) (Nat.le_of_ble_eq_true rfl) ?_
  refine sw_aload_n O (xx_dt dd_X9_init 2 rfl) rfl ?_
  refine sw_new (k := 0) (n := 0) (r := q) O (xx_dt dd_X9_init 3 rfl) cl_Jx4a65c nw_X9_7 hq h2 ?_
  rw [xx_blk_up]
  refine sw_alter (r := q) (F2 := vp_V [.int 0, .null, .int 0]) (xx_up_eq _ _ _) (fun j hj => by match j, hj with | 0, _ => rfl | 1, _ => rfl | 2, _ => rfl) ?_
  rw [xx_up_up]
  refine sw_dup O (xx_dt dd_X9_init 4 rfl) rfl ?_
  refine sw_callIx (as := []) (st := [.ref q, .ref r]) (st2 := [.ref q, .ref r]) (k' := 0) (n' := 0) O (ct_AL_init hl (r := q) (xx_up_eq _ _ _) h2 (fun k _ => rfl) ((xx_up_ne (by omega)).trans h0)) ce_Jx4a65c_init_da8c8 ml_X9_9 ii_Jx4a65c_init_da8c8 (xx_dt dd_X9_init 5 rfl) (by decide) rfl rfl (Nat.le_of_ble_eq_true rfl) rfl ?_
  rw [xx_up_up]
  refine sw_putF (h2 := (xx_up (xx_up h r (15, 6, updV F 5 (.ref q))) q (206, 0, fun _ => .null))) O (xx_dt dd_X9_init 6 rfl) cl_X9 fz_X9_10 ((xx_up_ne hrq).trans hr) (by decide) h1 rfl rfl (fun _ => ⟨rfl, rfl⟩) (by rw [← xx_up_sw hrq]) ?_
  exact sw_ret O (xx_dt dd_X9_init 7 rfl) rfl (by rw [hQ]; exact ⟨rfl, rfl⟩)
def f_Mbidder (σ : XS9) (x y v u : Int32) (B : Nat) : Int32 := (if n_bt x 0 99999 then (if n_bt y 1 200 then (if n_bt v 0 30 then (if n_bt u 0 3 then (if (σ 5000 1) = 0 then (if (nI B) = 6 then 0 else nI B) else 0) else 0) else 0) else 0) else 0)
def g_Mbidder (σ : XS9) (x y v u : Int32) (B : Nat) : XS9 := (if n_bt x 0 99999 then (if n_bt y 1 200 then (if n_bt v 0 30 then (if n_bt u 0 3 then (if (σ 5000 1) = 0 then (if (nI B) = 6 then u2 (u2 σ 5000 0 0) 5000 0 2 else u2 (u2 (uR (u2 σ 5000 0 0) (5020 + B) (fun k => match k with | 0 => x | 1 => y | 2 => v | 3 => u | _ => 0)) (5030 + B) 900 0) 5002 900 (nI (B + 1))) else u2 (u2 σ 5000 0 0) 5000 0 2) else u2 (u2 σ 5000 0 0) 5000 0 1) else u2 (u2 σ 5000 0 0) 5000 0 1) else u2 (u2 σ 5000 0 0) 5000 0 1) else u2 (u2 σ 5000 0 0) 5000 0 1)
theorem ct_X14_bidder {l : Launch} {h : XH} (hl : l.stackTraces = false) {z : Int64} {σ : XS9} (hbs : xx_bs h) {B : Nat} (hB : σ 5002 900 = nI B) (hB6 : B ≤ 6) (hfr : ∀ r, 5000 ≤ r → r < 20010 → h r = none) {x y v u : Int32} : XEx l m_X14_bidder 10 3 27 [.ref 5000, .int x, .int y, .int v, .int u] (setM z σ h) (some (.int (f_Mbidder σ x y v u B))) (setM z (g_Mbidder σ x y v u B) h) := by
  refine XMet.of hl rfl rfl (Nat.le_of_ble_eq_true rfl) (fun Y O hh hQ => ?_)
  show SW Y 3 27 (setM z σ h) 0 [.ref 5000, .int x, .int y, .int v, .int u, xx_d] []
  refine sw_aload_n O (xx_dt dd_X14_bidder 0 rfl) rfl ?_
  refine sw_iconst (x := 0) O (xx_dt dd_X14_bidder 1 rfl) (by decide) ?_
  refine sw_put (h2 := setM z (u2 σ 5000 0 0) h) O (xx_dt dd_X14_bidder 2 rfl) cl_X14 fl_X14_46 (lm_mod (σ := σ)) (by decide) (by omega) rfl (fun _ => ⟨rfl, rfl⟩) (pm_mod (σ := σ) (by omega)) ?_
  refine sw_iload_n O (xx_dt dd_X14_bidder 3 rfl) rfl ?_
  refine sw_iconst (x := 0) O (xx_dt dd_X14_bidder 4 rfl) (by decide) ?_
  refine sw_ldc O ct_X14_117 (xx_dt dd_X14_bidder 5 rfl) ?_
  refine sw_callSx (as := [.int x, .int 0, .int 99999]) (st := []) (st2 := [.int (bZ (n_bt x 0 99999))]) O (ct_X14_is hl) ce_X14_is ml_X14_70 st_X14_is (xx_dt dd_X14_bidder 6 rfl) (by decide) rfl rfl (Nat.le_of_ble_eq_true rfl) rfl ?_
  refine sw_if_eqB (tgt := 46) O (xx_dt dd_X14_bidder 7 rfl) (by decide) (fun q1 => ?_) (fun q1 => ?_)
  · refine sw_aload_n O (xx_dt dd_X14_bidder 23 rfl) rfl ?_
    refine sw_iconst (x := 1) O (xx_dt dd_X14_bidder 24 rfl) (by decide) ?_
    refine sw_callVx (as := [.int 1]) (st := []) (st2 := [.int 0]) O (ct_X14_refuse hl (z := z) (σ := u2 σ 5000 0 0) hbs (x := 1)) ce_X14_refuse ml_X14_74 iv_X14_refuse cl_X14 rfl (lm_mod (σ := u2 σ 5000 0 0)) (xx_dt dd_X14_bidder 25 rfl) (by decide) rfl rfl (Nat.le_of_ble_eq_true rfl) rfl ?_
    exact sw_iret O (xx_dt dd_X14_bidder 26 rfl) rfl rfl (by rw [hQ]; exact ⟨by unfold f_Mbidder; simp only [if_neg q1], by unfold g_Mbidder; simp only [if_neg q1]⟩)
  · refine sw_iload_n O (xx_dt dd_X14_bidder 8 rfl) rfl ?_
    refine sw_iconst (x := 1) O (xx_dt dd_X14_bidder 9 rfl) (by decide) ?_
    refine sw_sipush (x := 200) O (xx_dt dd_X14_bidder 10 rfl) (by decide) ?_
    refine sw_callSx (as := [.int y, .int 1, .int 200]) (st := []) (st2 := [.int (bZ (n_bt y 1 200))]) O (ct_X14_is hl) ce_X14_is ml_X14_70 st_X14_is (xx_dt dd_X14_bidder 11 rfl) (by decide) rfl rfl (Nat.le_of_ble_eq_true rfl) rfl ?_
    refine sw_if_eqB (tgt := 46) O (xx_dt dd_X14_bidder 12 rfl) (by decide) (fun q2 => ?_) (fun q2 => ?_)
    · refine sw_aload_n O (xx_dt dd_X14_bidder 23 rfl) rfl ?_
      refine sw_iconst (x := 1) O (xx_dt dd_X14_bidder 24 rfl) (by decide) ?_
      refine sw_callVx (as := [.int 1]) (st := []) (st2 := [.int 0]) O (ct_X14_refuse hl (z := z) (σ := u2 σ 5000 0 0) hbs (x := 1)) ce_X14_refuse ml_X14_74 iv_X14_refuse cl_X14 rfl (lm_mod (σ := u2 σ 5000 0 0)) (xx_dt dd_X14_bidder 25 rfl) (by decide) rfl rfl (Nat.le_of_ble_eq_true rfl) rfl ?_
      exact sw_iret O (xx_dt dd_X14_bidder 26 rfl) rfl rfl (by rw [hQ]; exact ⟨by unfold f_Mbidder; simp only [if_pos q1, if_neg q2], by unfold g_Mbidder; simp only [if_pos q1, if_neg q2]⟩)
    · refine sw_iload_n O (xx_dt dd_X14_bidder 13 rfl) rfl ?_
      refine sw_iconst (x := 0) O (xx_dt dd_X14_bidder 14 rfl) (by decide) ?_
      refine sw_bipush (x := 30) O (xx_dt dd_X14_bidder 15 rfl) (by decide) ?_
      refine sw_callSx (as := [.int v, .int 0, .int 30]) (st := []) (st2 := [.int (bZ (n_bt v 0 30))]) O (ct_X14_is hl) ce_X14_is ml_X14_70 st_X14_is (xx_dt dd_X14_bidder 16 rfl) (by decide) rfl rfl (Nat.le_of_ble_eq_true rfl) rfl ?_
      refine sw_if_eqB (tgt := 46) O (xx_dt dd_X14_bidder 17 rfl) (by decide) (fun q3 => ?_) (fun q3 => ?_)
      · refine sw_aload_n O (xx_dt dd_X14_bidder 23 rfl) rfl ?_
        refine sw_iconst (x := 1) O (xx_dt dd_X14_bidder 24 rfl) (by decide) ?_
        refine sw_callVx (as := [.int 1]) (st := []) (st2 := [.int 0]) O (ct_X14_refuse hl (z := z) (σ := u2 σ 5000 0 0) hbs (x := 1)) ce_X14_refuse ml_X14_74 iv_X14_refuse cl_X14 rfl (lm_mod (σ := u2 σ 5000 0 0)) (xx_dt dd_X14_bidder 25 rfl) (by decide) rfl rfl (Nat.le_of_ble_eq_true rfl) rfl ?_
        exact sw_iret O (xx_dt dd_X14_bidder 26 rfl) rfl rfl (by rw [hQ]; exact ⟨by unfold f_Mbidder; simp only [if_pos q1, if_pos q2, if_neg q3], by unfold g_Mbidder; simp only [if_pos q1, if_pos q2, if_neg q3]⟩)
      · refine sw_iload O (xx_dt dd_X14_bidder 18 rfl) rfl ?_
        refine sw_iconst (x := 0) O (xx_dt dd_X14_bidder 19 rfl) (by decide) ?_
        refine sw_iconst (x := 3) O (xx_dt dd_X14_bidder 20 rfl) (by decide) ?_
        refine sw_callSx (as := [.int u, .int 0, .int 3]) (st := []) (st2 := [.int (bZ (n_bt u 0 3))]) O (ct_X14_is hl) ce_X14_is ml_X14_70 st_X14_is (xx_dt dd_X14_bidder 21 rfl) (by decide) rfl rfl (Nat.le_of_ble_eq_true rfl) rfl ?_
        refine sw_if_neB (tgt := 52) O (xx_dt dd_X14_bidder 22 rfl) (by decide) (fun q4 => ?_) (fun q4 => ?_)
        · refine sw_aload_n O (xx_dt dd_X14_bidder 27 rfl) rfl ?_
          refine sw_get (v := .int (σ 5000 1)) O (xx_dt dd_X14_bidder 28 rfl) cl_X14 fl_X14_77 (lm_mod (σ := u2 σ 5000 0 0)) (by decide) rfl ?_
          refine sw_if_ne (tgt := 71) O (xx_dt dd_X14_bidder 29 rfl) (by decide) (fun q5 => ?_) (fun q5 => ?_)
          · refine sw_aload_n O (xx_dt dd_X14_bidder 35 rfl) rfl ?_
            refine sw_iconst (x := 2) O (xx_dt dd_X14_bidder 36 rfl) (by decide) ?_
            refine sw_callVx (as := [.int 2]) (st := []) (st2 := [.int 0]) O (ct_X14_refuse hl (z := z) (σ := u2 σ 5000 0 0) hbs (x := 2)) ce_X14_refuse ml_X14_74 iv_X14_refuse cl_X14 rfl (lm_mod (σ := u2 σ 5000 0 0)) (xx_dt dd_X14_bidder 37 rfl) (by decide) rfl rfl (Nat.le_of_ble_eq_true rfl) rfl ?_
            exact sw_iret O (xx_dt dd_X14_bidder 38 rfl) rfl rfl (by rw [hQ]; exact ⟨by unfold f_Mbidder; simp only [if_pos q1, if_pos q2, if_pos q3, if_pos q4, if_neg q5], by unfold g_Mbidder; simp only [if_pos q1, if_pos q2, if_pos q3, if_pos q4, if_neg q5]⟩)
          · refine sw_aload_n O (xx_dt dd_X14_bidder 30 rfl) rfl ?_
            refine sw_get (v := .ref 5002) O (xx_dt dd_X14_bidder 31 rfl) cl_X14 fl_X14_27 (lm_mod (σ := u2 σ 5000 0 0)) (by decide) rfl ?_
            refine sw_callVL (ci := 6) (as := []) (st := []) (st2 := [.int (nI B)]) O (ct_AL_size hl (lm_5002 (σ := u2 σ 5000 0 0) (B := B) hB (by omega))) ce_Jx4a65c_size_8abf5 ml_X14_57 iv_Jx4a65c_size_8abf5 cl_Jx4a65c rfl (lm_5002 (σ := u2 σ 5000 0 0) (B := B) hB (by omega)) (xx_dt dd_X14_bidder 32 rfl) (by decide) rfl rfl (Nat.le_of_ble_eq_true rfl) rfl ?_
            refine sw_bipush (x := 6) O (xx_dt dd_X14_bidder 33 rfl) (by decide) ?_
            refine sw_icmp_ne (tgt := 77) O (xx_dt dd_X14_bidder 34 rfl) (by decide) (fun q6 => ?_) (fun q6 => ?_)
            · have hB5 : B < 6 := by rcases Nat.lt_or_ge B 6 with h9 | h9; exact h9; exact absurd (show nI B = 6 from congrArg nI (Nat.le_antisymm hB6 h9)) (by assumption)
              refine sw_new (k := 2) (n := 21) (r := 5020 + B) O (xx_dt dd_X14_bidder 39 rfl) cl_X9 nw_X14_118 ((setM_no (z := z) (noq_bid (σ := u2 σ 5000 0 0) (B := B) hB hB5).1).trans (hfr (5020 + B) (by omega) (by omega))) (by omega) ?_
              rw [xx_blk_up, ← setM_up (.inr (noq_bid (σ := u2 σ 5000 0 0) (B := B) hB hB5).1)]
              have hbs0 := hbs
              have hbs := bs_up (r := 5020 + B) (c := (15, 6, fun j => defaultValue (tyX9 j))) hbs (by omega) (by omega) (by omega)
              refine sw_dup O (xx_dt dd_X14_bidder 40 rfl) rfl ?_
              refine sw_callIx (k := 1) (n := 18) (k' := 1) (n' := 3) (as := []) (st := [.ref (5020 + B)]) (st2 := [.ref (5020 + B)]) O (ct_X9_init hl (r := 5020 + B) (q := 5030 + B) ((setM_no (noq_bid (σ := u2 σ 5000 0 0) (B := B) hB hB5).1).trans (xx_up_eq _ _ _)) ((setM_no (noq_bid (σ := u2 σ 5000 0 0) (B := B) hB hB5).2).trans ((xx_up_ne (by omega)).trans (hfr (5030 + B) (by omega) (by omega)))) (by omega) (by omega) (by omega) (hbs.1.imp fun f0 e => (setM_out (by omega)).trans e)) ce_X9_init ml_X14_120 ii_X9_init (xx_dt dd_X14_bidder 41 rfl) (by decide) rfl rfl (Nat.le_of_ble_eq_true rfl) rfl ?_
              rw [← setM_up (.inr (noq_bid (σ := u2 σ 5000 0 0) (B := B) hB hB5).1), xx_up_up, ← setM_up (.inr (noq_bid (σ := u2 σ 5000 0 0) (B := B) hB hB5).2)]
              have hbs := bs_up (r := 5030 + B) (c := (206, 0, fun _ => .null)) (bs_up (r := 5020 + B) (c := (15, 6, updV (fun j => defaultValue (tyX9 j)) 5 (.ref (5030 + B)))) hbs0 (by omega) (by omega) (by omega)) (by omega) (by omega) (by omega)
              refine sw_astore (ls2 := [.ref 5000, .int x, .int y, .int v, .int u, .ref (5020 + B)]) O (xx_dt dd_X14_bidder 42 rfl) (by decide) rfl ?_
              refine sw_aload O (xx_dt dd_X14_bidder 43 rfl) rfl ?_
              refine sw_iload_n O (xx_dt dd_X14_bidder 44 rfl) rfl ?_
              refine sw_put (h2 := setM z (u2 σ 5000 0 0) (xx_up (xx_up h (5020 + B) (15, 6, updV (updV (fun j => defaultValue (tyX9 j)) 5 (.ref (5030 + B))) 0 (.int x))) (5030 + B) (206, 0, fun _ => .null))) O (xx_dt dd_X14_bidder 45 rfl) cl_X9 fl_X14_121 ((setM_no (noq_bid (σ := u2 σ 5000 0 0) (B := B) hB hB5).1).trans ((xx_up_ne (by omega)).trans (xx_up_eq _ _ _))) (by decide) (by omega) rfl (fun _ => ⟨rfl, rfl⟩) (by rw [← setM_up (.inr (noq_bid (σ := u2 σ 5000 0 0) (B := B) hB hB5).1), ← xx_up_sw (r := 5020 + B) (e := 5030 + B) (by omega), xx_up_up]) ?_
              have hbs := bs_up (r := 5030 + B) (c := (206, 0, fun _ => .null)) (bs_up (r := 5020 + B) (c := (15, 6, updV (updV (fun j => defaultValue (tyX9 j)) 5 (.ref (5030 + B))) 0 (.int x))) hbs0 (by omega) (by omega) (by omega)) (by omega) (by omega) (by omega)
              refine sw_aload O (xx_dt dd_X14_bidder 46 rfl) rfl ?_
              refine sw_iload_n O (xx_dt dd_X14_bidder 47 rfl) rfl ?_
              refine sw_put (h2 := setM z (u2 σ 5000 0 0) (xx_up (xx_up h (5020 + B) (15, 6, updV (updV (updV (fun j => defaultValue (tyX9 j)) 5 (.ref (5030 + B))) 0 (.int x)) 1 (.int y))) (5030 + B) (206, 0, fun _ => .null))) O (xx_dt dd_X14_bidder 48 rfl) cl_X9 fl_X14_124 ((setM_no (noq_bid (σ := u2 σ 5000 0 0) (B := B) hB hB5).1).trans ((xx_up_ne (by omega)).trans (xx_up_eq _ _ _))) (by decide) (by omega) rfl (fun _ => ⟨rfl, rfl⟩) (by rw [← setM_up (.inr (noq_bid (σ := u2 σ 5000 0 0) (B := B) hB hB5).1), ← xx_up_sw (r := 5020 + B) (e := 5030 + B) (by omega), xx_up_up]) ?_
              have hbs := bs_up (r := 5030 + B) (c := (206, 0, fun _ => .null)) (bs_up (r := 5020 + B) (c := (15, 6, updV (updV (updV (fun j => defaultValue (tyX9 j)) 5 (.ref (5030 + B))) 0 (.int x)) 1 (.int y))) hbs0 (by omega) (by omega) (by omega)) (by omega) (by omega) (by omega)
              refine sw_aload O (xx_dt dd_X14_bidder 49 rfl) rfl ?_
              refine sw_iload_n O (xx_dt dd_X14_bidder 50 rfl) rfl ?_
              refine sw_put (h2 := setM z (u2 σ 5000 0 0) (xx_up (xx_up h (5020 + B) (15, 6, updV (updV (updV (updV (fun j => defaultValue (tyX9 j)) 5 (.ref (5030 + B))) 0 (.int x)) 1 (.int y)) 2 (.int v))) (5030 + B) (206, 0, fun _ => .null))) O (xx_dt dd_X14_bidder 51 rfl) cl_X9 fl_X14_127 ((setM_no (noq_bid (σ := u2 σ 5000 0 0) (B := B) hB hB5).1).trans ((xx_up_ne (by omega)).trans (xx_up_eq _ _ _))) (by decide) (by omega) rfl (fun _ => ⟨rfl, rfl⟩) (by rw [← setM_up (.inr (noq_bid (σ := u2 σ 5000 0 0) (B := B) hB hB5).1), ← xx_up_sw (r := 5020 + B) (e := 5030 + B) (by omega), xx_up_up]) ?_
              have hbs := bs_up (r := 5030 + B) (c := (206, 0, fun _ => .null)) (bs_up (r := 5020 + B) (c := (15, 6, updV (updV (updV (updV (fun j => defaultValue (tyX9 j)) 5 (.ref (5030 + B))) 0 (.int x)) 1 (.int y)) 2 (.int v))) hbs0 (by omega) (by omega) (by omega)) (by omega) (by omega) (by omega)
              refine sw_aload O (xx_dt dd_X14_bidder 52 rfl) rfl ?_
              refine sw_iload O (xx_dt dd_X14_bidder 53 rfl) rfl ?_
              refine sw_put (h2 := setM z (u2 σ 5000 0 0) (xx_up (xx_up h (5020 + B) (15, 6, updV (updV (updV (updV (updV (fun j => defaultValue (tyX9 j)) 5 (.ref (5030 + B))) 0 (.int x)) 1 (.int y)) 2 (.int v)) 3 (.int u))) (5030 + B) (206, 0, fun _ => .null))) O (xx_dt dd_X14_bidder 54 rfl) cl_X9 fl_X14_130 ((setM_no (noq_bid (σ := u2 σ 5000 0 0) (B := B) hB hB5).1).trans ((xx_up_ne (by omega)).trans (xx_up_eq _ _ _))) (by decide) (by omega) rfl (fun _ => ⟨rfl, rfl⟩) (by rw [← setM_up (.inr (noq_bid (σ := u2 σ 5000 0 0) (B := B) hB hB5).1), ← xx_up_sw (r := 5020 + B) (e := 5030 + B) (by omega), xx_up_up]) ?_
              have hbs := bs_up (r := 5030 + B) (c := (206, 0, fun _ => .null)) (bs_up (r := 5020 + B) (c := (15, 6, updV (updV (updV (updV (updV (fun j => defaultValue (tyX9 j)) 5 (.ref (5030 + B))) 0 (.int x)) 1 (.int y)) 2 (.int v)) 3 (.int u))) hbs0 (by omega) (by omega) (by omega)) (by omega) (by omega) (by omega)
              refine sw_aload_n O (xx_dt dd_X14_bidder 55 rfl) rfl ?_
              refine sw_get (v := .ref 5002) O (xx_dt dd_X14_bidder 56 rfl) cl_X14 fl_X14_27 (lm_mod (σ := u2 σ 5000 0 0)) (by decide) rfl ?_
              refine sw_aload O (xx_dt dd_X14_bidder 57 rfl) rfl ?_
              refine xx_wid (k' := 0 + 1) (n' := 0 + ((B) + (B) / 2 + 10)) (by omega) (by omega) (sw_callVL (k := 0) (n := 0) (k' := 1) (n' := (B) + (B) / 2 + 10) (ci := 6) (as := [.ref (5020 + B)]) (st := []) (st2 := [.int 1]) O (ct_add hl (lm_5002 (σ := u2 σ 5000 0 0) (B := B) hB (by omega)) (by omega) (hbs.1.imp fun f0 e => (setM_out (by omega)).trans e) (hbs.2.1.imp fun f0 e => (setM_out (by omega)).trans e) (setM_no2 hbs).1 (setM_no2 hbs).2 (ob_C cl_X9 ((setM_no (noq_bid (σ := u2 σ 5000 0 0) (B := B) hB hB5).1).trans ((xx_up_ne (by omega)).trans (xx_up_eq _ _ _))) ca_X9) (by omega) (fun j9 hj9 => .inr ⟨5020 + j9, rfl, ob_C cl_X9 (lm_bid (σ := u2 σ 5000 0 0) hB (by omega) hj9) ca_X9⟩)) ce_Jx4a65c_add_9ea2d ml_X14_87 iv_Jx4a65c_add_9ea2d cl_Jx4a65c rfl (lm_5002 (σ := u2 σ 5000 0 0) (B := B) hB (by omega)) (xx_dt dd_X14_bidder 58 rfl) (by decide) rfl rfl (Nat.le_of_ble_eq_true rfl) rfl ?_)
              rw [setM_up (.inr (noq_bid (σ := u2 σ 5000 0 0) (B := B) hB hB5).2), setM_up (.inr (noq_bid (σ := u2 σ 5000 0 0) (B := B) hB hB5).1), show (fun j9 => if j9 = B then Value.ref (5020 + B) else Value.ref (5020 + j9)) = (fun k => Value.ref (5020 + k)) from funext fun j9 => (by split <;> simp_all)]
              refine sw_alter (r := 5020 + B) (F2 := fun k => if k = 5 then .ref (5030 + B) else .int ((fun k => match k with | 0 => x | 1 => y | 2 => v | 3 => u | _ => 0) k)) ((xx_up_ne (by omega)).trans ((xx_up_ne (by omega)).trans (xx_up_eq _ _ _))) (fun k9 hk9 => by match k9, hk9 with | 0, _ => rfl | 1, _ => rfl | 2, _ => rfl | 3, _ => rfl | 4, _ => rfl | 5, _ => rfl) ?_
              rw [← xx_up_sw (r := 5020 + B) (e := 5002) (by omega), ← xx_up_sw (r := 5020 + B) (e := 5030 + B) (by omega), xx_up_up]
              refine sw_alter (r := 5030 + B) (F2 := fun k => .ref (xx_box (u2 (u2 (uR (u2 σ 5000 0 0) (5020 + B) (fun k => match k with | 0 => x | 1 => y | 2 => v | 3 => u | _ => 0)) (5030 + B) 900 0) 5002 900 (nI (B + 1)) (5030 + B) k) (nmP B k))) ((xx_up_ne (by omega)).trans (xx_up_eq _ _ _)) (fun k9 hk9 => absurd hk9 (Nat.not_lt_zero _)) ?_
              rw [← xx_up_sw (r := 5030 + B) (e := 5002) (by omega), xx_up_up, add_bid (σ := u2 σ 5000 0 0) (L := fun _ => .null) hB hB5]
              have hbs := hbs0
              refine sw_pop O (xx_dt dd_X14_bidder 59 rfl) rfl ?_
              refine sw_aload_n O (xx_dt dd_X14_bidder 60 rfl) rfl ?_
              refine sw_get (v := .ref 5002) O (xx_dt dd_X14_bidder 61 rfl) cl_X14 fl_X14_27 (lm_mod (σ := u2 (u2 (uR (u2 σ 5000 0 0) (5020 + B) (fun k => match k with | 0 => x | 1 => y | 2 => v | 3 => u | _ => 0)) (5030 + B) 900 0) 5002 900 (nI (B + 1)))) (by decide) rfl ?_
              refine sw_callVL (ci := 6) (as := []) (st := []) (st2 := [.int (nI (B + 1))]) O (ct_AL_size hl (lm_5002 (σ := u2 (u2 (uR (u2 σ 5000 0 0) (5020 + B) (fun k => match k with | 0 => x | 1 => y | 2 => v | 3 => u | _ => 0)) (5030 + B) 900 0) 5002 900 (nI (B + 1))) (B := B + 1) rfl (by omega))) ce_Jx4a65c_size_8abf5 ml_X14_57 iv_Jx4a65c_size_8abf5 cl_Jx4a65c rfl (lm_5002 (σ := u2 (u2 (uR (u2 σ 5000 0 0) (5020 + B) (fun k => match k with | 0 => x | 1 => y | 2 => v | 3 => u | _ => 0)) (5030 + B) 900 0) 5002 900 (nI (B + 1))) (B := B + 1) rfl (by omega)) (xx_dt dd_X14_bidder 62 rfl) (by decide) rfl rfl (Nat.le_of_ble_eq_true rfl) rfl ?_
              refine sw_iconst (x := 1) O (xx_dt dd_X14_bidder 63 rfl) (by decide) ?_
              refine sw_isub O (xx_dt dd_X14_bidder 64 rfl) ?_
              rw [nI_s1 B]
              exact sw_iret O (xx_dt dd_X14_bidder 65 rfl) rfl rfl (by rw [hQ]; exact ⟨by unfold f_Mbidder; simp only [if_pos q1, if_pos q2, if_pos q3, if_pos q4, if_pos q5, if_neg q6], by unfold g_Mbidder; simp only [if_pos q1, if_pos q2, if_pos q3, if_pos q4, if_pos q5, if_neg q6]⟩)
            · refine sw_aload_n O (xx_dt dd_X14_bidder 35 rfl) rfl ?_
              refine sw_iconst (x := 2) O (xx_dt dd_X14_bidder 36 rfl) (by decide) ?_
              refine sw_callVx (as := [.int 2]) (st := []) (st2 := [.int 0]) O (ct_X14_refuse hl (z := z) (σ := u2 σ 5000 0 0) hbs (x := 2)) ce_X14_refuse ml_X14_74 iv_X14_refuse cl_X14 rfl (lm_mod (σ := u2 σ 5000 0 0)) (xx_dt dd_X14_bidder 37 rfl) (by decide) rfl rfl (Nat.le_of_ble_eq_true rfl) rfl ?_
              exact sw_iret O (xx_dt dd_X14_bidder 38 rfl) rfl rfl (by rw [hQ]; exact ⟨by unfold f_Mbidder; simp only [if_pos q1, if_pos q2, if_pos q3, if_pos q4, if_pos q5, if_pos q6], by unfold g_Mbidder; simp only [if_pos q1, if_pos q2, if_pos q3, if_pos q4, if_pos q5, if_pos q6]⟩)
        · refine sw_aload_n O (xx_dt dd_X14_bidder 23 rfl) rfl ?_
          refine sw_iconst (x := 1) O (xx_dt dd_X14_bidder 24 rfl) (by decide) ?_
          refine sw_callVx (as := [.int 1]) (st := []) (st2 := [.int 0]) O (ct_X14_refuse hl (z := z) (σ := u2 σ 5000 0 0) hbs (x := 1)) ce_X14_refuse ml_X14_74 iv_X14_refuse cl_X14 rfl (lm_mod (σ := u2 σ 5000 0 0)) (xx_dt dd_X14_bidder 25 rfl) (by decide) rfl rfl (Nat.le_of_ble_eq_true rfl) rfl ?_
          exact sw_iret O (xx_dt dd_X14_bidder 26 rfl) rfl rfl (by rw [hQ]; exact ⟨by unfold f_Mbidder; simp only [if_pos q1, if_pos q2, if_pos q3, if_neg q4], by unfold g_Mbidder; simp only [if_pos q1, if_pos q2, if_pos q3, if_neg q4]⟩)
