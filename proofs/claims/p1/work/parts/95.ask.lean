section
/-! ===== the reference: ask ===== -/
def nmT (σ : XS9) (k : Nat) : Nat := 10200 + 2 * k + (if σ 5004 (100 + k) = 0 then 1 else 0)
def g_setS (σ : XS9) (k : Nat) (v : Int32) : XS9 := u2 (u2 σ 5004 k v) 5004 (100 + k) (if σ 5004 (100 + k) = 0 then 1 else 0)
def boxK (h : XH) (v : Int32) (e : Nat) : XH := if xx_small v then h else xx_up h e (2, 1, fun _ => .int v)
theorem setS_ne {σ : XS9} {k q : Nat} {v : Int32} (h : q ≠ 5004) : g_setS σ k v q = σ q := by unfold g_setS; rw [u2_ne h, u2_ne h]
theorem setS_v {σ : XS9} {k : Nat} {v : Int32} : g_setS σ k v 5004 k = v := by unfold g_setS; rw [u2_oi (by omega), u2_at]
theorem setS_t {σ : XS9} {k : Nat} {v : Int32} : g_setS σ k v 5004 (100 + k) = if σ 5004 (100 + k) = 0 then 1 else 0 := u2_at
theorem setS_o {σ : XS9} {k j : Nat} {v : Int32} (h : j ≠ k) (h2 : j ≠ 100 + k) : g_setS σ k v 5004 j = σ 5004 j := by unfold g_setS; rw [u2_oi h2, u2_oi h]
theorem nmT_e {σ : XS9} {k : Nat} {v : Int32} : nmS (g_setS σ k v) k = nmT σ k := by
  unfold nmS nmT
  rw [setS_t]
  by_cases h : σ 5004 (100 + k) = 0
  · rw [if_pos h, if_pos h]; rfl
  · rw [if_neg h, if_neg h, if_pos rfl]
theorem nmT_o {σ : XS9} {k j : Nat} {v : Int32} (hk : k < 20) (hj : j < 20) (h : j ≠ k) : nmS (g_setS σ k v) j = nmS σ j := by
  unfold nmS
  rw [setS_o (by omega) (by omega)]
theorem nmT_r {σ : XS9} (k : Nat) : (nmT σ k - 10200) / 2 = k ∧ 10200 + 2 * k ≤ nmT σ k ∧ nmT σ k ≤ 10200 + 2 * k + 1 ∧ nmT σ k ≠ nmS σ k := by
  unfold nmT nmS
  split <;> omega
theorem noq_tint {z : Int64} {σ : XS9} {k : Nat} (hk : k < 20) (s : Nat → Int32) : lyQ z (ctl σ) (nmT σ k) s = none := by
  obtain ⟨q1, q2, q3, q4⟩ := nmT_r (σ := σ) k
  have q5 : nmS (ctl σ) k = nmS σ k := rfl
  unfold lyQ
  rw [if_neg (by omega), if_neg (by omega), if_neg (by omega), if_neg (by omega), if_neg (by omega), if_neg (by omega), if_neg (by omega), if_neg (by omega), if_neg (by omega), if_neg (by omega), if_neg (by omega), if_neg (by omega), if_neg (by omega), if_neg (by omega), if_neg (by omega), if_neg (by omega), if_neg (by omega), if_pos (by omega), q1, q5, if_neg (fun h => q4 h.2.1)]
theorem noq_uint {z : Int64} {σ : XS9} {k : Nat} {v : Int32} (hk : k < 20) (s : Nat → Int32) : lyQ z (ctl (g_setS σ k v)) (nmS σ k) s = none := by
  obtain ⟨q1, q2, q3⟩ := nmS_r (σ := σ) k
  have q5 : nmS (ctl (g_setS σ k v)) k = nmT σ k := nmT_e
  have q6 := (nmT_r (σ := σ) k).2.2.2
  unfold lyQ
  rw [if_neg (by omega), if_neg (by omega), if_neg (by omega), if_neg (by omega), if_neg (by omega), if_neg (by omega), if_neg (by omega), if_neg (by omega), if_neg (by omega), if_neg (by omega), if_neg (by omega), if_neg (by omega), if_neg (by omega), if_neg (by omega), if_neg (by omega), if_neg (by omega), if_neg (by omega), if_pos (by omega), q1, q5, if_neg (fun h => q6 h.2.1.symm)]
theorem lyQ_T {z : Int64} {C C' : XS9} {r k : Nat} {s : Nat → Int32} (h1 : ∀ q i, q ≠ 5004 → C q i = C' q i) (h3 : C 5004 900 = C' 5004 900) (h4 : ∀ j, j ≠ k → j ≠ 100 + k → j < 200 → C 5004 j = C' 5004 j) (hk : k < 20) (hr : r ≠ 5004 ∧ r ≠ 10200 + 2 * k ∧ r ≠ 10200 + 2 * k + 1) : lyQ z C r s = lyQ z C' r s := by
  have e1 : ∀ i, C 5001 i = C' 5001 i := fun i => h1 _ _ (by omega)
  have e2 : ∀ i, C 5002 i = C' 5002 i := fun i => h1 _ _ (by omega)
  have e3 : ∀ i, C 5003 i = C' 5003 i := fun i => h1 _ _ (by omega)
  have e7 : ∀ i, C 7000 i = C' 7000 i := fun i => h1 _ _ (by omega)
  have e8 : ∀ i, C 8000 i = C' 8000 i := fun i => h1 _ _ (by omega)
  have e9 : ∀ i, C 9000 i = C' 9000 i := fun i => h1 _ _ (by omega)
  have er : ∀ i, C r i = C' r i := fun i => h1 _ _ hr.1
  have ep : ∀ i, C (5030 + (r - 10000) / 20) i = C' (5030 + (r - 10000) / 20) i := fun i => h1 _ _ (by omega)
  unfold lyQ lyB
  by_cases u0 : r < 5010
  · rw [if_pos u0, if_pos u0]
    split <;> first | rfl | (exfalso; omega) | simp only [e1, e2, e3, e7]
  rw [if_neg u0, if_neg u0]
  by_cases u4 : r < 10200
  · simp only [e1, e2, e3, e7, e8, e9, er, ep, if_pos u4]
  by_cases u5 : r < 10300
  · simp only [if_neg (show ¬ r < 5020 by omega), if_neg (show ¬ r < 5030 by omega), if_neg (show ¬ r < 5040 by omega), if_neg (show ¬ r < 5200 by omega), if_neg (show ¬ r < 5300 by omega), if_neg (show ¬ r < 6000 by omega), if_neg (show ¬ r < 6100 by omega), if_neg (show ¬ r < 6200 by omega), if_neg (show ¬ r < 6300 by omega), if_neg (show ¬ r < 6400 by omega), if_neg (show ¬ r < 7000 by omega), if_neg (show ¬ r < 8000 by omega), if_neg (show ¬ r < 9000 by omega), if_neg (show ¬ r < 9010 by omega), if_neg (show ¬ r < 10000 by omega), if_neg u4, if_pos u5, h3]
    have n1 : nmS C ((r - 10200) / 2) = nmS C' ((r - 10200) / 2) := by unfold nmS; rw [h4 (100 + (r - 10200) / 2) (by omega) (by omega) (by omega)]
    rw [h4 _ (by omega) (by omega) (by omega), n1]
  simp only [e1, e2, e3, e7, e8, e9, er, if_neg u4, if_neg u5, if_neg (show ¬ r < 5200 by omega), if_neg (show ¬ r < 5300 by omega), if_neg (show ¬ r < 6000 by omega), if_neg (show ¬ r < 6100 by omega), if_neg (show ¬ r < 6200 by omega), if_neg (show ¬ r < 6300 by omega), if_neg (show ¬ r < 6400 by omega), if_neg (show ¬ r < 7000 by omega), if_neg (show ¬ r < 8000 by omega), if_neg (show ¬ r < 9000 by omega), if_neg (show ¬ r < 9010 by omega)]
theorem sw_boxT {Y : XY} {k9 n9 pc : Nat} {ls st : List Value} {z : Int64} {σ : XS9} {h : XH} {S k : Nat} {v : Int32} (hfr : ∀ r, 5000 ≤ r → r < 20010 → h r = none) (hS : σ 5004 900 = nI S) (hS20 : S ≤ 20) (hk : k < S) (kk : SW Y k9 n9 (setM z (g_setS σ k v) (boxK h (σ 5004 k) (nmS σ k))) pc ls st) : SW Y k9 n9 (xx_up (setM z σ (boxH h v (nmT σ k))) 5004 (206, S, updV (fun j => .ref (xx_box (σ 5004 j) (nmS σ j))) k (.ref (xx_box v (nmT σ k))))) pc ls st := by
  obtain ⟨q1, q2, q3⟩ := nmS_r (σ := σ) k
  obtain ⟨t1, t2, t3, t4⟩ := nmT_r (σ := σ) k
  have hS' : g_setS σ k v 5004 900 = nI S := by rw [setS_o (by omega) (by omega)]; exact hS
  have c1 : ∀ q i, q ≠ 5004 → ctl σ q i = ctl (g_setS σ k v) q i := fun q i hq => by unfold ctl; rw [setS_ne hq]
  have h3 : ctl σ 5004 900 = ctl (g_setS σ k v) 5004 900 := show σ 5004 900 = g_setS σ k v 5004 900 by rw [hS', hS]
  have h4 : ∀ j, j ≠ k → j ≠ 100 + k → j < 200 → ctl σ 5004 j = ctl (g_setS σ k v) 5004 j := fun j a b c => show σ 5004 j = g_setS σ k v 5004 j by rw [setS_o a b]
  have hs1 : ∀ q, q ≠ nmS σ k → boxK h (σ 5004 k) (nmS σ k) q = h q := fun q a => by
    unfold boxK
    split
    · rfl
    · exact xx_up_ne a
  have goal : ∀ F : Nat → Value, (¬ xx_small v → F = fun _ => .int v) → xx_up (if xx_small v then setM z σ h else xx_up (setM z σ h) (nmT σ k) (2, 1, F)) 5004 (206, S, fun j => .ref (xx_box (g_setS σ k v 5004 j) (nmS (g_setS σ k v) j))) = setM z (g_setS σ k v) (boxK h (σ 5004 k) (nmS σ k)) := fun F hF => by
    funext q
    by_cases a1 : q = 5004
    · rw [a1, xx_up_eq, lm_5004 hS' hS20]
    rw [xx_up_ne a1]
    by_cases a2 : q = nmT σ k
    · subst a2
      by_cases hs : xx_small v
      · rw [if_pos hs, setM_no (noq_tint (by omega) _), hfr _ (by omega) (by omega)]
        refine ((setM_no ?_).trans ((hs1 _ t4).trans (hfr _ (by omega) (by omega)))).symm
        have q5 : nmS (ctl (g_setS σ k v)) k = nmT σ k := nmT_e
        have q7 : ctl (g_setS σ k v) 5004 k = v := setS_v
        unfold lyQ
        rw [if_neg (by omega), if_neg (by omega), if_neg (by omega), if_neg (by omega), if_neg (by omega), if_neg (by omega), if_neg (by omega), if_neg (by omega), if_neg (by omega), if_neg (by omega), if_neg (by omega), if_neg (by omega), if_neg (by omega), if_neg (by omega), if_neg (by omega), if_neg (by omega), if_neg (by omega), if_pos (by omega), t1, q7, if_neg (fun h9 => h9.2.2 hs)]
      · rw [if_neg hs, xx_up_eq, hF hs]
        have t := lm_sint (z := z) (h := boxK h (σ 5004 k) (nmS σ k)) hS' hS20 (k := k) hk (by rw [setS_v]; exact hs)
        rw [nmT_e, setS_v] at t
        exact t.symm
    have a3 : (if xx_small v then setM z σ h else xx_up (setM z σ h) (nmT σ k) (2, 1, F)) q = setM z σ h q := by
      split
      · rfl
      · exact xx_up_ne a2
    rw [a3]
    by_cases a4 : q = nmS σ k
    · subst a4
      rw [setM_no (noq_uint (by omega) _)]
      unfold boxK
      by_cases ho : xx_small (σ 5004 k)
      · rw [if_pos ho, setM_no]
        unfold lyQ
        have q7 : ctl σ 5004 k = σ 5004 k := rfl
        rw [if_neg (by omega), if_neg (by omega), if_neg (by omega), if_neg (by omega), if_neg (by omega), if_neg (by omega), if_neg (by omega), if_neg (by omega), if_neg (by omega), if_neg (by omega), if_neg (by omega), if_neg (by omega), if_neg (by omega), if_neg (by omega), if_neg (by omega), if_neg (by omega), if_neg (by omega), if_pos (by omega), q1, q7, if_neg (fun h9 => h9.2.2 ho)]
      · rw [if_neg ho, xx_up_eq, lm_sint hS hS20 hk ho]
    · have hr : q ≠ 10200 + 2 * k ∧ q ≠ 10200 + 2 * k + 1 := by omega
      unfold setM
      rw [setS_ne a1, lyQ_T c1 h3 h4 (by omega) ⟨a1, hr⟩, hs1 q a4]
  refine sw_alter (r := 5004) (F2 := fun j => .ref (xx_box (g_setS σ k v 5004 j) (nmS (g_setS σ k v) j))) (xx_up_eq _ _ _) (fun j hj => ?_) ?_
  · unfold updV
    by_cases e : j = k
    · subst e
      rw [if_pos rfl, setS_v, nmT_e]
    · rw [if_neg e, setS_o e (by omega), nmT_o (by omega) (by omega) e]
  rw [xx_up_up]
  by_cases hs : xx_small v
  · have e : boxH h v (nmT σ k) = h := if_pos hs
    have g := goal (fun _ => .int v) (fun _ => rfl)
    rw [if_pos hs] at g
    rw [e, g]
    exact kk
  · have e : boxH h v (nmT σ k) = xx_up h (nmT σ k) (2, 1, vF v) := if_neg hs
    rw [e, setM_up (.inr (noq_tint (by omega) _))]
    refine sw_alter (r := nmT σ k) (F2 := fun _ => .int v) ((xx_up_ne (by omega)).trans (xx_up_eq _ _ _)) (fun j hj => by match j, hj with | 0, _ => rfl) ?_
    have g := goal (fun _ => .int v) (fun _ => rfl)
    rw [if_neg hs] at g
    rw [← xx_up_sw (by omega), xx_up_up, g]
    exact kk
theorem lm_old {z : Int64} {σ : XS9} {h : XH} (hbs : xx_bs h) {k : Nat} {v : Int32} (hk : k < 20) : setM z (g_setS σ k v) (boxK h (σ 5004 k) (nmS σ k)) (xx_box (σ 5004 k) (nmS σ k)) = some (2, 1, fun _ => .int (σ 5004 k)) := by
  unfold xx_box boxK
  by_cases hs : xx_small (σ 5004 k)
  · have := (small_nat hs).2
    rw [if_pos hs, if_pos hs, setM_out (by omega), hbs.2.2.2.1 _ this, small_eq hs]
  · rw [if_neg hs, if_neg hs, setM_no (noq_uint hk _), xx_up_eq]
def k_Mask (h : XH) (σ : XS9) (x y : Int32) (C : Nat) : XH := if n_bt x 0 ((nI C) - 1) then (if n_bt y 1 9999 then boxK h ((u2 σ 5000 0 0) 5004 (2 * (cn x) + 1)) (nmS (u2 σ 5000 0 0) (2 * (cn x) + 1)) else h) else h
def f_Mask (σ : XS9) (x y : Int32) (C : Nat) : Int32 := (if n_bt x 0 ((nI C) - 1) then (if n_bt y 1 9999 then (u2 σ 5000 0 0) 5004 (2 * (cn x) + 1) else 0) else 0)
def g_Mask (σ : XS9) (x y : Int32) (C : Nat) : XS9 := (if n_bt x 0 ((nI C) - 1) then (if n_bt y 1 9999 then g_setS (u2 σ 5000 0 0) (2 * (cn x) + 1) y else u2 (u2 σ 5000 0 0) 5000 0 2) else u2 (u2 σ 5000 0 0) 5000 0 1)
theorem ct_X14_ask {l : Launch} {h : XH} (hl : l.stackTraces = false) {z : Int64} {σ : XS9} (hbs : xx_bs h) (hfr : ∀ r, 5000 ≤ r → r < 20010 → h r = none) {C : Nat} (hS : σ 5004 900 = nI (2 * C)) (hC10 : C ≤ 10) {x y : Int32} : XEx l m_X14_ask 9 1 1 [.ref 5000, .int x, .int y] (setM z σ h) (some (.int (f_Mask σ x y C))) (setM z (g_Mask σ x y C) (k_Mask h σ x y C)) := by
  refine XMet.of hl rfl rfl (Nat.le_of_ble_eq_true rfl) (fun Y O hh hQ => ?_)
  show SW Y 1 1 (setM z σ h) 0 [.ref 5000, .int x, .int y] []
  refine sw_aload_n O (xx_dt dd_X14_ask 0 rfl) rfl ?_
  refine sw_iconst (x := 0) O (xx_dt dd_X14_ask 1 rfl) (by decide) ?_
  refine sw_put (h2 := setM z (u2 σ 5000 0 0) h) O (xx_dt dd_X14_ask 2 rfl) cl_X14 fl_X14_46 (lm_mod (σ := σ)) (by decide) (by omega) rfl (fun _ => ⟨rfl, rfl⟩) (pm_mod (σ := σ) (by omega)) ?_
  refine sw_iload_n O (xx_dt dd_X14_ask 3 rfl) rfl ?_
  refine sw_iconst (x := 0) O (xx_dt dd_X14_ask 4 rfl) (by decide) ?_
  refine sw_aload_n O (xx_dt dd_X14_ask 5 rfl) rfl ?_
  refine sw_get (v := .ref 5004) O (xx_dt dd_X14_ask 6 rfl) cl_X14 fl_X14_33 (lm_mod (σ := u2 σ 5000 0 0)) (by decide) rfl ?_
  refine sw_callVL (ci := 6) (as := []) (st := [.int 0, .int x]) (st2 := [.int (nI (2 * C)), .int 0, .int x]) O (ct_AL_size hl (lm_5004 (σ := u2 σ 5000 0 0) (S := 2 * C) hS (by omega))) ce_Jx4a65c_size_8abf5 ml_X14_57 iv_Jx4a65c_size_8abf5 cl_Jx4a65c rfl (lm_5004 (σ := u2 σ 5000 0 0) (S := 2 * C) hS (by omega)) (xx_dt dd_X14_ask 7 rfl) (by decide) rfl rfl (Nat.le_of_ble_eq_true rfl) rfl ?_
  refine sw_iconst (x := 2) O (xx_dt dd_X14_ask 8 rfl) (by decide) ?_
  refine sw_idiv O (xx_dt dd_X14_ask 9 rfl) (by first | decide | assumption) ?_
  have hx15 := trivial
  rw [nI_half (by omega)]
  refine sw_iconst (x := 1) O (xx_dt dd_X14_ask 10 rfl) (by decide) ?_
  refine sw_isub O (xx_dt dd_X14_ask 11 rfl) ?_
  refine sw_callSx (as := [.int x, .int 0, .int ((nI C) - 1)]) (st := []) (st2 := [.int (bZ (n_bt x 0 ((nI C) - 1)))]) O (ct_X14_is hl) ce_X14_is ml_X14_70 st_X14_is (xx_dt dd_X14_ask 12 rfl) (by decide) rfl rfl (Nat.le_of_ble_eq_true rfl) rfl ?_
  refine sw_if_neB (tgt := 30) O (xx_dt dd_X14_ask 13 rfl) (by decide) (fun q1 => ?_) (fun q1 => ?_)
  · have hc21 := ((sub1_lt (R := C) (by omega)).mp q1)
    refine sw_lsE (ls2 := [.ref 5000, .int (nI (cn x)), .int y]) (by rw [← hc21.1]) ?_
    have hd21 := hc21.2
    refine sw_iload_n O (xx_dt dd_X14_ask 18 rfl) rfl ?_
    refine sw_iconst (x := 1) O (xx_dt dd_X14_ask 19 rfl) (by decide) ?_
    refine sw_sipush (x := 9999) O (xx_dt dd_X14_ask 20 rfl) (by decide) ?_
    refine sw_callSx (as := [.int y, .int 1, .int 9999]) (st := []) (st2 := [.int (bZ (n_bt y 1 9999))]) O (ct_X14_is hl) ce_X14_is ml_X14_70 st_X14_is (xx_dt dd_X14_ask 21 rfl) (by decide) rfl rfl (Nat.le_of_ble_eq_true rfl) rfl ?_
    refine sw_if_neB (tgt := 47) O (xx_dt dd_X14_ask 22 rfl) (by decide) (fun q2 => ?_) (fun q2 => ?_)
    · have hx20 : cn x < C := by omega
      refine sw_aload_n O (xx_dt dd_X14_ask 27 rfl) rfl ?_
      refine sw_get (v := .ref 5004) O (xx_dt dd_X14_ask 28 rfl) cl_X14 fl_X14_33 (lm_mod (σ := u2 σ 5000 0 0)) (by decide) rfl ?_
      refine sw_iconst (x := 2) O (xx_dt dd_X14_ask 29 rfl) (by decide) ?_
      refine sw_iload_n O (xx_dt dd_X14_ask 30 rfl) rfl ?_
      refine sw_imul O (xx_dt dd_X14_ask 31 rfl) ?_
      have hx53 := trivial
      rw [nI_dbl]
      refine sw_iconst (x := 1) O (xx_dt dd_X14_ask 32 rfl) (by decide) ?_
      refine sw_iadd O (xx_dt dd_X14_ask 33 rfl) ?_
      rw [nI_a1 (2 * (cn x))]
      refine sw_iload_n O (xx_dt dd_X14_ask 34 rfl) rfl ?_
      refine sw_callSx (k := 0) (n := 0) (k' := 1) (n' := 1) (as := [.int y]) (st := [.int (nI (2 * (cn x) + 1)), .ref 5004]) (st2 := [.ref (xx_box y (nmT (u2 σ 5000 0 0) (2 * (cn x) + 1))), .int (nI (2 * (cn x) + 1)), .ref 5004]) O (ct_val hl (z := z) (σ := u2 σ 5000 0 0) hbs (v := y) (e := nmT (u2 σ 5000 0 0) (2 * (cn x) + 1)) (noq_tint (σ := u2 σ 5000 0 0) (k := 2 * (cn x) + 1) (by omega) _) (hfr (nmT (u2 σ 5000 0 0) (2 * (cn x) + 1)) (by have h9 := nmT_r (σ := u2 σ 5000 0 0) (2 * (cn x) + 1); omega) (by have h9 := nmT_r (σ := u2 σ 5000 0 0) (2 * (cn x) + 1); omega)) (by have h9 := nmT_r (σ := u2 σ 5000 0 0) (2 * (cn x) + 1); omega)) ce_J6_valueOf_2dffe ml_X14_206 st_J6_valueOf_2dffe (xx_dt dd_X14_ask 35 rfl) (by decide) rfl rfl (Nat.le_of_ble_eq_true rfl) rfl ?_
      have hbs0 := hbs
      have hbs := bs_box (v := y) (e := nmT (u2 σ 5000 0 0) (2 * (cn x) + 1)) hbs (by have h9 := nmT_r (σ := u2 σ 5000 0 0) (2 * (cn x) + 1); omega) (by have h9 := nmT_r (σ := u2 σ 5000 0 0) (2 * (cn x) + 1); omega) (by have h9 := nmT_r (σ := u2 σ 5000 0 0) (2 * (cn x) + 1); omega)
      obtain ⟨f0, hz0⟩ := hbs.1
      refine sw_callVL (k := 0) (n := 0) (k' := 0) (n' := 0) (ci := 6) (as := [.int (nI (2 * (cn x) + 1)), .ref (xx_box y (nmT (u2 σ 5000 0 0) (2 * (cn x) + 1)))]) (st := []) (st2 := [.ref (xx_box ((u2 σ 5000 0 0) 5004 (2 * (cn x) + 1)) (nmS (u2 σ 5000 0 0) (2 * (cn x) + 1)))]) O (ct_AL_set hl (lm_5004 (z := z) (σ := u2 σ 5000 0 0) (h := boxH h y (nmT (u2 σ 5000 0 0) (2 * (cn x) + 1))) (S := 2 * C) hS (by omega)) (e := 19990) ((setM_no2 hbs).1) (by omega) (by omega) (setM_out0 hz0) (i := 2 * (cn x) + 1) (x := xx_box ((u2 σ 5000 0 0) 5004 (2 * (cn x) + 1)) (nmS (u2 σ 5000 0 0) (2 * (cn x) + 1))) (by omega) (by omega) rfl (ob_box hbs0 (noq_tint (σ := u2 σ 5000 0 0) (k := 2 * (cn x) + 1) (by omega) _))) ce_Jx4a65c_set_bcc79 ml_X14_261 iv_Jx4a65c_set_bcc79 cl_Jx4a65c rfl (lm_5004 (z := z) (σ := u2 σ 5000 0 0) (h := boxH h y (nmT (u2 σ 5000 0 0) (2 * (cn x) + 1))) (S := 2 * C) hS (by omega)) (xx_dt dd_X14_ask 36 rfl) (by decide) rfl rfl (Nat.le_of_ble_eq_true rfl) rfl ?_
      refine sw_boxT (σ := u2 σ 5000 0 0) (k := 2 * (cn x) + 1) hfr hS (by omega) (by omega) ?_
      refine sw_castO O (xx_dt dd_X14_ask 37 rfl) cl_J6 (lm_old (z := z) (σ := u2 σ 5000 0 0) (k := 2 * (cn x) + 1) (v := y) hbs0 (by omega)) cw_X14_113 ?_
      refine sw_callVx (as := []) (st := []) (st2 := [.int ((u2 σ 5000 0 0) 5004 (2 * (cn x) + 1))]) O (ct_intValue hl (lm_old (z := z) (σ := u2 σ 5000 0 0) (k := 2 * (cn x) + 1) (v := y) hbs0 (by omega)) rfl) ce_J6_intValue_8abf5 ml_X14_265 iv_J6_intValue_8abf5 cl_J6 rfl (lm_old (z := z) (σ := u2 σ 5000 0 0) (k := 2 * (cn x) + 1) (v := y) hbs0 (by omega)) (xx_dt dd_X14_ask 38 rfl) (by decide) rfl rfl (Nat.le_of_ble_eq_true rfl) rfl ?_
      exact sw_iret O (xx_dt dd_X14_ask 39 rfl) rfl rfl (by rw [hQ]; exact ⟨by unfold f_Mask; simp only [if_pos q1, if_pos q2], by unfold g_Mask k_Mask; simp only [if_pos q1, if_pos q2]⟩)
    · refine sw_aload_n O (xx_dt dd_X14_ask 23 rfl) rfl ?_
      refine sw_iconst (x := 2) O (xx_dt dd_X14_ask 24 rfl) (by decide) ?_
      refine sw_callVx (as := [.int 2]) (st := []) (st2 := [.int 0]) O (ct_X14_refuse hl (z := z) (σ := u2 σ 5000 0 0) hbs (x := 2)) ce_X14_refuse ml_X14_74 iv_X14_refuse cl_X14 rfl (lm_mod (σ := u2 σ 5000 0 0)) (xx_dt dd_X14_ask 25 rfl) (by decide) rfl rfl (Nat.le_of_ble_eq_true rfl) rfl ?_
      exact sw_iret O (xx_dt dd_X14_ask 26 rfl) rfl rfl (by rw [hQ]; exact ⟨by unfold f_Mask; simp only [if_pos q1, if_neg q2], by unfold g_Mask k_Mask; simp only [if_pos q1, if_neg q2]⟩)
  · refine sw_aload_n O (xx_dt dd_X14_ask 14 rfl) rfl ?_
    refine sw_iconst (x := 1) O (xx_dt dd_X14_ask 15 rfl) (by decide) ?_
    refine sw_callVx (as := [.int 1]) (st := []) (st2 := [.int 0]) O (ct_X14_refuse hl (z := z) (σ := u2 σ 5000 0 0) hbs (x := 1)) ce_X14_refuse ml_X14_74 iv_X14_refuse cl_X14 rfl (lm_mod (σ := u2 σ 5000 0 0)) (xx_dt dd_X14_ask 16 rfl) (by decide) rfl rfl (Nat.le_of_ble_eq_true rfl) rfl ?_
    exact sw_iret O (xx_dt dd_X14_ask 17 rfl) rfl rfl (by rw [hQ]; exact ⟨by unfold f_Mask; simp only [if_neg q1], by unfold g_Mask k_Mask; simp only [if_neg q1]⟩)
end
section
/-! ===== the reference: channel ===== -/
theorem fr_MisFits {σ : XS9} {x : Int32} {j c C : Nat} {rg : Nat → Nat} {qa ch q : Nat} (h : q ≠ qa ∧ ch ≤ 6) : g_MisFits σ x j c C rg qa ch q = σ q := by
  unfold g_MisFits
  split
  · rfl
  · rw [u2_ne h.1, fr_Mcp h, u2_ne h.1]
theorem fl_MisFits {σ : XS9} {x : Int32} {j c C : Nat} {rg : Nat → Nat} {qa ch : Nat} (h : ch ≤ 6) (hc : c < 20) : g_MisFits σ x j c C rg qa ch qa 20 = σ qa 20 ∧ g_MisFits σ x j c C rg qa ch qa 21 = σ qa 21 := by
  unfold g_MisFits
  split
  · exact ⟨rfl, rfl⟩
  · exact ⟨by rw [u2_oi (by omega), (fl_Mcp h).1, u2_oi (by omega)], by rw [u2_oi (by omega), (fl_Mcp h).2, u2_oi (by omega)]⟩
theorem bt_pos {v hi : Int32} (h : n_bt v 1 hi) (e : v = nI (cn v)) (b : cn v < 1000) : 1 ≤ cn v := by
  have t := h.1
  rw [e] at t
  exact (nI_leI (a := 1) (b := cn v) (by omega) (by omega)).mp t
def x_Mchannel_104 (x y : Int32) (C : Nat) (rg : Nat → Nat) (i83 : Nat) (s0 : XS9 × Nat) : XS9 × Nat := xitB (fun i104 s104 => (if (f_MisFits s104.1 (nI (cn x)) i83 s104.2 C rg 20000 (cn y)) = 0 then .inl (g_MisFits s104.1 (nI (cn x)) i83 s104.2 C rg 20000 (cn y), s104.2 + 1) else .inr (g_MisFits s104.1 (nI (cn x)) i83 s104.2 C rg 20000 (cn y), s104.2))) (cn y) 0 s0
def x_Mchannel_83 (x y v : Int32) (C : Nat) (rg : Nat → Nat) (s0 : XS9) : XS9 ⊕ (XS9 × Int32) := xitR (fun i83 s83 => (if (((nI (cn x)) >>> ((nI i83) &&& 31)) &&& 1) = 0 then .inl s83 else (if (nI i83) = (nI (cn v)) then .inr (u2 (u2 ((x_Mchannel_104 x y C rg i83 (s83, 0)).1) 20000 ((x_Mchannel_104 x y C rg i83 (s83, 0)).2) ((((x_Mchannel_104 x y C rg i83 (s83, 0)).1) 20000 ((x_Mchannel_104 x y C rg i83 (s83, 0)).2)) ||| (1 <<< ((nI i83) &&& 31)))) 20000 20 0, nI ((x_Mchannel_104 x y C rg i83 (s83, 0)).2)) else .inl (u2 ((x_Mchannel_104 x y C rg i83 (s83, 0)).1) 20000 ((x_Mchannel_104 x y C rg i83 (s83, 0)).2) ((((x_Mchannel_104 x y C rg i83 (s83, 0)).1) 20000 ((x_Mchannel_104 x y C rg i83 (s83, 0)).2)) ||| (1 <<< ((nI i83) &&& 31))))))) (cn v + 1) 0 s0
theorem in_Mchan {x y : Int32} {C : Nat} {rg : Nat → Nat} {i83 : Nat} {s : XS9} (h1 : 1 ≤ cn y) (h6 : cn y ≤ 6) (f1 : s 20000 20 = nI 1) (f2 : s 20000 21 = nI (cn y)) : (x_Mchannel_104 x y C rg i83 (s, 0)).1 20000 20 = nI 1 ∧ (x_Mchannel_104 x y C rg i83 (s, 0)).1 20000 21 = nI (cn y) ∧ (∀ q, q ≠ 20000 → (x_Mchannel_104 x y C rg i83 (s, 0)).1 q = s q) ∧ (x_Mchannel_104 x y C rg i83 (s, 0)).2 ≤ cn y := by
  unfold x_Mchannel_104
  have H : ∀ f i (t : XS9 × Nat), i + f = cn y → t.1 20000 20 = nI 1 ∧ t.1 20000 21 = nI (cn y) ∧ (∀ q, q ≠ 20000 → t.1 q = s q) ∧ t.2 ≤ i → (xitB (fun i104 s104 => (if (f_MisFits s104.1 (nI (cn x)) i83 s104.2 C rg 20000 (cn y)) = 0 then .inl (g_MisFits s104.1 (nI (cn x)) i83 s104.2 C rg 20000 (cn y), s104.2 + 1) else .inr (g_MisFits s104.1 (nI (cn x)) i83 s104.2 C rg 20000 (cn y), s104.2)) : Nat → XS9 × Nat → (XS9 × Nat) ⊕ (XS9 × Nat)) f i t).1 20000 20 = nI 1 ∧ (xitB (fun i104 s104 => (if (f_MisFits s104.1 (nI (cn x)) i83 s104.2 C rg 20000 (cn y)) = 0 then .inl (g_MisFits s104.1 (nI (cn x)) i83 s104.2 C rg 20000 (cn y), s104.2 + 1) else .inr (g_MisFits s104.1 (nI (cn x)) i83 s104.2 C rg 20000 (cn y), s104.2)) : Nat → XS9 × Nat → (XS9 × Nat) ⊕ (XS9 × Nat)) f i t).1 20000 21 = nI (cn y) ∧ (∀ q, q ≠ 20000 → (xitB (fun i104 s104 => (if (f_MisFits s104.1 (nI (cn x)) i83 s104.2 C rg 20000 (cn y)) = 0 then .inl (g_MisFits s104.1 (nI (cn x)) i83 s104.2 C rg 20000 (cn y), s104.2 + 1) else .inr (g_MisFits s104.1 (nI (cn x)) i83 s104.2 C rg 20000 (cn y), s104.2)) : Nat → XS9 × Nat → (XS9 × Nat) ⊕ (XS9 × Nat)) f i t).1 q = s q) ∧ (xitB (fun i104 s104 => (if (f_MisFits s104.1 (nI (cn x)) i83 s104.2 C rg 20000 (cn y)) = 0 then .inl (g_MisFits s104.1 (nI (cn x)) i83 s104.2 C rg 20000 (cn y), s104.2 + 1) else .inr (g_MisFits s104.1 (nI (cn x)) i83 s104.2 C rg 20000 (cn y), s104.2)) : Nat → XS9 × Nat → (XS9 × Nat) ⊕ (XS9 × Nat)) f i t).2 ≤ cn y := by
    intro f
    induction f with
    | zero => exact fun i t e h => ⟨h.1, h.2.1, h.2.2.1, by have := h.2.2.2; show t.2 ≤ cn y; omega⟩
    | succ f ih =>
      intro i t e h
      have h9 := h.2.2.2
      unfold xitB
      by_cases q : f_MisFits t.1 (nI (cn x)) i83 t.2 C rg 20000 (cn y) = 0
      · (try simp only [if_pos q])
        exact ih (i + 1) _ (by omega) ⟨(fl_MisFits (by omega) (by omega)).1.trans h.1, (fl_MisFits (by omega) (by omega)).2.trans h.2.1, fun q hq => (fr_MisFits ⟨hq, by omega⟩).trans (h.2.2.1 q hq), by show t.2 + 1 ≤ i + 1; omega⟩
      · (try simp only [if_neg q])
        exact ⟨(fl_MisFits (by omega) (by omega)).1.trans h.1, (fl_MisFits (by omega) (by omega)).2.trans h.2.1, fun q hq => (fr_MisFits ⟨hq, by omega⟩).trans (h.2.2.1 q hq), by show t.2 ≤ cn y; omega⟩
  exact H (cn y) 0 (s, 0) (by omega) ⟨f1, f2, fun _ _ => rfl, by show 0 ≤ 0; omega⟩
def s_Mchan (x y v : Int32) (C : Nat) (rg : Nat → Nat) : Nat → XS9 → XS9 ⊕ (XS9 × Int32) := fun i83 s83 => (if (((nI (cn x)) >>> ((nI i83) &&& 31)) &&& 1) = 0 then .inl s83 else (if (nI i83) = (nI (cn v)) then .inr (u2 (u2 ((x_Mchannel_104 x y C rg i83 (s83, 0)).1) 20000 ((x_Mchannel_104 x y C rg i83 (s83, 0)).2) ((((x_Mchannel_104 x y C rg i83 (s83, 0)).1) 20000 ((x_Mchannel_104 x y C rg i83 (s83, 0)).2)) ||| (1 <<< ((nI i83) &&& 31)))) 20000 20 0, nI ((x_Mchannel_104 x y C rg i83 (s83, 0)).2)) else .inl (u2 ((x_Mchannel_104 x y C rg i83 (s83, 0)).1) 20000 ((x_Mchannel_104 x y C rg i83 (s83, 0)).2) ((((x_Mchannel_104 x y C rg i83 (s83, 0)).1) 20000 ((x_Mchannel_104 x y C rg i83 (s83, 0)).2)) ||| (1 <<< ((nI i83) &&& 31))))))
def f_Mchannel (σ : XS9) (x y v : Int32) (R C : Nat) (rg : Nat → Nat) : Int32 := (if n_bt v 0 ((nI C) - 1) then (if n_lt x (2 ^ C) then (if n_bt y 1 6 then (if (((nI (cn x)) >>> ((nI (cn v)) &&& 31)) &&& 1) = 0 then (-1) else (if (f_Mcp (uR (u2 σ 5000 0 0) 20000 (rowN (cn y))) (nI (cn x)) 0 C rg 20000 (cn y)) = 0 then (-1) else (match (x_Mchannel_83 x y v C rg (g_Mcp (uR (u2 σ 5000 0 0) 20000 (rowN (cn y))) (nI (cn x)) 0 C rg 20000 (cn y))) with | .inl s83 => (-1) | .inr r83 => r83.2))) else 0) else 0) else 0)
def g_Mchannel (σ : XS9) (x y v : Int32) (R C : Nat) (rg : Nat → Nat) : XS9 := (if n_bt v 0 ((nI C) - 1) then (if n_lt x (2 ^ C) then (if n_bt y 1 6 then (if (((nI (cn x)) >>> ((nI (cn v)) &&& 31)) &&& 1) = 0 then u2 (uR (u2 σ 5000 0 0) 20000 (rowN (cn y))) 20000 20 0 else (if (f_Mcp (uR (u2 σ 5000 0 0) 20000 (rowN (cn y))) (nI (cn x)) 0 C rg 20000 (cn y)) = 0 then u2 (g_Mcp (uR (u2 σ 5000 0 0) 20000 (rowN (cn y))) (nI (cn x)) 0 C rg 20000 (cn y)) 20000 20 0 else (match (x_Mchannel_83 x y v C rg (g_Mcp (uR (u2 σ 5000 0 0) 20000 (rowN (cn y))) (nI (cn x)) 0 C rg 20000 (cn y))) with | .inl s83 => u2 s83 20000 20 0 | .inr r83 => r83.1))) else u2 (u2 σ 5000 0 0) 5000 0 2) else u2 (u2 σ 5000 0 0) 5000 0 2) else u2 (u2 σ 5000 0 0) 5000 0 1)
theorem ct_X14_channel {l : Launch} {h : XH} (hl : l.stackTraces = false) {z : Int64} {σ : XS9} (hbs : xx_bs h) (hfr : ∀ r, 5000 ≤ r → r < 20010 → h r = none) (hme : mem_eq σ σ) {R : Nat} (hR : σ 5001 900 = nI R) (hR5 : R ≤ 5) {C : Nat} (hS : σ 5004 900 = nI (2 * C)) (hC10 : C ≤ 10) {rg : Nat → Nat} (hrg : ∀ q, q < C → σ 5004 (2 * q) = nI (rg q) ∧ rg q < R) {x y v : Int32} {PI : Nat → XS9 → Prop} {PJ : Nat → Nat → XS9 → Prop} (hPI0 : n_bt v 0 ((nI C) - 1) → n_lt x (2 ^ C) → n_bt y 1 6 → ¬ f_Mcp (uR (u2 σ 5000 0 0) 20000 (rowN (cn y))) (nI (cn x)) 0 C rg 20000 (cn y) = 0 → ¬ ((nI (cn x)) >>> ((nI (cn v)) &&& 31)) &&& 1 = 0 → PI 0 (g_Mcp (uR (u2 σ 5000 0 0) 20000 (rowN (cn y))) (nI (cn x)) 0 C rg 20000 (cn y))) (hPI : ∀ i s s', i < cn v + 1 → PI i s → s_Mchan x y v C rg i s = .inl s' → PI (i + 1) s') (hPJ0 : ∀ i s, i < cn v + 1 → PI i s → ¬ ((nI (cn x)) >>> ((nI i) &&& 31)) &&& 1 = 0 → PJ i 0 s) (hPJ1 : ∀ i c s, PJ i c s → c < cn y → f_MisFits s (nI (cn x)) i c C rg 20000 (cn y) = 0 → PJ i (c + 1) (g_MisFits s (nI (cn x)) i c C rg 20000 (cn y))) (hPJe : ∀ i s, ¬ PJ i (cn y) s)  : XEx l m_X14_channel 19 1 6 [.ref 5000, .int x, .int y, .int v] (setM z σ h) (some (.int (f_Mchannel σ x y v R C rg))) (setM z (g_Mchannel σ x y v R C rg) h) := by
  refine XMet.of hl rfl rfl (Nat.le_of_ble_eq_true rfl) (fun Y O hh hQ => ?_)
  refine sw_cls (fun hcl => ?_)
  show SW Y 1 6 (setM z σ h) 0 [.ref 5000, .int x, .int y, .int v, xx_d, xx_d, xx_d] []
  refine sw_aload_n O (xx_dt dd_X14_channel 0 rfl) rfl ?_
  refine sw_iconst (x := 0) O (xx_dt dd_X14_channel 1 rfl) (by decide) ?_
  refine sw_put (h2 := setM z (u2 σ 5000 0 0) h) O (xx_dt dd_X14_channel 2 rfl) cl_X14 fl_X14_46 (lm_mod (σ := σ)) (by decide) (by omega) rfl (fun _ => ⟨rfl, rfl⟩) (pm_mod (σ := σ) (by omega)) ?_
  refine sw_iload_n O (xx_dt dd_X14_channel 3 rfl) rfl ?_
  refine sw_iconst (x := 0) O (xx_dt dd_X14_channel 4 rfl) (by decide) ?_
  refine sw_aload_n O (xx_dt dd_X14_channel 5 rfl) rfl ?_
  refine sw_get (v := .ref 5004) O (xx_dt dd_X14_channel 6 rfl) cl_X14 fl_X14_33 (lm_mod (σ := u2 σ 5000 0 0)) (by decide) rfl ?_
  refine sw_callVL (ci := 6) (as := []) (st := [.int 0, .int v]) (st2 := [.int (nI (2 * C)), .int 0, .int v]) O (ct_AL_size hl (lm_5004 (σ := u2 σ 5000 0 0) (S := 2 * C) hS (by omega))) ce_Jx4a65c_size_8abf5 ml_X14_57 iv_Jx4a65c_size_8abf5 cl_Jx4a65c rfl (lm_5004 (σ := u2 σ 5000 0 0) (S := 2 * C) hS (by omega)) (xx_dt dd_X14_channel 7 rfl) (by omega) rfl rfl (Nat.le_of_ble_eq_true rfl) rfl ?_
  refine sw_iconst (x := 2) O (xx_dt dd_X14_channel 8 rfl) (by decide) ?_
  refine sw_idiv O (xx_dt dd_X14_channel 9 rfl) (by first | decide | assumption) ?_
  have hx15 := trivial
  rw [nI_half (by omega)]
  refine sw_iconst (x := 1) O (xx_dt dd_X14_channel 10 rfl) (by decide) ?_
  refine sw_isub O (xx_dt dd_X14_channel 11 rfl) ?_
  refine sw_callSx (as := [.int v, .int 0, .int ((nI C) - 1)]) (st := []) (st2 := [.int (bZ (n_bt v 0 ((nI C) - 1)))]) O (ct_X14_is hl) ce_X14_is ml_X14_70 st_X14_is (xx_dt dd_X14_channel 12 rfl) (by omega) rfl rfl (Nat.le_of_ble_eq_true rfl) rfl ?_
  refine sw_if_neB (tgt := 30) O (xx_dt dd_X14_channel 13 rfl) (by decide) (fun q1 => ?_) (fun q1 => ?_)
  · have hc21 := ((sub1_lt (R := C) (by omega)).mp q1)
    refine sw_lsE (ls2 := [.ref 5000, .int x, .int y, .int (nI (cn v)), xx_d, xx_d, xx_d]) (by rw [← hc21.1]) ?_
    have hd21 := hc21.2
    refine sw_aload_n O (xx_dt dd_X14_channel 18 rfl) rfl ?_
    refine sw_iload_n O (xx_dt dd_X14_channel 19 rfl) rfl ?_
    refine sw_callVx (as := [.int x]) (st := []) (st2 := [.int (bZ (n_lt x (2 ^ C)))]) O (ct_X14_areStations hl (z := z) (σ := u2 σ 5000 0 0) hbs (C := C) hS hC10 (x := x)) ce_X14_areStations ml_X14_279 iv_X14_areStations cl_X14 rfl (lm_mod (σ := u2 σ 5000 0 0)) (xx_dt dd_X14_channel 20 rfl) (by omega) rfl rfl (Nat.le_of_ble_eq_true rfl) rfl ?_
    refine sw_if_eqB (tgt := 48) O (xx_dt dd_X14_channel 21 rfl) (by decide) (fun q2 => ?_) (fun q2 => ?_)
    · refine sw_aload_n O (xx_dt dd_X14_channel 27 rfl) rfl ?_
      refine sw_iconst (x := 2) O (xx_dt dd_X14_channel 28 rfl) (by decide) ?_
      refine sw_callVx (as := [.int 2]) (st := []) (st2 := [.int 0]) O (ct_X14_refuse hl (z := z) (σ := u2 σ 5000 0 0) hbs (x := 2)) ce_X14_refuse ml_X14_74 iv_X14_refuse cl_X14 rfl (lm_mod (σ := u2 σ 5000 0 0)) (xx_dt dd_X14_channel 29 rfl) (by omega) rfl rfl (Nat.le_of_ble_eq_true rfl) rfl ?_
      exact sw_iret O (xx_dt dd_X14_channel 30 rfl) rfl rfl (by rw [hQ]; exact ⟨by unfold f_Mchannel; simp only [if_pos q1, if_neg q2], by unfold g_Mchannel; simp only [if_pos q1, if_neg q2]⟩)
    · have hc35 := q2
      refine sw_lsE (ls2 := [.ref 5000, .int (nI (cn x)), .int y, .int (nI (cn v)), xx_d, xx_d, xx_d]) (by rw [← hc35.1]) ?_
      have hd35 := hc35.2
      refine sw_iload_n O (xx_dt dd_X14_channel 22 rfl) rfl ?_
      refine sw_iconst (x := 1) O (xx_dt dd_X14_channel 23 rfl) (by decide) ?_
      refine sw_bipush (x := 6) O (xx_dt dd_X14_channel 24 rfl) (by decide) ?_
      refine sw_callSx (as := [.int y, .int 1, .int 6]) (st := []) (st2 := [.int (bZ (n_bt y 1 6))]) O (ct_X14_is hl) ce_X14_is ml_X14_70 st_X14_is (xx_dt dd_X14_channel 25 rfl) (by omega) rfl rfl (Nat.le_of_ble_eq_true rfl) rfl ?_
      refine sw_if_neB (tgt := 54) O (xx_dt dd_X14_channel 26 rfl) (by decide) (fun q3 => ?_) (fun q3 => ?_)
      · have hc45 := (bt_nat 6 q3 (by decide) rfl (by decide))
        refine sw_lsE (ls2 := [.ref 5000, .int (nI (cn x)), .int (nI (cn y)), .int (nI (cn v)), xx_d, xx_d, xx_d]) (by rw [← hc45.1]) ?_
        have hd45 := hc45.2
        have hy1 : 1 ≤ cn y := bt_pos q3 hc45.1 (by omega)
        refine sw_iload_n O (xx_dt dd_X14_channel 31 rfl) rfl ?_
        refine xx_wid (k' := 0 + 1) (n' := 0 + (cn y)) (by omega) (by omega) (sw_newarray (k := 0) (n := 0) (t := 100) (N := cn y) (r := 20000) O (xx_dt dd_X14_channel 32 rfl) ⟨⟨by omega, by omega⟩, rfl⟩ ac_int (by first | decide | (have h9 := xx_nlt0 (cn y) (by omega); exact h9)) (by first | rfl | exact nI_clamp (by omega)) (by show (cn y) * 4 ≤ _; omega) ((setM_tn (z := z) (σ := u2 σ 5000 0 0) (q := 20000) (by omega) (hme.2.2 20000 (by omega) (by omega)).2).trans (hfr 20000 (by omega) (by omega))) (by omega) ?_)
        rw [xx_blk_up]
        refine sw_alter (F2 := fun k => .int (rowN (cn y) k)) (xx_up_eq _ _ _) (fun j9 hj9 => (rowN_lt (by omega)).symm) ?_
        rw [xx_up_up]
        rw [new_tmp (σ := u2 σ 5000 0 0) (q := 20000) (n := cn y) (by omega) (by omega)]
        refine sw_astore (ls2 := [.ref 5000, .int (nI (cn x)), .int (nI (cn y)), .int (nI (cn v)), .ref 20000, xx_d, xx_d]) O (xx_dt dd_X14_channel 33 rfl) (by decide) rfl ?_
        refine sw_iload_n O (xx_dt dd_X14_channel 34 rfl) rfl ?_
        refine sw_iload_n O (xx_dt dd_X14_channel 35 rfl) rfl ?_
        refine sw_ishr O (xx_dt dd_X14_channel 36 rfl) ?_
        refine sw_iconst (x := 1) O (xx_dt dd_X14_channel 37 rfl) (by decide) ?_
        refine sw_iand O (xx_dt dd_X14_channel 38 rfl) ?_
        refine sw_if_eq (tgt := 78) O (xx_dt dd_X14_channel 39 rfl) (by decide) (fun q4 => ?_) (fun q4 => ?_)
        · refine sw_iconst (x := (-1)) O (xx_dt dd_X14_channel 46 rfl) (by decide) ?_
          have me9 : mem_eq σ (u2 (uR (u2 σ 5000 0 0) 20000 (rowN (cn y))) 20000 20 0) := (mem_eq.frame (τ0 := u2 σ 5000 0 0) (mem_eq.int (r := 5000) (i := 0) (x := 0) hme rfl) (fun q h1 h2 h3 => by simp (disch := omega) only [u2_ne, uR_ne, fr_Cinit, fr_Cpay1, fr_Cpay2, fr_Mcp]) (by (simp (disch := omega) only [u2_ne, uR_ne, fr_Cinit, fr_Cpay1, fr_Cpay2, fr_Mcp]); exact hme.2.1.1.1) (fun q h1 h2 => by by_cases e0 : q = 20000; (subst e0; rfl); ((simp (disch := omega) only [u2_ne, uR_ne, fr_Cinit, fr_Cpay1, fr_Cpay2, fr_Mcp]; exact (hme.2.2 q h1 h2).1))))
          exact sw_iretD (h' := setM z (u2 (uR (u2 σ 5000 0 0) 20000 (rowN (cn y))) 20000 20 0) h) O (xx_dt dd_X14_channel 47 rfl) rfl rfl (dropT (by omega) hfr) (me9.cls hcl) (by rw [hh]; exact fun r hr => me9.dom hr) (by rw [hQ]; exact ⟨by unfold f_Mchannel; simp only [if_pos q1, if_pos q2, if_pos q3, if_pos q4], by unfold g_Mchannel; simp only [if_pos q1, if_pos q2, if_pos q3, if_pos q4]⟩)
        · refine sw_aload_n O (xx_dt dd_X14_channel 40 rfl) rfl ?_
          refine sw_iload_n O (xx_dt dd_X14_channel 41 rfl) rfl ?_
          refine sw_iconst (x := 0) O (xx_dt dd_X14_channel 42 rfl) (by decide) ?_
          refine sw_aload O (xx_dt dd_X14_channel 43 rfl) rfl ?_
          refine sw_callVx (as := [.int (nI (cn x)), .int 0, .ref 20000]) (st := []) (st2 := [.int (f_Mcp (uR (u2 σ 5000 0 0) 20000 (rowN (cn y))) (nI (cn x)) 0 C rg 20000 (cn y))]) O (ct_X14_canPack hl (z := z) (σ := uR (u2 σ 5000 0 0) 20000 (rowN (cn y))) hbs (R := R) hR (by omega) (C := C) hS (by omega) (rg := rg) hrg (qa := 20000) (ch := cn y) (by omega) tmp20 tmp21 (by omega) (x := nI (cn x)) (fr := 0) (by omega)) ce_X14_canPack ml_X14_272 iv_X14_canPack cl_X14 rfl (lm_mod (σ := uR (u2 σ 5000 0 0) 20000 (rowN (cn y)))) (xx_dt dd_X14_channel 44 rfl) (by omega) rfl rfl (Nat.le_of_ble_eq_true rfl) rfl ?_
          refine sw_if_ne (tgt := 80) O (xx_dt dd_X14_channel 45 rfl) (by decide) (fun q5 => ?_) (fun q5 => ?_)
          · refine sw_iconst (x := 0) O (xx_dt dd_X14_channel 48 rfl) (by decide) ?_
            refine sw_istore (ls2 := [.ref 5000, .int (nI (cn x)), .int (nI (cn y)), .int (nI (cn v)), .ref 20000, .int 0, xx_d]) O (xx_dt dd_X14_channel 49 rfl) (by decide) rfl ?_
            refine sw_forR (S := XS9) (R := (XS9 × Int32)) (fun i83 s83 => (if (((nI (cn x)) >>> ((nI i83) &&& 31)) &&& 1) = 0 then .inl s83 else (if (nI i83) = (nI (cn v)) then .inr (u2 (u2 ((x_Mchannel_104 x y C rg i83 (s83, 0)).1) 20000 ((x_Mchannel_104 x y C rg i83 (s83, 0)).2) ((((x_Mchannel_104 x y C rg i83 (s83, 0)).1) 20000 ((x_Mchannel_104 x y C rg i83 (s83, 0)).2)) ||| (1 <<< ((nI i83) &&& 31)))) 20000 20 0, nI ((x_Mchannel_104 x y C rg i83 (s83, 0)).2)) else .inl (u2 ((x_Mchannel_104 x y C rg i83 (s83, 0)).1) 20000 ((x_Mchannel_104 x y C rg i83 (s83, 0)).2) ((((x_Mchannel_104 x y C rg i83 (s83, 0)).1) 20000 ((x_Mchannel_104 x y C rg i83 (s83, 0)).2)) ||| (1 <<< ((nI i83) &&& 31))))))) (fun i s => s 20000 20 = nI 1 ∧ s 20000 21 = nI (cn y) ∧ (∀ q, q ≠ 20000 → s q = (g_Mcp (uR (u2 σ 5000 0 0) 20000 (rowN (cn y))) (nI (cn x)) 0 C rg 20000 (cn y)) q) ∧ PI i s) (FR := fun r9 => f_Mchannel σ x y v R C rg = r9.2 ∧ g_Mchannel σ x y v R C rg = r9.1) (hp := fun s83 => setM z s83 h) (hd := 83) (lc := fun i83 s83 => [.ref 5000, .int (nI (cn x)), .int (nI (cn y)), .int (nI (cn v)), .ref 20000, .int (nI i83), xx_d]) (N := (cn v + 1)) (fun i83 s83 hi83 hP83 => ⟨(by intro s' e'; refine ⟨?_, ?_, ?_, hPI _ _ _ hi83 hP83.2.2.2 e'⟩ <;> (revert e'; (try dsimp only); (repeat' split) <;> intro e' <;> first | (cases e'; done) | (have e9 := Sum.inl.inj e'; subst e9; first | exact hP83.1 | exact hP83.2.1 | exact hP83.2.2.1 | (have hz := in_Mchan (i83 := i83) (x := x) (C := C) (rg := rg) (by omega) (by omega) hP83.1 hP83.2.1; first | (rw [u2_oi (by omega)]; first | exact hz.1 | exact hz.2.1) | (intro q hq; rw [u2_ne hq]; exact (hz.2.2.1 q hq).trans (hP83.2.2.1 q hq)))))), fun kk83 kr83 => ?_⟩) (cn v + 1) 0 (g_Mcp (uR (u2 σ 5000 0 0) 20000 (rowN (cn y))) (nI (cn x)) 0 C rg 20000 (cn y)) (by omega) (⟨(fl_Mcp (by omega)).1.trans tmp20, (fl_Mcp (by omega)).2.trans tmp21, fun _ _ => rfl, hPI0 q1 q2 q3 (by assumption) (by assumption)⟩) (fun sN83 eN83 hP83 => ?_) (fun r83 eN83 => ?_)
            · refine sw_iload O (xx_dt dd_X14_channel 50 rfl) rfl ?_
              refine sw_iload_n O (xx_dt dd_X14_channel 51 rfl) rfl ?_
              refine sw_icmp_gt (tgt := 151) O (xx_dt dd_X14_channel 52 rfl) (by decide) (fun q6 => ?_) (fun q6 => ?_)
              · exact absurd ((nI_ltI (a := (cn v)) (b := i83) (by omega) (by omega)).mp q6) (by omega)
              · refine sw_iload_n O (xx_dt dd_X14_channel 53 rfl) rfl ?_
                refine sw_iload O (xx_dt dd_X14_channel 54 rfl) rfl ?_
                refine sw_ishr O (xx_dt dd_X14_channel 55 rfl) ?_
                refine sw_iconst (x := 1) O (xx_dt dd_X14_channel 56 rfl) (by decide) ?_
                refine sw_iand O (xx_dt dd_X14_channel 57 rfl) ?_
                refine sw_if_ne (tgt := 101) O (xx_dt dd_X14_channel 58 rfl) (by decide) (fun q7 => ?_) (fun q7 => ?_)
                · refine sw_iconst (x := 0) O (xx_dt dd_X14_channel 60 rfl) (by decide) ?_
                  refine sw_istore (ls2 := [.ref 5000, .int (nI (cn x)), .int (nI (cn y)), .int (nI (cn v)), .ref 20000, .int (nI i83), .int 0]) O (xx_dt dd_X14_channel 61 rfl) (by decide) rfl ?_
                  refine sw_forB (S := XS9 × Nat) (fun i104 s104 => (if (f_MisFits s104.1 (nI (cn x)) i83 s104.2 C rg 20000 (cn y)) = 0 then .inl (g_MisFits s104.1 (nI (cn x)) i83 s104.2 C rg 20000 (cn y), s104.2 + 1) else .inr (g_MisFits s104.1 (nI (cn x)) i83 s104.2 C rg 20000 (cn y), s104.2))) (fun i s => s.1 20000 20 = nI 1 ∧ s.1 20000 21 = nI (cn y) ∧ (∀ q, q ≠ 20000 → s.1 q = s83 q) ∧ s.2 = i ∧ PJ i83 i s.1) (fun s => s.1 20000 20 = nI 1 ∧ s.1 20000 21 = nI (cn y) ∧ (∀ q, q ≠ 20000 → s.1 q = s83 q) ∧ s.2 < cn y) (hp := fun s104 => setM z s104.1 h) (hd := 104) (lc := fun i104 s104 => [.ref 5000, .int (nI (cn x)), .int (nI (cn y)), .int (nI (cn v)), .ref 20000, .int (nI i83), .int (nI (s104.2))]) (ex := 124) (lx := fun s104 => [.ref 5000, .int (nI (cn x)), .int (nI (cn y)), .int (nI (cn v)), .ref 20000, .int (nI i83), .int (nI (s104.2))]) (N := (cn y)) (fun i104 s104 hi104 hP104 => ⟨(have h9 : s104.2 = i104 := hP104.2.2.2.1; ⟨(by intro s' e'; revert e'; (try dsimp only); (repeat' split) <;> intro e' <;> first | (cases e'; done) | (have e9 := Sum.inl.inj e'; subst e9; refine ⟨(fl_MisFits (by omega) (by omega)).1.trans hP104.1, (fl_MisFits (by omega) (by omega)).2.trans hP104.2.1, fun q hq => (fr_MisFits ⟨hq, by omega⟩).trans (hP104.2.2.1 q hq), ?_, ?_⟩; (show s104.2 + 1 = i104 + 1; omega); (show PJ i83 (i104 + 1) (g_MisFits s104.1 (nI (cn x)) i83 s104.2 C rg 20000 (cn y)); rw [h9]; exact hPJ1 _ _ _ hP104.2.2.2.2 (by omega) (by rw [← h9]; assumption)))), (by intro s' e'; revert e'; (try dsimp only); (repeat' split) <;> intro e' <;> first | (cases e'; done) | (have e9 := Sum.inr.inj e'; subst e9; refine ⟨(fl_MisFits (by omega) (by omega)).1.trans hP104.1, (fl_MisFits (by omega) (by omega)).2.trans hP104.2.1, fun q hq => (fr_MisFits ⟨hq, by omega⟩).trans (hP104.2.2.1 q hq), ?_⟩; (show s104.2 < cn y; omega)))⟩), fun kk104 kb104 => ?_⟩) (fun s104 hP104 => ⟨absurd hP104.2.2.2.2 (hPJe _ _), fun kx104 => ?_⟩) (cn y) 0 (s83, 0) (by omega) (⟨hP83.1, hP83.2.1, fun _ _ => rfl, rfl, hPJ0 _ _ hi83 hP83.2.2.2 (by assumption)⟩) (fun hP104 => ?_)
                  · refine sw_aload_n O (xx_dt dd_X14_channel 62 rfl) rfl ?_
                    refine sw_iload_n O (xx_dt dd_X14_channel 63 rfl) rfl ?_
                    refine sw_iload O (xx_dt dd_X14_channel 64 rfl) rfl ?_
                    refine sw_iload O (xx_dt dd_X14_channel 65 rfl) rfl ?_
                    refine sw_aload O (xx_dt dd_X14_channel 66 rfl) rfl ?_
                    refine sw_callVx (as := [.int (nI (cn x)), .int (nI i83), .int (nI (s104.2)), .ref 20000]) (st := []) (st2 := [.int (f_MisFits s104.1 (nI (cn x)) i83 s104.2 C rg 20000 (cn y))]) O (ct_X14_isFits hl (z := z) (σ := s104.1) hbs (R := R) ((((congrFun (hP104.2.2.1 _ (by omega)) 900).trans (congrFun (hP83.2.2.1 _ (by omega)) 900)).trans (congrFun (fr_Mcp ⟨by omega, by omega⟩) 900)).trans hR) (by omega) (C := C) ((((congrFun (hP104.2.2.1 _ (by omega)) 900).trans (congrFun (hP83.2.2.1 _ (by omega)) 900)).trans (congrFun (fr_Mcp ⟨by omega, by omega⟩) 900)).trans hS) (by omega) (rg := rg) (fun j9 hj9 => by rw [show s104.1 5004 = σ 5004 from (((hP104.2.2.1 _ (by omega)).trans (hP83.2.2.1 _ (by omega))).trans (fr_Mcp ⟨by omega, by omega⟩))]; exact hrg j9 hj9) (qa := 20000) (ch := cn y) (by omega) hP104.1 hP104.2.1 (by omega) (x := nI (cn x)) (j := i83) (by omega) (c := s104.2) (by omega)) ce_X14_isFits ml_X14_282 iv_X14_isFits cl_X14 rfl (lm_mod (σ := s104.1)) (xx_dt dd_X14_channel 67 rfl) (by omega) rfl rfl (Nat.le_of_ble_eq_true rfl) rfl ?_
                    have h9 : s104.2 = i104 := hP104.2.2.2.1
                    refine sw_if_ne (tgt := 124) O (xx_dt dd_X14_channel 68 rfl) (by decide) (fun q9 => ?_) (fun q9 => ?_)
                    · exact kb104 (g_MisFits s104.1 (nI (cn x)) i83 s104.2 C rg 20000 (cn y), s104.2) (by simp only [if_neg q9])
                    · refine sw_iinc (y := nI (s104.2 + 1)) (ls2 := [.ref 5000, .int (nI (cn x)), .int (nI (cn y)), .int (nI (cn v)), .ref 20000, .int (nI i83), .int (nI (s104.2 + 1))]) O (xx_dt dd_X14_channel 69 rfl) rfl (nI_1 _) (by decide) rfl ?_
                      refine sw_goto (tgt := 104) O (xx_dt dd_X14_channel 70 rfl) (by decide) ?_
                      exact kk104 (g_MisFits s104.1 (nI (cn x)) i83 s104.2 C rg 20000 (cn y), s104.2 + 1) (by simp only [if_pos q9])
                  · exact absurd hP104.2.2.2.2 (hPJe _ _)
                  · show SW Y _ _ (setM z ((x_Mchannel_104 x y C rg i83 (s83, 0)).1) h) 124 [.ref 5000, .int (nI (cn x)), .int (nI (cn y)), .int (nI (cn v)), .ref 20000, .int (nI i83), .int (nI ((x_Mchannel_104 x y C rg i83 (s83, 0)).2))] []
                    have hP104 : ((x_Mchannel_104 x y C rg i83 (s83, 0)).1) 20000 20 = nI 1 ∧ ((x_Mchannel_104 x y C rg i83 (s83, 0)).1) 20000 21 = nI (cn y) ∧ (∀ q, q ≠ 20000 → (x_Mchannel_104 x y C rg i83 (s83, 0)).1 q = s83 q) ∧ (x_Mchannel_104 x y C rg i83 (s83, 0)).2 < cn y := hP104
                    refine sw_aload O (xx_dt dd_X14_channel 71 rfl) rfl ?_
                    refine sw_iload O (xx_dt dd_X14_channel 72 rfl) rfl ?_
                    refine sw_dup2 O (xx_dt dd_X14_channel 73 rfl) rfl rfl ?_
                    refine sw_iaload (v := .int (((x_Mchannel_104 x y C rg i83 (s83, 0)).1) 20000 ((x_Mchannel_104 x y C rg i83 (s83, 0)).2))) O (xx_dt dd_X14_channel 74 rfl) ((lm_tmp (z := z) (σ := (x_Mchannel_104 x y C rg i83 (s83, 0)).1) (h := h) (q := 20000) (by omega) (fl1 hP104.1) hP104.2.1 (by omega)).get _) (pk_in ((x_Mchannel_104 x y C rg i83 (s83, 0)).2) _ (by omega)) (by rw [nI_clamp (by omega)]; try exact rfl) ?_
                    refine sw_iconst (x := 1) O (xx_dt dd_X14_channel 75 rfl) (by decide) ?_
                    refine sw_iload O (xx_dt dd_X14_channel 76 rfl) rfl ?_
                    refine sw_ishl O (xx_dt dd_X14_channel 77 rfl) ?_
                    refine sw_ior O (xx_dt dd_X14_channel 78 rfl) ?_
                    refine sw_iastore (h2 := setM z (u2 ((x_Mchannel_104 x y C rg i83 (s83, 0)).1) 20000 ((x_Mchannel_104 x y C rg i83 (s83, 0)).2) ((((x_Mchannel_104 x y C rg i83 (s83, 0)).1) 20000 ((x_Mchannel_104 x y C rg i83 (s83, 0)).2)) ||| (1 <<< ((nI i83) &&& 31)))) h) O (xx_dt dd_X14_channel 79 rfl) ((lm_tmp (z := z) (σ := (x_Mchannel_104 x y C rg i83 (s83, 0)).1) (h := h) (q := 20000) (by omega) (fl1 hP104.1) hP104.2.1 (by omega)).get _) (pk_in ((x_Mchannel_104 x y C rg i83 (s83, 0)).2) _ (by omega)) (by omega) (by rw [nI_clamp (by omega)]; exact ((lm_tmp (z := z) (σ := (x_Mchannel_104 x y C rg i83 (s83, 0)).1) (h := h) (q := 20000) (by omega) (fl1 hP104.1) hP104.2.1 (by omega)).put (by omega))) ?_
                    refine sw_iload O (xx_dt dd_X14_channel 80 rfl) rfl ?_
                    refine sw_iload_n O (xx_dt dd_X14_channel 81 rfl) rfl ?_
                    refine sw_icmp_ne (tgt := 145) O (xx_dt dd_X14_channel 82 rfl) (by decide) (fun q10 => ?_) (fun q10 => ?_)
                    · refine sw_iinc (y := nI (i83 + 1)) (ls2 := [.ref 5000, .int (nI (cn x)), .int (nI (cn y)), .int (nI (cn v)), .ref 20000, .int (nI (i83 + 1)), .int (nI ((x_Mchannel_104 x y C rg i83 (s83, 0)).2))]) O (xx_dt dd_X14_channel 85 rfl) rfl (nI_1 _) (by decide) rfl ?_
                      refine sw_goto (tgt := 83) O (xx_dt dd_X14_channel 86 rfl) (by decide) ?_
                      refine sw_dum (ls2 := [.ref 5000, .int (nI (cn x)), .int (nI (cn y)), .int (nI (cn v)), .ref 20000, .int (nI (i83 + 1)), xx_d]) ⟨.inr rfl, .inr rfl, .inr rfl, .inr rfl, .inr rfl, .inr rfl, .inl rfl, trivial⟩ ?_
                      exact kk83 (u2 ((x_Mchannel_104 x y C rg i83 (s83, 0)).1) 20000 ((x_Mchannel_104 x y C rg i83 (s83, 0)).2) ((((x_Mchannel_104 x y C rg i83 (s83, 0)).1) 20000 ((x_Mchannel_104 x y C rg i83 (s83, 0)).2)) ||| (1 <<< ((nI i83) &&& 31)))) (by simp only [if_neg q7, if_neg q10])
                    · refine sw_iload O (xx_dt dd_X14_channel 83 rfl) rfl ?_
                      have kz := kr83 (u2 (u2 ((x_Mchannel_104 x y C rg i83 (s83, 0)).1) 20000 ((x_Mchannel_104 x y C rg i83 (s83, 0)).2) ((((x_Mchannel_104 x y C rg i83 (s83, 0)).1) 20000 ((x_Mchannel_104 x y C rg i83 (s83, 0)).2)) ||| (1 <<< ((nI i83) &&& 31)))) 20000 20 0, nI ((x_Mchannel_104 x y C rg i83 (s83, 0)).2)) (by simp only [if_neg q7, if_pos q10])
                      have me9 : mem_eq σ (u2 (u2 ((x_Mchannel_104 x y C rg i83 (s83, 0)).1) 20000 ((x_Mchannel_104 x y C rg i83 (s83, 0)).2) ((((x_Mchannel_104 x y C rg i83 (s83, 0)).1) 20000 ((x_Mchannel_104 x y C rg i83 (s83, 0)).2)) ||| (1 <<< ((nI i83) &&& 31)))) 20000 20 0) := (mem_eq.frame (τ0 := u2 σ 5000 0 0) (mem_eq.int (r := 5000) (i := 0) (x := 0) hme rfl) (fun q h1 h2 h3 => by simp (disch := omega) only [u2_ne, uR_ne, fr_Cinit, fr_Cpay1, fr_Cpay2, fr_Mcp, hP104.2.2.1, hP83.2.2.1]) (by (simp (disch := omega) only [u2_ne, uR_ne, fr_Cinit, fr_Cpay1, fr_Cpay2, fr_Mcp, hP104.2.2.1, hP83.2.2.1]); exact hme.2.1.1.1) (fun q h1 h2 => by by_cases e0 : q = 20000; (subst e0; rfl); ((simp (disch := omega) only [u2_ne, uR_ne, fr_Cinit, fr_Cpay1, fr_Cpay2, fr_Mcp, hP104.2.2.1, hP83.2.2.1]; exact (hme.2.2 q h1 h2).1))))
                      exact sw_iretD (h' := setM z (u2 (u2 ((x_Mchannel_104 x y C rg i83 (s83, 0)).1) 20000 ((x_Mchannel_104 x y C rg i83 (s83, 0)).2) ((((x_Mchannel_104 x y C rg i83 (s83, 0)).1) 20000 ((x_Mchannel_104 x y C rg i83 (s83, 0)).2)) ||| (1 <<< ((nI i83) &&& 31)))) 20000 20 0) h) O (xx_dt dd_X14_channel 84 rfl) rfl rfl (dropT (by omega) hfr) (me9.cls hcl) (by rw [hh]; exact fun r hr => me9.dom hr) (by rw [hQ]; exact ⟨by rw [kz.1], by rw [kz.2]⟩)
                · refine sw_goto (tgt := 145) O (xx_dt dd_X14_channel 59 rfl) (by decide) ?_
                  refine sw_iinc (y := nI (i83 + 1)) (ls2 := [.ref 5000, .int (nI (cn x)), .int (nI (cn y)), .int (nI (cn v)), .ref 20000, .int (nI (i83 + 1)), xx_d]) O (xx_dt dd_X14_channel 85 rfl) rfl (nI_1 _) (by decide) rfl ?_
                  refine sw_goto (tgt := 83) O (xx_dt dd_X14_channel 86 rfl) (by decide) ?_
                  exact kk83 s83 (by simp only [if_pos q7])
            · show SW Y _ _ (setM z sN83 h) 83 [.ref 5000, .int (nI (cn x)), .int (nI (cn y)), .int (nI (cn v)), .ref 20000, .int (nI ((cn v + 1))), xx_d] []
              refine sw_iload O (xx_dt dd_X14_channel 50 rfl) rfl ?_
              refine sw_iload_n O (xx_dt dd_X14_channel 51 rfl) rfl ?_
              refine sw_icmp_gt (tgt := 151) O (xx_dt dd_X14_channel 52 rfl) (by decide) (fun q6 => ?_) (fun q6 => ?_)
              · refine sw_iconst (x := (-1)) O (xx_dt dd_X14_channel 87 rfl) (by decide) ?_
                have me9 : mem_eq σ (u2 sN83 20000 20 0) := (mem_eq.frame (τ0 := u2 σ 5000 0 0) (mem_eq.int (r := 5000) (i := 0) (x := 0) hme rfl) (fun q h1 h2 h3 => by simp (disch := omega) only [u2_ne, uR_ne, fr_Cinit, fr_Cpay1, fr_Cpay2, fr_Mcp, hP83.2.2.1]) (by (simp (disch := omega) only [u2_ne, uR_ne, fr_Cinit, fr_Cpay1, fr_Cpay2, fr_Mcp, hP83.2.2.1]); exact hme.2.1.1.1) (fun q h1 h2 => by by_cases e0 : q = 20000; (subst e0; rfl); ((simp (disch := omega) only [u2_ne, uR_ne, fr_Cinit, fr_Cpay1, fr_Cpay2, fr_Mcp, hP83.2.2.1]; exact (hme.2.2 q h1 h2).1))))
                exact sw_iretD (h' := setM z (u2 sN83 20000 20 0) h) O (xx_dt dd_X14_channel 88 rfl) rfl rfl (dropT (by omega) hfr) (me9.cls hcl) (by rw [hh]; exact fun r hr => me9.dom hr) (by rw [hQ]; exact ⟨by unfold f_Mchannel; simp only [if_pos q1, if_pos q2, if_pos q3, if_neg q4, if_neg q5, x_Mchannel_83, eN83], by unfold g_Mchannel; simp only [if_pos q1, if_pos q2, if_pos q3, if_neg q4, if_neg q5, x_Mchannel_83, eN83]⟩)
              · exact absurd (nI_lt (a := (cn v)) (b := (cn v + 1)) (by omega) (by omega)) q6
            · exact ⟨by unfold f_Mchannel; simp only [if_pos q1, if_pos q2, if_pos q3, if_neg q4, if_neg q5, x_Mchannel_83, eN83], by unfold g_Mchannel; simp only [if_pos q1, if_pos q2, if_pos q3, if_neg q4, if_neg q5, x_Mchannel_83, eN83]⟩
          · refine sw_iconst (x := (-1)) O (xx_dt dd_X14_channel 46 rfl) (by decide) ?_
            have me9 : mem_eq σ (u2 (g_Mcp (uR (u2 σ 5000 0 0) 20000 (rowN (cn y))) (nI (cn x)) 0 C rg 20000 (cn y)) 20000 20 0) := (mem_eq.frame (τ0 := u2 σ 5000 0 0) (mem_eq.int (r := 5000) (i := 0) (x := 0) hme rfl) (fun q h1 h2 h3 => by simp (disch := omega) only [u2_ne, uR_ne, fr_Cinit, fr_Cpay1, fr_Cpay2, fr_Mcp]) (by (simp (disch := omega) only [u2_ne, uR_ne, fr_Cinit, fr_Cpay1, fr_Cpay2, fr_Mcp]); exact hme.2.1.1.1) (fun q h1 h2 => by by_cases e0 : q = 20000; (subst e0; rfl); ((simp (disch := omega) only [u2_ne, uR_ne, fr_Cinit, fr_Cpay1, fr_Cpay2, fr_Mcp]; exact (hme.2.2 q h1 h2).1))))
            exact sw_iretD (h' := setM z (u2 (g_Mcp (uR (u2 σ 5000 0 0) 20000 (rowN (cn y))) (nI (cn x)) 0 C rg 20000 (cn y)) 20000 20 0) h) O (xx_dt dd_X14_channel 47 rfl) rfl rfl (dropT (by omega) hfr) (me9.cls hcl) (by rw [hh]; exact fun r hr => me9.dom hr) (by rw [hQ]; exact ⟨by unfold f_Mchannel; simp only [if_pos q1, if_pos q2, if_pos q3, if_neg q4, if_pos q5], by unfold g_Mchannel; simp only [if_pos q1, if_pos q2, if_pos q3, if_neg q4, if_pos q5]⟩)
      · refine sw_aload_n O (xx_dt dd_X14_channel 27 rfl) rfl ?_
        refine sw_iconst (x := 2) O (xx_dt dd_X14_channel 28 rfl) (by decide) ?_
        refine sw_callVx (as := [.int 2]) (st := []) (st2 := [.int 0]) O (ct_X14_refuse hl (z := z) (σ := u2 σ 5000 0 0) hbs (x := 2)) ce_X14_refuse ml_X14_74 iv_X14_refuse cl_X14 rfl (lm_mod (σ := u2 σ 5000 0 0)) (xx_dt dd_X14_channel 29 rfl) (by omega) rfl rfl (Nat.le_of_ble_eq_true rfl) rfl ?_
        exact sw_iret O (xx_dt dd_X14_channel 30 rfl) rfl rfl (by rw [hQ]; exact ⟨by unfold f_Mchannel; simp only [if_pos q1, if_pos q2, if_neg q3], by unfold g_Mchannel; simp only [if_pos q1, if_pos q2, if_neg q3]⟩)
  · refine sw_aload_n O (xx_dt dd_X14_channel 14 rfl) rfl ?_
    refine sw_iconst (x := 1) O (xx_dt dd_X14_channel 15 rfl) (by decide) ?_
    refine sw_callVx (as := [.int 1]) (st := []) (st2 := [.int 0]) O (ct_X14_refuse hl (z := z) (σ := u2 σ 5000 0 0) hbs (x := 1)) ce_X14_refuse ml_X14_74 iv_X14_refuse cl_X14 rfl (lm_mod (σ := u2 σ 5000 0 0)) (xx_dt dd_X14_channel 16 rfl) (by omega) rfl rfl (Nat.le_of_ble_eq_true rfl) rfl ?_
    exact sw_iret O (xx_dt dd_X14_channel 17 rfl) rfl rfl (by rw [hQ]; exact ⟨by unfold f_Mchannel; simp only [if_neg q1], by unfold g_Mchannel; simp only [if_neg q1]⟩)
end
section
/-! ===== texts of the machine's own, and append(String) ===== -/
section
variable {Y : XY} {M : XM} {l : Launch} {d k n : Nat} {h : XH} {pc : Nat} {ls st : List Value} {ρ : Nat → Nat} {ow : Nat → Option Nat} {H : Heap} {locs : List Loc} {cells slots : Nat} {lsA : Array Slot}
theorem sw_copyD {idx N0 N1 r0 r1 : Nat} {f g : Nat → Value} {dp n9 : Int32} (O : xx_O Y M l d) (K : xx_ac M.2.2.2.2.1 idx) (hd : decode M.2.1 pc = .ok (.invokestatic idx, 3)) (hc0 : h r0 = some (102, N0, f)) (hc1 : h r1 = some (102, N1, g)) (h9 : 1000 ≤ r1) (h2 : ¬ dp < 0) (h3 : ¬ n9 < 0) (h4 : n9.toNatClampNeg ≤ N0) (h5 : dp.toNatClampNeg + n9.toNatClampNeg ≤ N1)
    (hel : ∀ j, j < n9.toNatClampNeg → ∃ z : Int32, f j = .int z ∧ fits .byte (.int z) = true)
    (hdd : 1 ≤ d) (hw : (st.map fun v => v.category).sum + (nativeFrameWords "java/lang/System" "arraycopy" 5 + 11) ≤ 40) {h2' : XH} (he : xx_up h r1 (102, N1, va_cpy f g 0 dp.toNatClampNeg n9.toNatClampNeg) = h2') (kk : SW Y k n h2' (pc + 3) ls st) : SW Y k n h pc ls (.int n9 :: .int dp :: .ref r1 :: .int 0 :: .ref r0 :: st) := by
  subst he
  intro ρ ow H locs cells slots lsA r9
  have nn : ∀ z : Int32, ¬ z < 0 → z.toInt = (z.toNatClampNeg : Int) := by
    intro z hz
    have hz0 : (0 : Int) ≤ z.toInt := by
      have := Int32.not_lt.mp hz
      simpa using Int32.le_iff_toInt_le.mp this
    show z.toInt = ((z.toInt.toNat : Nat) : Int)
    omega
  have hcat : ((st.map (xx_v ρ)).map fun v => v.category).sum = (st.map fun v => v.category).sum := by
    rw [List.map_map]
    exact congrArg List.sum (List.map_congr_left fun v _ => xx_v_cat ρ v)
  obtain ⟨hK0, -⟩ := O.2.2.2.2.2.2.2.1.2.2 102 (by omega) (by omega)
  obtain ⟨cs, q0, a0, a1, a2, -, a4⟩ := r9.arrW O (by omega) (by omega) hc0
  obtain ⟨q1, -⟩ := r9.arr O (by omega) (by omega) hc1 h9
  generalize hcA : xd_A (xy_D Y) 102 = cA at hK0 q1
  obtain ⟨hns, k0, hk0, cm0, hkk0⟩ := a0
  obtain ⟨-, k1, hk1, cm1, hkk1⟩ := hK0 N1 (fun j => xx_v ρ (g j))
  have hgw := O.2.2.2.2.2.1
  intro T hT X
  obtain ⟨vm', X', step⟩ := X.arraycopy O.1 O.2.2.2.2.2.2.1 (hgw _ K.1) (hgw _ K.2.1) (hgw _ K.2.2.1) (hgw _ K.2.2.2) (src := ρ r0) (dst := ρ r1) (cs := cs) (cd := arrV cA N1 (fun j => xx_v ρ (g j))) (srcPos := 0) (destPos := dp) (n := n9) (by rw [hT]; exact q0) (by rw [hT]; exact q1)
    hns (fun _ h => by cases h) a1 (fun h => by cases h) hk0 hk1 hkk0 hkk1 (by simp [xx_aty, refKind]) (by decide) h2 h3
    (by rw [nn n9 h3, show (0 : Int32).toInt = 0 from rfl]; omega)
    (by rw [nn n9 h3, nn dp h2]; rw [arrV_size]; omega)
    (fun vm₁ hal i hi => by
      have e : cs.slots.getD ((0 : Int32).toNatClampNeg + i) .null = xx_v ρ (f i) := by
        rw [show (0 : Int32).toNatClampNeg + i = i from Nat.zero_add i, Array.getD_eq_getD_getElem?, a4 _ (by omega)]
        rfl
      rw [e]
      obtain ⟨z, e2, e3⟩ := hel i hi
      rw [e2]
      exact ⟨e3, trivial⟩)
    (g := F0 (xt_m Y.1) pc lsA (.int n9 :: .int dp :: .ref (ρ r1) :: .int 0 :: .ref (ρ r0) :: st.map (xx_v ρ))) rfl (by show lsA.size = _; exact r9.L.1) (rest := st.map (xx_v ρ)) rfl (by rw [O.2.1]; exact hd) (by exact Nat.le_trans hdd O.2.2.2.2.2.2.2.2.2.2.2.2.1) (by show 2 * 0 + _ + _ ≤ _; rw [hcat]; have h9 := O.2.2.2.2.2.2.2.2.2.2.2.2.2.1; omega)
  have e1 : copied cs (arrV cA N1 (fun j => xx_v ρ (g j))) 0 dp n9 = arrV cA N1 (fun j => xx_v ρ (va_cpy f g 0 dp.toNatClampNeg n9.toNatClampNeg j)) :=
    va_copiedX (fun z => xx_v ρ z) cs cA f g a4 (sp := (0 : Int32).toNatClampNeg) (dp := dp.toNatClampNeg) (n := n9.toNatClampNeg) (n0 := N0) (n1 := N1) (by show 0 + _ ≤ _; omega)
  rw [e1] at X' step
  have hl : ρ r1 < H.size := (Array.getElem?_eq_some_iff.mp q1).1
  generalize hnew : arrV cA N1 (fun j => xx_v ρ (va_cpy f g 0 dp.toNatClampNeg n9.toNatClampNeg j)) = cnew at X' step
  have hheap : ((T.setVm vm').setCell (ρ r1) cnew).heap = H.setIfInBounds (ρ r1) cnew := by rw [← hT]; rfl
  have oq : ∀ q : Nat, q ≠ ρ r1 → (H.setIfInBounds (ρ r1) cnew)[q]? = H[q]? := fun q hq => by simp [Array.getElem?_setIfInBounds, Ne.symm hq]
  have oe : (H.setIfInBounds (ρ r1) cnew)[ρ r1]? = some cnew := by simp [Array.getElem?_setIfInBounds, hl]
  obtain ⟨t, a1, b1⟩ := kk ρ ow _ _ cells slots lsA (r9.putL hc1 h9 (by simp) oq (fun q hq => by
      rcases List.mem_append.mp hq with h | h
      · exact .inl h
      · obtain ⟨z, -, hz⟩ := List.mem_map.mp h
        exact .inr (by rw [← hz])) (by
      refine xx_cell.mk h9 ?_
      unfold xx_newc
      rw [if_neg (by show ¬ 102 < 100; omega), if_pos (by show 102 < 200; omega), oe, ← hnew, ← hcA]) (fun j hj => by
      show xx_in h (va_cpy f g 0 dp.toNatClampNeg n9.toNatClampNeg j)
      unfold va_cpy
      split
      · rename_i q
        exact r9.1.2.2.2.2 r0 _ (0 + (j - dp.toNatClampNeg)) hc0 (show 0 + (j - dp.toNatClampNeg) < N0 by omega)
      · exact r9.1.2.2.2.2 r1 _ j hc1 hj) (xx_ht (xx_ht (xx_ht (xx_ht (xx_ht r9.stk)))))) _ hheap X'
  exact ⟨t, step t a1, b1⟩
theorem sw_ldcT {idx a : Nat} {tx : String} (O : xx_O Y M l d) (hd : decode M.2.1 pc = .ok (.ldc_w idx, 3)) (w : (M.2.2.2.2.1, idx, tx, a) ∈ xx_lits) {c : XC} (hc : h a = some c) (h1 : a < 1000) (kk : SW Y k n h (pc + 3) ls (.ref a :: st)) : SW Y k n h pc ls st := by
  intro ρ ow H locs cells slots lsA r9 T hT Xs
  have hZ := O.2.2.2.2.2.2.2.2.1.2.2.1 _ w
  have k1 := kk ρ ow H locs cells slots lsA (r9.to (xx_hc (a := .ref a) (by show (h a).isSome = true; rw [hc]; rfl) r9.stk))
  rw [show (Value.ref a :: st).map (xx_v ρ) = Value.ref (xd_E (xy_D Y) a) :: st.map (xx_v ρ) by rw [List.map_cons, ← xx_old r9 hc h1]; rfl] at k1
  obtain ⟨t, a1, b1⟩ := k1 T hT Xs
  exact ⟨t, Xs.ldcStringW O.1 O.2.2.2.2.2.2.1 hZ.1 hZ.2 (g := F0 (xt_m Y.1) pc lsA (st.map (xx_v ρ))) rfl (by rw [O.2.1]; exact hd) t a1, b1⟩
end
/-- a text: its object at t, its signs at u -/
def xx_tx (h : XH) (t u m : Nat) (F : Nat → Value) : Prop := (∃ f, h t = some (0, 4, f) ∧ f 0 = .ref u ∧ f 1 = .int 0) ∧ h u = some (102, m, F) ∧ (∀ j, j < m → ∃ z : Int32, F j = .int z ∧ fits .byte (.int z) = true) ∧ m ≤ 16
theorem xx_shr0 {m : Nat} (hm : m ≤ 16) : nI m >>> ((0 : Int32) &&& 31) = nI m := by
  have : ∀ a : Fin 17, nI a.1 >>> ((0 : Int32) &&& 31) = nI a.1 := by decide +kernel
  exact this ⟨m, by omega⟩
theorem xx_shl0 {m : Nat} (hm : m ≤ 16) : nI m <<< ((0 : Int32) &&& 31) = nI m := by
  have : ∀ a : Fin 17, nI a.1 <<< ((0 : Int32) &&& 31) = nI a.1 := by decide +kernel
  exact this ⟨m, by omega⟩
/-- signs behind signs -/
def apG (F G : Nat → Value) (c m : Nat) : Nat → Value := va_cpy F G 0 c m
theorem apG_lo {F G : Nat → Value} {c m j : Nat} (h : j < c) : apG F G c m j = G j := by unfold apG va_cpy; rw [if_neg (by omega)]
theorem apG_in {F G : Nat → Value} {c m j : Nat} (h : c ≤ j) (h2 : j < c + m) : apG F G c m j = F (j - c) := by unfold apG va_cpy; rw [if_pos (by omega), Nat.zero_add]
theorem apG_hi {F G : Nat → Value} {c m j : Nat} (h : c + m ≤ j) : apG F G c m j = G j := by unfold apG va_cpy; rw [if_neg (by omega)]
theorem tx_coder {l : Launch} {h : XH} (hl : l.stackTraces = false) {t u m : Nat} {F : Nat → Value} (ht : xx_tx h t u m F)  : XEx l m_J0_coder_7d493 0 0 0 [.ref t] (h) (some (.int 0)) (h) := by
  refine XMet.of hl rfl rfl (Nat.le_of_ble_eq_true rfl) (fun Y O hh hQ => ?_)
  obtain ⟨⟨f9, hf, hf0, hf1⟩, hu, hF, hm⟩ := ht
  show SW Y 0 0 (h) 0 [.ref t] []
  refine sw_gets (i := 0) (z := 1) O (xx_dt dd_J0_coder_7d493 0 rfl) rfl gs_J0_38 ?_
  refine sw_if_eq (tgt := 13) O (xx_dt dd_J0_coder_7d493 1 rfl) (by decide) (fun q => absurd q (by decide)) (fun _ => ?_)
  refine sw_aload_n O (xx_dt dd_J0_coder_7d493 2 rfl) rfl ?_
  refine sw_get (v := .int 0) O (xx_dt dd_J0_coder_7d493 3 rfl) cl_J0 fl_J0_15 hf (by decide) hf1 ?_
  refine sw_goto (tgt := 14) O (xx_dt dd_J0_coder_7d493 4 rfl) (by decide) ?_
  exact sw_iret O (xx_dt dd_J0_coder_7d493 6 rfl) rfl rfl (by rw [hQ]; exact ⟨rfl, rfl⟩)
theorem tx_length {l : Launch} {h : XH} (hl : l.stackTraces = false) {t u m : Nat} {F : Nat → Value} (ht : xx_tx h t u m F)  : XEx l m_J0_length_8abf5 1 0 0 [.ref t] (h) (some (.int (nI m))) (h) := by
  refine XMet.of hl rfl rfl (Nat.le_of_ble_eq_true rfl) (fun Y O hh hQ => ?_)
  have ht9 := ht
  obtain ⟨⟨f9, hf, hf0, hf1⟩, hu, hF, hm⟩ := ht
  show SW Y 0 0 (h) 0 [.ref t] []
  refine sw_aload_n O (xx_dt dd_J0_length_8abf5 0 rfl) rfl ?_
  refine sw_get (v := .ref u) O (xx_dt dd_J0_length_8abf5 1 rfl) cl_J0 fl_J0_9 hf (by decide) hf0 ?_
  refine sw_alen (t := 102) O (xx_dt dd_J0_length_8abf5 2 rfl) (by omega) (by omega) hu ?_
  refine sw_aload_n O (xx_dt dd_J0_length_8abf5 3 rfl) rfl ?_
  refine sw_callVx (as := []) (st := [.int (nI m)]) (st2 := [.int 0, .int (nI m)]) O (tx_coder hl ht9) ce_J0_coder_7d493 ml_J0_335 iv_J0_coder_7d493 cl_J0 rfl hf (xx_dt dd_J0_length_8abf5 4 rfl) (by decide) rfl rfl (Nat.le_of_ble_eq_true rfl) rfl ?_
  refine sw_ishr O (xx_dt dd_J0_length_8abf5 5 rfl) ?_
  rw [xx_shr0 hm]
  exact sw_iret O (xx_dt dd_J0_length_8abf5 6 rfl) rfl rfl (by rw [hQ]; exact ⟨rfl, rfl⟩)
theorem tx_getBytes {l : Launch} {h : XH} (hl : l.stackTraces = false) {t u m : Nat} {F : Nat → Value} (ht : xx_tx h t u m F) {v c : Nat} {G : Nat → Value} (hv : h v = some (102, 16, G)) (h9 : 1000 ≤ v) (hc : c + m ≤ 16)  : XEx l m_J0_getBytes_840e7 1 0 0 [.ref t, .ref v, .int (nI c), .int 0] (h) (none) (xx_up h v (102, 16, apG F G c m)) := by
  refine XMet.of hl rfl rfl (Nat.le_of_ble_eq_true rfl) (fun Y O hh hQ => ?_)
  have ht9 := ht
  obtain ⟨⟨f9, hf, hf0, hf1⟩, hu, hF, hm⟩ := ht
  show SW Y 0 0 (h) 0 [.ref t, .ref v, .int (nI c), .int 0] []
  refine sw_aload_n O (xx_dt dd_J0_getBytes_840e7 0 rfl) rfl ?_
  refine sw_callVx (as := []) (st := []) (st2 := [.int 0]) O (tx_coder hl ht9) ce_J0_coder_7d493 ml_J0_335 iv_J0_coder_7d493 cl_J0 rfl hf (xx_dt dd_J0_getBytes_840e7 1 rfl) (by decide) rfl rfl (Nat.le_of_ble_eq_true rfl) rfl ?_
  refine sw_iload_n O (xx_dt dd_J0_getBytes_840e7 2 rfl) rfl ?_
  refine sw_icmp_ne (tgt := 28) O (xx_dt dd_J0_getBytes_840e7 3 rfl) (by decide) (fun q => absurd rfl q) (fun _ => ?_)
  refine sw_aload_n O (xx_dt dd_J0_getBytes_840e7 4 rfl) rfl ?_
  refine sw_get (v := .ref u) O (xx_dt dd_J0_getBytes_840e7 5 rfl) cl_J0 fl_J0_9 hf (by decide) hf0 ?_
  refine sw_iconst (x := 0) O (xx_dt dd_J0_getBytes_840e7 6 rfl) (by decide) ?_
  refine sw_aload_n O (xx_dt dd_J0_getBytes_840e7 7 rfl) rfl ?_
  refine sw_iload_n O (xx_dt dd_J0_getBytes_840e7 8 rfl) rfl ?_
  refine sw_iload_n O (xx_dt dd_J0_getBytes_840e7 9 rfl) rfl ?_
  refine sw_ishl O (xx_dt dd_J0_getBytes_840e7 10 rfl) ?_
  rw [xx_shl0 (by omega)]
  refine sw_aload_n O (xx_dt dd_J0_getBytes_840e7 11 rfl) rfl ?_
  refine sw_get (v := .ref u) O (xx_dt dd_J0_getBytes_840e7 12 rfl) cl_J0 fl_J0_9 hf (by decide) hf0 ?_
  refine sw_alen (t := 102) O (xx_dt dd_J0_getBytes_840e7 13 rfl) (by omega) (by omega) hu ?_
  refine sw_copyD (h2' := xx_up h v (102, 16, apG F G c m)) O ay_J0_212 (xx_dt dd_J0_getBytes_840e7 14 rfl) hu hv h9 (xx_nlt0 c (by omega)) (xx_nlt0 m (by omega)) (by rw [nI_clamp (by omega)]; exact Nat.le_refl _) (by rw [nI_clamp (by omega), nI_clamp (by omega)]; omega) (fun j hj => hF j (by rw [nI_clamp (by omega)] at hj; exact hj)) (by omega) (by decide +kernel) (by rw [nI_clamp (by omega), nI_clamp (by omega)]; rfl) ?_
  refine sw_goto (tgt := 43) O (xx_dt dd_J0_getBytes_840e7 15 rfl) (by decide) ?_
  exact sw_ret O (xx_dt dd_J0_getBytes_840e7 25 rfl) rfl (by rw [hQ]; exact ⟨rfl, rfl⟩)
theorem sb_inflN {l : Launch} {h : XH} (hl : l.stackTraces = false) {r v c : Nat} {b : Int32} (hr : h r = some (1, 4, xx_sb v c b)) {t u m : Nat} {F : Nat → Value} (ht : xx_tx h t u m F)  : XEx l m_J5_inflateIfNeededFor_a7421 1 0 0 [.ref r, .ref t] (h) (none) (h) := by
  refine XMet.of hl rfl rfl (Nat.le_of_ble_eq_true rfl) (fun Y O hh hQ => ?_)
  have ht9 := ht
  obtain ⟨⟨f9, hf, hf0, hf1⟩, hu, hF, hm⟩ := ht
  show SW Y 0 0 (h) 0 [.ref r, .ref t] []
  refine sw_gets (i := 0) (z := 1) O (xx_dt dd_J5_inflateIfNeededFor_a7421 0 rfl) rfl gs_J5_18 ?_
  refine sw_if_eq (tgt := 21) O (xx_dt dd_J5_inflateIfNeededFor_a7421 1 rfl) (by decide) (fun q => absurd q (by decide)) (fun _ => ?_)
  refine sw_aload_n O (xx_dt dd_J5_inflateIfNeededFor_a7421 2 rfl) rfl ?_
  refine sw_get2 (v := .int 0) O (xx_dt dd_J5_inflateIfNeededFor_a7421 3 rfl) cl_J4 f2_J5_22 hr (by decide) rfl ?_
  refine sw_aload_n O (xx_dt dd_J5_inflateIfNeededFor_a7421 4 rfl) rfl ?_
  refine sw_callVx (as := []) (st := [.int 0]) (st2 := [.int 0, .int 0]) O (tx_coder hl ht9) ce_J0_coder_7d493 ml_J5_40 iv_J0_coder_7d493 cl_J0 rfl hf (xx_dt dd_J5_inflateIfNeededFor_a7421 5 rfl) (by decide) rfl rfl (Nat.le_of_ble_eq_true rfl) rfl ?_
  refine sw_icmp_eq (tgt := 21) O (xx_dt dd_J5_inflateIfNeededFor_a7421 6 rfl) (by decide) (fun _ => ?_) (fun q => absurd rfl q)
  exact sw_ret O (xx_dt dd_J5_inflateIfNeededFor_a7421 9 rfl) rfl (by rw [hQ]; exact ⟨rfl, rfl⟩)
theorem sb_putS {l : Launch} {h : XH} (hl : l.stackTraces = false) {r v c : Nat} {b : Int32} {G : Nat → Value} (hr : h r = some (1, 4, xx_sb v c b)) (hv : h v = some (102, 16, G)) (h1 : 1000 ≤ r) (h9 : 1000 ≤ v) (hrv : r ≠ v) {t u m : Nat} {F : Nat → Value} (ht : xx_tx h t u m F) (hc : c + m ≤ 16)  : XEx l m_J5_putStringAt_47b60 2 0 0 [.ref r, .int (nI c), .ref t] (h) (none) (xx_up h v (102, 16, apG F G c m)) := by
  refine XMet.of hl rfl rfl (Nat.le_of_ble_eq_true rfl) (fun Y O hh hQ => ?_)
  have ht9 := ht
  obtain ⟨⟨f9, hf, hf0, hf1⟩, hu, hF, hm⟩ := ht
  show SW Y 0 0 (h) 0 [.ref r, .int (nI c), .ref t] []
  refine sw_aload_n O (xx_dt dd_J5_putStringAt_47b60 0 rfl) rfl ?_
  refine sw_aload_n O (xx_dt dd_J5_putStringAt_47b60 1 rfl) rfl ?_
  refine sw_callWx (as := [.ref t]) (st := []) (st2 := []) O (sb_inflN hl hr ht9) ce_J5_inflateIfNeededFor_a7421 mk_J5_397 slc_J5_inflateIfNeededFor_a7421 cl_J4 (hr) (xx_dt dd_J5_putStringAt_47b60 2 rfl) (by decide) rfl rfl (Nat.le_of_ble_eq_true rfl) rfl ?_
  refine sw_aload_n O (xx_dt dd_J5_putStringAt_47b60 3 rfl) rfl ?_
  refine sw_aload_n O (xx_dt dd_J5_putStringAt_47b60 4 rfl) rfl ?_
  refine sw_get2 (v := .ref v) O (xx_dt dd_J5_putStringAt_47b60 5 rfl) cl_J4 f2_J5_15 hr (by decide) rfl ?_
  refine sw_iload_n O (xx_dt dd_J5_putStringAt_47b60 6 rfl) rfl ?_
  refine sw_aload_n O (xx_dt dd_J5_putStringAt_47b60 7 rfl) rfl ?_
  refine sw_get2 (v := .int 0) O (xx_dt dd_J5_putStringAt_47b60 8 rfl) cl_J4 f2_J5_22 hr (by decide) rfl ?_
  refine sw_callVx (as := [.ref v, .int (nI c), .int 0]) (st := []) (st2 := []) O (tx_getBytes hl ht9 hv h9 hc) ce_J0_getBytes_840e7 ml_J5_399 iv_J0_getBytes_840e7 cl_J0 rfl hf (xx_dt dd_J5_putStringAt_47b60 9 rfl) (by decide) rfl rfl (Nat.le_of_ble_eq_true rfl) rfl ?_
  exact sw_ret O (xx_dt dd_J5_putStringAt_47b60 10 rfl) rfl (by rw [hQ]; exact ⟨rfl, rfl⟩)
theorem sb_appendS5 {l : Launch} {h : XH} (hl : l.stackTraces = false) {r v c : Nat} {b : Int32} {G : Nat → Value} (hr : h r = some (1, 4, xx_sb v c b)) (hv : h v = some (102, 16, G)) (h1 : 1000 ≤ r) (h9 : 1000 ≤ v) (hrv : r ≠ v) {t u m : Nat} {F : Nat → Value} (ht : xx_tx h t u m F) (hc : c + m ≤ 16)  : XEx l m_J5_append_cf1ce 3 0 0 [.ref r, .ref t] (h) (some (.ref r)) (xx_up (xx_up h r (1, 4, xx_sb v (c + m) b)) v (102, 16, apG F G c m)) := by
  refine XMet.of hl rfl rfl (Nat.le_of_ble_eq_true rfl) (fun Y O hh hQ => ?_)
  have ht9 := ht
  obtain ⟨⟨f9, hf, hf0, hf1⟩, hu, hF, hm⟩ := ht
  show SW Y 0 0 (h) 0 [.ref r, .ref t, xx_d] []
  refine sw_aload_n O (xx_dt dd_J5_append_cf1ce 0 rfl) rfl ?_
  refine sw_ifnonnull (tgt := 9) O (xx_dt dd_J5_append_cf1ce 1 rfl) (by decide) ?_
  refine sw_aload_n O (xx_dt dd_J5_append_cf1ce 5 rfl) rfl ?_
  refine sw_callVx (as := []) (st := []) (st2 := [.int (nI m)]) O (tx_length hl ht9) ce_J0_length_8abf5 ml_J5_32 iv_J0_length_8abf5 cl_J0 rfl hf (xx_dt dd_J5_append_cf1ce 6 rfl) (by decide) rfl rfl (Nat.le_of_ble_eq_true rfl) rfl ?_
  refine sw_istore_n (ls2 := [.ref r, .ref t, .int (nI m)]) O (xx_dt dd_J5_append_cf1ce 7 rfl) (by decide) rfl ?_
  refine sw_aload_n O (xx_dt dd_J5_append_cf1ce 8 rfl) rfl ?_
  refine sw_aload_n O (xx_dt dd_J5_append_cf1ce 9 rfl) rfl ?_
  refine sw_get2 (v := .int (nI c)) O (xx_dt dd_J5_append_cf1ce 10 rfl) cl_J4 f2_J5_79 hr (by decide) rfl ?_
  refine sw_iload_n O (xx_dt dd_J5_append_cf1ce 11 rfl) rfl ?_
  refine sw_iadd O (xx_dt dd_J5_append_cf1ce 12 rfl) ?_
  rw [nI_plus]
  refine sw_callWx (as := [.int (nI (c + m))]) (st := []) (st2 := []) O (sb_ens hl hr hv (a := c + m) hc) ce_J5_ensureCapacityInternal_d00df mk_J5_100 slc_J5_ensureCapacityInternal_d00df cl_J4 (hr) (xx_dt dd_J5_append_cf1ce 13 rfl) (by decide) rfl rfl (Nat.le_of_ble_eq_true rfl) rfl ?_
  refine sw_aload_n O (xx_dt dd_J5_append_cf1ce 14 rfl) rfl ?_
  refine sw_aload_n O (xx_dt dd_J5_append_cf1ce 15 rfl) rfl ?_
  refine sw_get2 (v := .int (nI c)) O (xx_dt dd_J5_append_cf1ce 16 rfl) cl_J4 f2_J5_79 hr (by decide) rfl ?_
  refine sw_aload_n O (xx_dt dd_J5_append_cf1ce 17 rfl) rfl ?_
  refine sw_callWx (as := [.int (nI c), .ref t]) (st := []) (st2 := []) O (sb_putS hl hr hv h1 h9 hrv ht9 hc) ce_J5_putStringAt_47b60 mk_J5_208 slc_J5_putStringAt_47b60 cl_J4 (hr) (xx_dt dd_J5_append_cf1ce 18 rfl) (by decide) rfl rfl (Nat.le_of_ble_eq_true rfl) rfl ?_
  refine sw_aload_n O (xx_dt dd_J5_append_cf1ce 19 rfl) rfl ?_
  refine sw_dup O (xx_dt dd_J5_append_cf1ce 20 rfl) rfl ?_
  refine sw_get2 (v := .int (nI c)) O (xx_dt dd_J5_append_cf1ce 21 rfl) cl_J4 f2_J5_79 ((xx_up_ne hrv).trans hr) (by decide) rfl ?_
  refine sw_iload_n O (xx_dt dd_J5_append_cf1ce 22 rfl) rfl ?_
  refine sw_iadd O (xx_dt dd_J5_append_cf1ce 23 rfl) ?_
  rw [nI_plus]
  refine sw_put2 (h2 := xx_up (xx_up h r (1, 4, xx_sb v (c + m) b)) v (102, 16, apG F G c m)) O (xx_dt dd_J5_append_cf1ce 24 rfl) cl_J4 f2_J5_79 ((xx_up_ne hrv).trans hr) (by decide) h1 rfl (fun _ => ⟨rfl, rfl⟩) (by rw [xx_sb_c, xx_up_sw (Ne.symm hrv)]) ?_
  refine sw_aload_n O (xx_dt dd_J5_append_cf1ce 25 rfl) rfl ?_
  exact sw_aret O (xx_dt dd_J5_append_cf1ce 26 rfl) rfl (.inl ⟨_, rfl⟩) (by rw [hQ]; exact ⟨rfl, rfl⟩)
theorem sb_appendS {l : Launch} {h : XH} (hl : l.stackTraces = false) {r v c : Nat} {b : Int32} {G : Nat → Value} (hr : h r = some (1, 4, xx_sb v c b)) (hv : h v = some (102, 16, G)) (h1 : 1000 ≤ r) (h9 : 1000 ≤ v) (hrv : r ≠ v) {t u m : Nat} {F : Nat → Value} (ht : xx_tx h t u m F) (hc : c + m ≤ 16)  : XEx l m_J4_append_15ec4 4 0 0 [.ref r, .ref t] (h) (some (.ref r)) (xx_up (xx_up h r (1, 4, xx_sb v (c + m) b)) v (102, 16, apG F G c m)) := by
  refine XMet.of hl rfl rfl (Nat.le_of_ble_eq_true rfl) (fun Y O hh hQ => ?_)
  have ht9 := ht
  obtain ⟨⟨f9, hf, hf0, hf1⟩, hu, hF, hm⟩ := ht
  show SW Y 0 0 (h) 0 [.ref r, .ref t] []
  refine sw_aload_n O (xx_dt dd_J4_append_15ec4 0 rfl) rfl ?_
  refine sw_aload_n O (xx_dt dd_J4_append_15ec4 1 rfl) rfl ?_
  refine sw_callSUx (as := [.ref t]) (st := []) (st2 := [.ref r]) O (sb_appendS5 hl hr hv h1 h9 hrv ht9 hc) ce_J5_append_cf1ce su_J4_29 cl_J4 (hr) (xx_dt dd_J4_append_15ec4 2 rfl) (by decide) rfl rfl (Nat.le_of_ble_eq_true rfl) rfl ?_
  refine sw_pop O (xx_dt dd_J4_append_15ec4 3 rfl) rfl ?_
  refine sw_aload_n O (xx_dt dd_J4_append_15ec4 4 rfl) rfl ?_
  exact sw_aret O (xx_dt dd_J4_append_15ec4 5 rfl) rfl (.inl ⟨_, rfl⟩) (by rw [hQ]; exact ⟨rfl, rfl⟩)
end
