/-! ===== the reference: ask ===== -/
def nmT (σ : XS9) (k : Nat) : Nat := 10200 + 2 * k + (if σ 5004 (100 + k) = 0 then 1 else 0)
def g_setS (σ : XS9) (k : Nat) (v : Int32) : XS9 := u2 (u2 σ 5004 k v) 5004 (100 + k) (if σ 5004 (100 + k) = 0 then 1 else 0)
def boxK (h : XH) (v : Int32) (e : Nat) : XH := if xx_small v then h else xx_up h e (2, 1, fun _ => .int v)
theorem setS_ne {σ : XS9} {k q : Nat} {v : Int32} (h : q ≠ 5004) : g_setS σ k v q = σ q := by unfold g_setS; rw [u2_ne h, u2_ne h]
theorem setS_v {σ : XS9} {k : Nat} {v : Int32} : g_setS σ k v 5004 k = v := by unfold g_setS; rw [u2_oi (by omega), u2_at]
theorem setS_t {σ : XS9} {k : Nat} {v : Int32} : g_setS σ k v 5004 (100 + k) = if σ 5004 (100 + k) = 0 then 1 else 0 := u2_at
theorem setS_o {σ : XS9} {k j : Nat} {v : Int32} (h : j ≠ k) (h2 : j ≠ 100 + k) : g_setS σ k v 5004 j = σ 5004 j := by unfold g_setS; rw [u2_oi h2, u2_oi h]
theorem nmT_e {σ : XS9} {k : Nat} {v : Int32} : nmS (g_setS σ k v) k = nmT σ k := by
  unfold nmS nmT
  rw [setS_t]
  by_cases h : σ 5004 (100 + k) = 0
  · rw [if_pos h, if_pos h]; rfl
  · rw [if_neg h, if_neg h, if_pos rfl]
theorem nmT_o {σ : XS9} {k j : Nat} {v : Int32} (hk : k < 20) (hj : j < 20) (h : j ≠ k) : nmS (g_setS σ k v) j = nmS σ j := by
  unfold nmS
  rw [setS_o (by omega) (by omega)]
theorem nmT_r {σ : XS9} (k : Nat) : (nmT σ k - 10200) / 2 = k ∧ 10200 + 2 * k ≤ nmT σ k ∧ nmT σ k ≤ 10200 + 2 * k + 1 ∧ nmT σ k ≠ nmS σ k := by
  unfold nmT nmS
  split <;> omega
theorem noq_tint {z : Int64} {σ : XS9} {k : Nat} (hk : k < 20) (s : Nat → Int32) : lyQ z (ctl σ) (nmT σ k) s = none := by
  obtain ⟨q1, q2, q3, q4⟩ := nmT_r (σ := σ) k
  have q5 : nmS (ctl σ) k = nmS σ k := rfl
  unfold lyQ
  rw [if_neg (by omega), if_neg (by omega), if_neg (by omega), if_neg (by omega), if_neg (by omega), if_neg (by omega), if_neg (by omega), if_neg (by omega), if_neg (by omega), if_neg (by omega), if_neg (by omega), if_neg (by omega), if_neg (by omega), if_neg (by omega), if_neg (by omega), if_neg (by omega), if_neg (by omega), if_pos (by omega), q1, q5, if_neg (fun h => q4 h.2.1)]
theorem noq_uint {z : Int64} {σ : XS9} {k : Nat} {v : Int32} (hk : k < 20) (s : Nat → Int32) : lyQ z (ctl (g_setS σ k v)) (nmS σ k) s = none := by
  obtain ⟨q1, q2, q3⟩ := nmS_r (σ := σ) k
  have q5 : nmS (ctl (g_setS σ k v)) k = nmT σ k := nmT_e
  have q6 := (nmT_r (σ := σ) k).2.2.2
  unfold lyQ
  rw [if_neg (by omega), if_neg (by omega), if_neg (by omega), if_neg (by omega), if_neg (by omega), if_neg (by omega), if_neg (by omega), if_neg (by omega), if_neg (by omega), if_neg (by omega), if_neg (by omega), if_neg (by omega), if_neg (by omega), if_neg (by omega), if_neg (by omega), if_neg (by omega), if_neg (by omega), if_pos (by omega), q1, q5, if_neg (fun h => q6 h.2.1.symm)]
theorem lyQ_T {z : Int64} {C C' : XS9} {r k : Nat} {s : Nat → Int32} (h1 : ∀ q i, q ≠ 5004 → C q i = C' q i) (h3 : C 5004 900 = C' 5004 900) (h4 : ∀ j, j ≠ k → j ≠ 100 + k → j < 200 → C 5004 j = C' 5004 j) (hk : k < 20) (hr : r ≠ 5004 ∧ r ≠ 10200 + 2 * k ∧ r ≠ 10200 + 2 * k + 1) : lyQ z C r s = lyQ z C' r s := by
  have e1 : ∀ i, C 5001 i = C' 5001 i := fun i => h1 _ _ (by omega)
  have e2 : ∀ i, C 5002 i = C' 5002 i := fun i => h1 _ _ (by omega)
  have e3 : ∀ i, C 5003 i = C' 5003 i := fun i => h1 _ _ (by omega)
  have e7 : ∀ i, C 7000 i = C' 7000 i := fun i => h1 _ _ (by omega)
  have e8 : ∀ i, C 8000 i = C' 8000 i := fun i => h1 _ _ (by omega)
  have e9 : ∀ i, C 9000 i = C' 9000 i := fun i => h1 _ _ (by omega)
  have er : ∀ i, C r i = C' r i := fun i => h1 _ _ hr.1
  have ep : ∀ i, C (5030 + (r - 10000) / 20) i = C' (5030 + (r - 10000) / 20) i := fun i => h1 _ _ (by omega)
  unfold lyQ lyB
  by_cases u0 : r < 5010
  · rw [if_pos u0, if_pos u0]
    split <;> first | rfl | (exfalso; omega) | simp only [e1, e2, e3, e7]
  rw [if_neg u0, if_neg u0]
  by_cases u4 : r < 10200
  · simp only [e1, e2, e3, e7, e8, e9, er, ep, if_pos u4]
  by_cases u5 : r < 10300
  · simp only [if_neg (show ¬ r < 5020 by omega), if_neg (show ¬ r < 5030 by omega), if_neg (show ¬ r < 5040 by omega), if_neg (show ¬ r < 5200 by omega), if_neg (show ¬ r < 5300 by omega), if_neg (show ¬ r < 6000 by omega), if_neg (show ¬ r < 6100 by omega), if_neg (show ¬ r < 6200 by omega), if_neg (show ¬ r < 6300 by omega), if_neg (show ¬ r < 6400 by omega), if_neg (show ¬ r < 7000 by omega), if_neg (show ¬ r < 8000 by omega), if_neg (show ¬ r < 9000 by omega), if_neg (show ¬ r < 9010 by omega), if_neg (show ¬ r < 10000 by omega), if_neg u4, if_pos u5, h3]
    have n1 : nmS C ((r - 10200) / 2) = nmS C' ((r - 10200) / 2) := by unfold nmS; rw [h4 (100 + (r - 10200) / 2) (by omega) (by omega) (by omega)]
    rw [h4 _ (by omega) (by omega) (by omega), n1]
  simp only [e1, e2, e3, e7, e8, e9, er, if_neg u4, if_neg u5, if_neg (show ¬ r < 5200 by omega), if_neg (show ¬ r < 5300 by omega), if_neg (show ¬ r < 6000 by omega), if_neg (show ¬ r < 6100 by omega), if_neg (show ¬ r < 6200 by omega), if_neg (show ¬ r < 6300 by omega), if_neg (show ¬ r < 6400 by omega), if_neg (show ¬ r < 7000 by omega), if_neg (show ¬ r < 8000 by omega), if_neg (show ¬ r < 9000 by omega), if_neg (show ¬ r < 9010 by omega)]
theorem sw_boxT {Y : XY} {k9 n9 pc : Nat} {ls st : List Value} {z : Int64} {σ : XS9} {h : XH} {S k : Nat} {v : Int32} (hfr : ∀ r, 5000 ≤ r → r < 20010 → h r = none) (hS : σ 5004 900 = nI S) (hS20 : S ≤ 20) (hk : k < S) (kk : SW Y k9 n9 (setM z (g_setS σ k v) (boxK h (σ 5004 k) (nmS σ k))) pc ls st) : SW Y k9 n9 (xx_up (setM z σ (boxH h v (nmT σ k))) 5004 (206, S, updV (fun j => .ref (xx_box (σ 5004 j) (nmS σ j))) k (.ref (xx_box v (nmT σ k))))) pc ls st := by
  obtain ⟨q1, q2, q3⟩ := nmS_r (σ := σ) k
  obtain ⟨t1, t2, t3, t4⟩ := nmT_r (σ := σ) k
  have hS' : g_setS σ k v 5004 900 = nI S := by rw [setS_o (by omega) (by omega)]; exact hS
  have c1 : ∀ q i, q ≠ 5004 → ctl σ q i = ctl (g_setS σ k v) q i := fun q i hq => by unfold ctl; rw [setS_ne hq]
  have h3 : ctl σ 5004 900 = ctl (g_setS σ k v) 5004 900 := show σ 5004 900 = g_setS σ k v 5004 900 by rw [hS', hS]
  have h4 : ∀ j, j ≠ k → j ≠ 100 + k → j < 200 → ctl σ 5004 j = ctl (g_setS σ k v) 5004 j := fun j a b c => show σ 5004 j = g_setS σ k v 5004 j by rw [setS_o a b]
  have hs1 : ∀ q, q ≠ nmS σ k → boxK h (σ 5004 k) (nmS σ k) q = h q := fun q a => by
    unfold boxK
    split
    · rfl
    · exact xx_up_ne a
  have goal : ∀ F : Nat → Value, (¬ xx_small v → F = fun _ => .int v) → xx_up (if xx_small v then setM z σ h else xx_up (setM z σ h) (nmT σ k) (2, 1, F)) 5004 (206, S, fun j => .ref (xx_box (g_setS σ k v 5004 j) (nmS (g_setS σ k v) j))) = setM z (g_setS σ k v) (boxK h (σ 5004 k) (nmS σ k)) := fun F hF => by
    funext q
    by_cases a1 : q = 5004
    · rw [a1, xx_up_eq, lm_5004 hS' hS20]
    rw [xx_up_ne a1]
    by_cases a2 : q = nmT σ k
    · subst a2
      by_cases hs : xx_small v
      · rw [if_pos hs, setM_no (noq_tint (by omega) _), hfr _ (by omega) (by omega)]
        refine ((setM_no ?_).trans ((hs1 _ t4).trans (hfr _ (by omega) (by omega)))).symm
        have q5 : nmS (ctl (g_setS σ k v)) k = nmT σ k := nmT_e
        have q7 : ctl (g_setS σ k v) 5004 k = v := setS_v
        unfold lyQ
        rw [if_neg (by omega), if_neg (by omega), if_neg (by omega), if_neg (by omega), if_neg (by omega), if_neg (by omega), if_neg (by omega), if_neg (by omega), if_neg (by omega), if_neg (by omega), if_neg (by omega), if_neg (by omega), if_neg (by omega), if_neg (by omega), if_neg (by omega), if_neg (by omega), if_neg (by omega), if_pos (by omega), t1, q7, if_neg (fun h9 => h9.2.2 hs)]
      · rw [if_neg hs, xx_up_eq, hF hs]
        have t := lm_sint (z := z) (h := boxK h (σ 5004 k) (nmS σ k)) hS' hS20 (k := k) hk (by rw [setS_v]; exact hs)
        rw [nmT_e, setS_v] at t
        exact t.symm
    have a3 : (if xx_small v then setM z σ h else xx_up (setM z σ h) (nmT σ k) (2, 1, F)) q = setM z σ h q := by
      split
      · rfl
      · exact xx_up_ne a2
    rw [a3]
    by_cases a4 : q = nmS σ k
    · subst a4
      rw [setM_no (noq_uint (by omega) _)]
      unfold boxK
      by_cases ho : xx_small (σ 5004 k)
      · rw [if_pos ho, setM_no]
        unfold lyQ
        have q7 : ctl σ 5004 k = σ 5004 k := rfl
        rw [if_neg (by omega), if_neg (by omega), if_neg (by omega), if_neg (by omega), if_neg (by omega), if_neg (by omega), if_neg (by omega), if_neg (by omega), if_neg (by omega), if_neg (by omega), if_neg (by omega), if_neg (by omega), if_neg (by omega), if_neg (by omega), if_neg (by omega), if_neg (by omega), if_neg (by omega), if_pos (by omega), q1, q7, if_neg (fun h9 => h9.2.2 ho)]
      · rw [if_neg ho, xx_up_eq, lm_sint hS hS20 hk ho]
    · have hr : q ≠ 10200 + 2 * k ∧ q ≠ 10200 + 2 * k + 1 := by omega
      unfold setM
      rw [setS_ne a1, lyQ_T c1 h3 h4 (by omega) ⟨a1, hr⟩, hs1 q a4]
  refine sw_alter (r := 5004) (F2 := fun j => .ref (xx_box (g_setS σ k v 5004 j) (nmS (g_setS σ k v) j))) (xx_up_eq _ _ _) (fun j hj => ?_) ?_
  · unfold updV
    by_cases e : j = k
    · subst e
      rw [if_pos rfl, setS_v, nmT_e]
    · rw [if_neg e, setS_o e (by omega), nmT_o (by omega) (by omega) e]
  rw [xx_up_up]
  by_cases hs : xx_small v
  · have e : boxH h v (nmT σ k) = h := if_pos hs
    have g := goal (fun _ => .int v) (fun _ => rfl)
    rw [if_pos hs] at g
    rw [e, g]
    exact kk
  · have e : boxH h v (nmT σ k) = xx_up h (nmT σ k) (2, 1, vF v) := if_neg hs
    rw [e, setM_up (.inr (noq_tint (by omega) _))]
    refine sw_alter (r := nmT σ k) (F2 := fun _ => .int v) ((xx_up_ne (by omega)).trans (xx_up_eq _ _ _)) (fun j hj => by match j, hj with | 0, _ => rfl) ?_
    have g := goal (fun _ => .int v) (fun _ => rfl)
    rw [if_neg hs] at g
    rw [← xx_up_sw (by omega), xx_up_up, g]
    exact kk
theorem lm_old {z : Int64} {σ : XS9} {h : XH} (hbs : xx_bs h) {k : Nat} {v : Int32} (hk : k < 20) : setM z (g_setS σ k v) (boxK h (σ 5004 k) (nmS σ k)) (xx_box (σ 5004 k) (nmS σ k)) = some (2, 1, fun _ => .int (σ 5004 k)) := by
  unfold xx_box boxK
  by_cases hs : xx_small (σ 5004 k)
  · have := (small_nat hs).2
    rw [if_pos hs, if_pos hs, setM_out (by omega), hbs.2.2.2.1 _ this, small_eq hs]
  · rw [if_neg hs, if_neg hs, setM_no (noq_uint hk _), xx_up_eq]
def k_Mask (h : XH) (σ : XS9) (x y : Int32) (C : Nat) : XH := if n_bt x 0 ((nI C) - 1) then (if n_bt y 1 9999 then boxK h ((u2 σ 5000 0 0) 5004 (2 * (cn x) + 1)) (nmS (u2 σ 5000 0 0) (2 * (cn x) + 1)) else h) else h
def f_Mask (σ : XS9) (x y : Int32) (C : Nat) : Int32 := (if n_bt x 0 ((nI C) - 1) then (if n_bt y 1 9999 then (u2 σ 5000 0 0) 5004 (2 * (cn x) + 1) else 0) else 0)
def g_Mask (σ : XS9) (x y : Int32) (C : Nat) : XS9 := (if n_bt x 0 ((nI C) - 1) then (if n_bt y 1 9999 then g_setS (u2 σ 5000 0 0) (2 * (cn x) + 1) y else u2 (u2 σ 5000 0 0) 5000 0 2) else u2 (u2 σ 5000 0 0) 5000 0 1)
theorem ct_X14_ask {l : Launch} {h : XH} (hl : l.stackTraces = false) {z : Int64} {σ : XS9} (hbs : xx_bs h) (hfr : ∀ r, 5000 ≤ r → r < 20010 → h r = none) {C : Nat} (hS : σ 5004 900 = nI (2 * C)) (hC10 : C ≤ 10) {x y : Int32} : XEx l m_X14_ask 9 1 1 [.ref 5000, .int x, .int y] (setM z σ h) (some (.int (f_Mask σ x y C))) (setM z (g_Mask σ x y C) (k_Mask h σ x y C)) := by
  refine XMet.of hl rfl rfl (Nat.le_of_ble_eq_true rfl) (fun Y O hh hQ => ?_)
  show SW Y 1 1 (setM z σ h) 0 [.ref 5000, .int x, .int y] []
  refine sw_aload_n O (xx_dt dd_X14_ask 0 rfl) rfl ?_
  refine sw_iconst (x := 0) O (xx_dt dd_X14_ask 1 rfl) (by decide) ?_
  refine sw_put (h2 := setM z (u2 σ 5000 0 0) h) O (xx_dt dd_X14_ask 2 rfl) cl_X14 fl_X14_46 (lm_mod (σ := σ)) (by decide) (by omega) rfl (fun _ => ⟨rfl, rfl⟩) (pm_mod (σ := σ) (by omega)) ?_
  refine sw_iload_n O (xx_dt dd_X14_ask 3 rfl) rfl ?_
  refine sw_iconst (x := 0) O (xx_dt dd_X14_ask 4 rfl) (by decide) ?_
  refine sw_aload_n O (xx_dt dd_X14_ask 5 rfl) rfl ?_
  refine sw_get (v := .ref 5004) O (xx_dt dd_X14_ask 6 rfl) cl_X14 fl_X14_33 (lm_mod (σ := u2 σ 5000 0 0)) (by decide) rfl ?_
  refine sw_callVL (ci := 6) (as := []) (st := [.int 0, .int x]) (st2 := [.int (nI (2 * C)), .int 0, .int x]) O (ct_AL_size hl (lm_5004 (σ := u2 σ 5000 0 0) (S := 2 * C) hS (by omega))) ce_Jx4a65c_size_8abf5 ml_X14_57 iv_Jx4a65c_size_8abf5 cl_Jx4a65c rfl (lm_5004 (σ := u2 σ 5000 0 0) (S := 2 * C) hS (by omega)) (xx_dt dd_X14_ask 7 rfl) (by decide) rfl rfl (Nat.le_of_ble_eq_true rfl) rfl ?_
  refine sw_iconst (x := 2) O (xx_dt dd_X14_ask 8 rfl) (by decide) ?_
  refine sw_idiv O (xx_dt dd_X14_ask 9 rfl) (by first | decide | assumption) ?_
  have hx15 := trivial
  rw [nI_half (by omega)]
  refine sw_iconst (x := 1) O (xx_dt dd_X14_ask 10 rfl) (by decide) ?_
  refine sw_isub O (xx_dt dd_X14_ask 11 rfl) ?_
  refine sw_callSx (as := [.int x, .int 0, .int ((nI C) - 1)]) (st := []) (st2 := [.int (bZ (n_bt x 0 ((nI C) - 1)))]) O (ct_X14_is hl) ce_X14_is ml_X14_70 st_X14_is (xx_dt dd_X14_ask 12 rfl) (by decide) rfl rfl (Nat.le_of_ble_eq_true rfl) rfl ?_
  refine sw_if_neB (tgt := 30) O (xx_dt dd_X14_ask 13 rfl) (by decide) (fun q1 => ?_) (fun q1 => ?_)
  · have hc21 := ((sub1_lt (R := C) (by omega)).mp q1)
    refine sw_lsE (ls2 := [.ref 5000, .int (nI (cn x)), .int y]) (by rw [← hc21.1]) ?_
    have hd21 := hc21.2
    refine sw_iload_n O (xx_dt dd_X14_ask 18 rfl) rfl ?_
    refine sw_iconst (x := 1) O (xx_dt dd_X14_ask 19 rfl) (by decide) ?_
    refine sw_sipush (x := 9999) O (xx_dt dd_X14_ask 20 rfl) (by decide) ?_
    refine sw_callSx (as := [.int y, .int 1, .int 9999]) (st := []) (st2 := [.int (bZ (n_bt y 1 9999))]) O (ct_X14_is hl) ce_X14_is ml_X14_70 st_X14_is (xx_dt dd_X14_ask 21 rfl) (by decide) rfl rfl (Nat.le_of_ble_eq_true rfl) rfl ?_
    refine sw_if_neB (tgt := 47) O (xx_dt dd_X14_ask 22 rfl) (by decide) (fun q2 => ?_) (fun q2 => ?_)
    · have hx20 : cn x < C := by omega
      refine sw_aload_n O (xx_dt dd_X14_ask 27 rfl) rfl ?_
      refine sw_get (v := .ref 5004) O (xx_dt dd_X14_ask 28 rfl) cl_X14 fl_X14_33 (lm_mod (σ := u2 σ 5000 0 0)) (by decide) rfl ?_
      refine sw_iconst (x := 2) O (xx_dt dd_X14_ask 29 rfl) (by decide) ?_
      refine sw_iload_n O (xx_dt dd_X14_ask 30 rfl) rfl ?_
      refine sw_imul O (xx_dt dd_X14_ask 31 rfl) ?_
      have hx53 := trivial
      rw [nI_dbl]
      refine sw_iconst (x := 1) O (xx_dt dd_X14_ask 32 rfl) (by decide) ?_
      refine sw_iadd O (xx_dt dd_X14_ask 33 rfl) ?_
      rw [nI_a1 (2 * (cn x))]
      refine sw_iload_n O (xx_dt dd_X14_ask 34 rfl) rfl ?_
      refine sw_callSx (k := 0) (n := 0) (k' := 1) (n' := 1) (as := [.int y]) (st := [.int (nI (2 * (cn x) + 1)), .ref 5004]) (st2 := [.ref (xx_box y (nmT (u2 σ 5000 0 0) (2 * (cn x) + 1))), .int (nI (2 * (cn x) + 1)), .ref 5004]) O (ct_val hl (z := z) (σ := u2 σ 5000 0 0) hbs (v := y) (e := nmT (u2 σ 5000 0 0) (2 * (cn x) + 1)) (noq_tint (σ := u2 σ 5000 0 0) (k := 2 * (cn x) + 1) (by omega) _) (hfr (nmT (u2 σ 5000 0 0) (2 * (cn x) + 1)) (by have h9 := nmT_r (σ := u2 σ 5000 0 0) (2 * (cn x) + 1); omega) (by have h9 := nmT_r (σ := u2 σ 5000 0 0) (2 * (cn x) + 1); omega)) (by have h9 := nmT_r (σ := u2 σ 5000 0 0) (2 * (cn x) + 1); omega)) ce_J6_valueOf_2dffe ml_X14_206 st_J6_valueOf_2dffe (xx_dt dd_X14_ask 35 rfl) (by decide) rfl rfl (Nat.le_of_ble_eq_true rfl) rfl ?_
      have hbs0 := hbs
      have hbs := bs_box (v := y) (e := nmT (u2 σ 5000 0 0) (2 * (cn x) + 1)) hbs (by have h9 := nmT_r (σ := u2 σ 5000 0 0) (2 * (cn x) + 1); omega) (by have h9 := nmT_r (σ := u2 σ 5000 0 0) (2 * (cn x) + 1); omega) (by have h9 := nmT_r (σ := u2 σ 5000 0 0) (2 * (cn x) + 1); omega)
      obtain ⟨f0, hz0⟩ := hbs.1
      refine sw_callVL (k := 0) (n := 0) (k' := 0) (n' := 0) (ci := 6) (as := [.int (nI (2 * (cn x) + 1)), .ref (xx_box y (nmT (u2 σ 5000 0 0) (2 * (cn x) + 1)))]) (st := []) (st2 := [.ref (xx_box ((u2 σ 5000 0 0) 5004 (2 * (cn x) + 1)) (nmS (u2 σ 5000 0 0) (2 * (cn x) + 1)))]) O (ct_AL_set hl (lm_5004 (z := z) (σ := u2 σ 5000 0 0) (h := boxH h y (nmT (u2 σ 5000 0 0) (2 * (cn x) + 1))) (S := 2 * C) hS (by omega)) (e := 19990) ((setM_no2 hbs).1) (by omega) (by omega) (setM_out0 hz0) (i := 2 * (cn x) + 1) (x := xx_box ((u2 σ 5000 0 0) 5004 (2 * (cn x) + 1)) (nmS (u2 σ 5000 0 0) (2 * (cn x) + 1))) (by omega) (by omega) rfl (ob_box hbs0 (noq_tint (σ := u2 σ 5000 0 0) (k := 2 * (cn x) + 1) (by omega) _))) ce_Jx4a65c_set_bcc79 ml_X14_261 iv_Jx4a65c_set_bcc79 cl_Jx4a65c rfl (lm_5004 (z := z) (σ := u2 σ 5000 0 0) (h := boxH h y (nmT (u2 σ 5000 0 0) (2 * (cn x) + 1))) (S := 2 * C) hS (by omega)) (xx_dt dd_X14_ask 36 rfl) (by decide) rfl rfl (Nat.le_of_ble_eq_true rfl) rfl ?_
      refine sw_boxT (σ := u2 σ 5000 0 0) (k := 2 * (cn x) + 1) hfr hS (by omega) (by omega) ?_
      refine sw_castO O (xx_dt dd_X14_ask 37 rfl) cl_J6 (lm_old (z := z) (σ := u2 σ 5000 0 0) (k := 2 * (cn x) + 1) (v := y) hbs0 (by omega)) cw_X14_113 ?_
      refine sw_callVx (as := []) (st := []) (st2 := [.int ((u2 σ 5000 0 0) 5004 (2 * (cn x) + 1))]) O (ct_intValue hl (lm_old (z := z) (σ := u2 σ 5000 0 0) (k := 2 * (cn x) + 1) (v := y) hbs0 (by omega)) rfl) ce_J6_intValue_8abf5 ml_X14_265 iv_J6_intValue_8abf5 cl_J6 rfl (lm_old (z := z) (σ := u2 σ 5000 0 0) (k := 2 * (cn x) + 1) (v := y) hbs0 (by omega)) (xx_dt dd_X14_ask 38 rfl) (by decide) rfl rfl (Nat.le_of_ble_eq_true rfl) rfl ?_
      exact sw_iret O (xx_dt dd_X14_ask 39 rfl) rfl rfl (by rw [hQ]; exact ⟨by unfold f_Mask; simp only [if_pos q1, if_pos q2], by unfold g_Mask k_Mask; simp only [if_pos q1, if_pos q2]⟩)
    · refine sw_aload_n O (xx_dt dd_X14_ask 23 rfl) rfl ?_
      refine sw_iconst (x := 2) O (xx_dt dd_X14_ask 24 rfl) (by decide) ?_
      refine sw_callVx (as := [.int 2]) (st := []) (st2 := [.int 0]) O (ct_X14_refuse hl (z := z) (σ := u2 σ 5000 0 0) hbs (x := 2)) ce_X14_refuse ml_X14_74 iv_X14_refuse cl_X14 rfl (lm_mod (σ := u2 σ 5000 0 0)) (xx_dt dd_X14_ask 25 rfl) (by decide) rfl rfl (Nat.le_of_ble_eq_true rfl) rfl ?_
      exact sw_iret O (xx_dt dd_X14_ask 26 rfl) rfl rfl (by rw [hQ]; exact ⟨by unfold f_Mask; simp only [if_pos q1, if_neg q2], by unfold g_Mask k_Mask; simp only [if_pos q1, if_neg q2]⟩)
  · refine sw_aload_n O (xx_dt dd_X14_ask 14 rfl) rfl ?_
    refine sw_iconst (x := 1) O (xx_dt dd_X14_ask 15 rfl) (by decide) ?_
    refine sw_callVx (as := [.int 1]) (st := []) (st2 := [.int 0]) O (ct_X14_refuse hl (z := z) (σ := u2 σ 5000 0 0) hbs (x := 1)) ce_X14_refuse ml_X14_74 iv_X14_refuse cl_X14 rfl (lm_mod (σ := u2 σ 5000 0 0)) (xx_dt dd_X14_ask 16 rfl) (by decide) rfl rfl (Nat.le_of_ble_eq_true rfl) rfl ?_
    exact sw_iret O (xx_dt dd_X14_ask 17 rfl) rfl rfl (by rw [hQ]; exact ⟨by unfold f_Mask; simp only [if_neg q1], by unfold g_Mask k_Mask; simp only [if_neg q1]⟩)
