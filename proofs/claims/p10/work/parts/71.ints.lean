/-! ===== the reference: numbers in lists ===== -/
def vF (v : Int32) : Nat → Value := updV (fun j => defaultValue (tyJ6 j)) 0 (.int v)
def boxH (h : XH) (v : Int32) (e : Nat) : XH := if xx_small v then h else xx_up h e (2, 1, vF v)
def g_addI (σ : XS9) (r n : Nat) (v : Int32) : XS9 := u2 (u2 σ r n v) r 900 (nI (n + 1))
theorem addI_ne {σ : XS9} {r n q : Nat} {v : Int32} (h : q ≠ r) : g_addI σ r n v q = σ q := by unfold g_addI; rw [u2_ne h, u2_ne h]
theorem addI_n {σ : XS9} {r n : Nat} {v : Int32} : g_addI σ r n v r 900 = nI (n + 1) := u2_at
theorem addI_k {σ : XS9} {r n k : Nat} {v : Int32} (h : k ≠ n) (h2 : k ≠ 900) : g_addI σ r n v r k = σ r k := by unfold g_addI; rw [u2_oi h2, u2_oi h]
theorem addI_v {σ : XS9} {r n : Nat} {v : Int32} (h2 : n < 900) : g_addI σ r n v r n = v := by unfold g_addI; rw [u2_oi (by omega), u2_at]
theorem rowCtl {j : Nat} (hj : j < 10) (i : Nat) : isCtl (5030 + j) i = true := by
  unfold isCtl
  rw [show Nat.ble 5030 (5030 + j) = true from Nat.ble_eq_true_of_le (by omega), show Nat.ble (5030 + j) 5039 = true from Nat.ble_eq_true_of_le (by omega)]
  simp
theorem ct_val {l : Launch} {z : Int64} {σ : XS9} {h : XH} (hl : l.stackTraces = false) (hbs : xx_bs h) {v : Int32} {e : Nat} (hq : lyQ z (ctl σ) e (σ e) = none) (he : h e = none) (h9 : 1000 ≤ e) : XEx l m_J6_valueOf_2dffe 3 1 1 [.int v] (setM z σ h) (some (.ref (xx_box v e))) (setM z σ (boxH h v e)) := by
  have t := ct_valueOf (l := l) (h := setM z σ h) hl (v := v) (e := e) ((setM_no hq).trans he) h9 ((setM_out (by omega)).trans hbs.2.2.1)
  have e2 : setM z σ (boxH h v e) = if xx_small v then setM z σ h else xx_up (setM z σ h) e (2, 1, vF v) := by
    unfold boxH
    split
    · rfl
    · exact setM_up (.inr hq)
  rw [e2]
  exact t
theorem bs_box {h : XH} {v : Int32} {e : Nat} (hb : xx_bs h) (h1 : 1000 ≤ e) (h2 : e ≠ 19990) (h3 : e ≠ 19991) : xx_bs (boxH h v e) := by
  unfold boxH
  split
  · exact hb
  · exact bs_up hb h1 h2 h3
theorem ob_box {z : Int64} {σ : XS9} {h : XH} {v : Int32} {e : Nat} (hbs : xx_bs h) (hq : lyQ z (ctl σ) e (σ e) = none) : xx_obO (setM z σ (boxH h v e)) (xx_box v e) := by
  unfold boxH xx_box
  by_cases hs : xx_small v
  · rw [if_pos hs, if_pos hs]
    have := (small_nat hs).2
    exact ob_C cl_J6 ((setM_out (by omega)).trans (hbs.2.2.2.1 _ this)) ca_J6
  · rw [if_neg hs, if_neg hs]
    exact ob_C cl_J6 ((setM_no hq).trans (xx_up_eq _ _ _)) ca_J6
theorem box_same {h : XH} {v : Int32} {e q : Nat} (hne : q ≠ e) : boxH h v e q = h q := by
  unfold boxH
  split
  · rfl
  · exact xx_up_ne hne
theorem lyQ_P {z : Int64} {C C' : XS9} {r j n : Nat} {s : Nat → Int32} (h1 : ∀ q i, q ≠ 5030 + j → C q i = C' q i) (h2 : cn (C (5030 + j) 900) = n) (h3 : cn (C' (5030 + j) 900) = n + 1) (h4 : ∀ k, k ≠ n → k < 20 → C (5030 + j) k = C' (5030 + j) k) (hj : j < 6) (hn : n < 20) (hr : r ≠ 5030 + j ∧ r ≠ nmP j n) : lyQ z C r s = lyQ z C' r s := by
  have e1 : ∀ i, C 5001 i = C' 5001 i := fun i => h1 _ _ (by omega)
  have e2 : ∀ i, C 5002 i = C' 5002 i := fun i => h1 _ _ (by omega)
  have e3 : ∀ i, C 5003 i = C' 5003 i := fun i => h1 _ _ (by omega)
  have e4 : ∀ i, C 5004 i = C' 5004 i := fun i => h1 _ _ (by omega)
  have e7 : ∀ i, C 7000 i = C' 7000 i := fun i => h1 _ _ (by omega)
  have e8 : ∀ i, C 8000 i = C' 8000 i := fun i => h1 _ _ (by omega)
  have e9 : ∀ i, C 9000 i = C' 9000 i := fun i => h1 _ _ (by omega)
  have er : ∀ i, C r i = C' r i := fun i => h1 _ _ hr.1
  have hnm : r ≠ 10000 + 20 * j + n := hr.2
  unfold lyQ lyB nmS
  by_cases u4 : r < 10000
  · simp only [e1, e2, e3, e4, e7, e8, e9, er, if_pos u4]
  by_cases u5 : r < 10200
  · simp only [if_neg (show ¬ r < 5010 by omega), if_neg (show ¬ r < 5020 by omega), if_neg (show ¬ r < 5030 by omega), if_neg (show ¬ r < 5040 by omega), if_neg (show ¬ r < 5200 by omega), if_neg (show ¬ r < 5300 by omega), if_neg (show ¬ r < 6000 by omega), if_neg (show ¬ r < 6100 by omega), if_neg (show ¬ r < 6200 by omega), if_neg (show ¬ r < 6300 by omega), if_neg (show ¬ r < 6400 by omega), if_neg (show ¬ r < 7000 by omega), if_neg (show ¬ r < 8000 by omega), if_neg (show ¬ r < 9000 by omega), if_neg (show ¬ r < 9010 by omega), if_neg u4, if_pos u5, e2]
    by_cases w : (r - 10000) / 20 = j
    · rw [w, h2, h3]
      by_cases v : (r - 10000) % 20 < n
      · rw [h4 _ (by omega) (by omega)]
        simp only [v, show (r - 10000) % 20 < n + 1 by omega]
      · rw [if_neg (by omega), if_neg (by omega)]
    · have ep : ∀ i, C (5030 + (r - 10000) / 20) i = C' (5030 + (r - 10000) / 20) i := fun i => h1 _ _ (by omega)
      simp only [ep]
  simp only [e1, e2, e3, e4, e7, e8, e9, er, if_neg u4, if_neg u5, if_neg (show ¬ r < 9010 by omega), if_neg (show ¬ r < 5200 by omega), if_neg (show ¬ r < 5300 by omega), if_neg (show ¬ r < 6000 by omega), if_neg (show ¬ r < 6100 by omega), if_neg (show ¬ r < 6200 by omega), if_neg (show ¬ r < 6300 by omega), if_neg (show ¬ r < 6400 by omega), if_neg (show ¬ r < 7000 by omega), if_neg (show ¬ r < 8000 by omega), if_neg (show ¬ r < 9000 by omega)]
theorem noq_pint {z : Int64} {σ : XS9} {B j n : Nat} (hB : σ 5002 900 = nI B) (hB6 : B ≤ 6) (hj : j < B) (hp : σ (5030 + j) 900 = nI n) (hn : n < 20) (s : Nat → Int32) : lyQ z (ctl σ) (nmP j n) s = none := by
  have e2 := ct1 (i := 900) rfl hB (by omega)
  have e4 := ct1 (rowCtl (by omega) 900) hp (by omega)
  have q1 : (nmP j n - 10000) / 20 = j := by unfold nmP; omega
  have q2 : (nmP j n - 10000) % 20 = n := by unfold nmP; omega
  have q3 : 10000 ≤ nmP j n ∧ nmP j n < 10200 := by unfold nmP; omega
  unfold lyQ
  rw [if_neg (by omega), if_neg (by omega), if_neg (by omega), if_neg (by omega), if_neg (by omega), if_neg (by omega), if_neg (by omega), if_neg (by omega), if_neg (by omega), if_neg (by omega), if_neg (by omega), if_neg (by omega), if_neg (by omega), if_neg (by omega), if_neg (by omega), if_neg (by omega), if_pos (by omega), q1, q2, e2, e4, if_neg (by omega)]
theorem add_int {z : Int64} {σ : XS9} {h : XH} {B j n : Nat} {v : Int32} (hB : σ 5002 900 = nI B) (hB6 : B ≤ 6) (hj : j < B) (hp : σ (5030 + j) 900 = nI n) (hn : n < 20) : (xx_small v → xx_up (setM z σ h) (5030 + j) (206, n + 1, fun k => .ref (xx_box (g_addI σ (5030 + j) n v (5030 + j) k) (nmP j k))) = setM z (g_addI σ (5030 + j) n v) h) ∧ (¬ xx_small v → xx_up (xx_up (setM z σ h) (nmP j n) (2, 1, fun _ => .int v)) (5030 + j) (206, n + 1, fun k => .ref (xx_box (g_addI σ (5030 + j) n v (5030 + j) k) (nmP j k))) = setM z (g_addI σ (5030 + j) n v) h) := by
  have hct := rowCtl (j := j) (by omega)
  have hB' : g_addI σ (5030 + j) n v 5002 900 = nI B := by rw [addI_ne (by omega)]; exact hB
  have hp' : g_addI σ (5030 + j) n v (5030 + j) 900 = nI (n + 1) := addI_n
  have c1 : ∀ q i, q ≠ 5030 + j → ctl σ q i = ctl (g_addI σ (5030 + j) n v) q i := fun q i hq => by unfold ctl; rw [addI_ne hq]
  have hsame : ∀ q, q ≠ 5030 + j → q ≠ nmP j n → setM z σ h q = setM z (g_addI σ (5030 + j) n v) h q := fun q a1 a2 => by
    unfold setM
    rw [addI_ne a1, lyQ_P (n := n) (j := j) c1 (ct1 (hct 900) hp (by omega)) (ct1 (hct 900) hp' (by omega)) (fun k h1 h2 => by rw [ctl_at (hct k), ctl_at (hct k), addI_k h1 (by omega)]) (by omega) hn ⟨a1, a2⟩]
  have hn1 : nmP j n ≠ 5030 + j := by unfold nmP; omega
  refine ⟨fun hs => ?_, fun hs => ?_⟩ <;> funext q
  · unfold xx_up
    by_cases a1 : q = 5030 + j
    · rw [if_pos a1, a1, lm_pks hB' hB6 hj hp' (by omega)]
    rw [if_neg a1]
    by_cases a2 : q = nmP j n
    · rw [a2, setM_no (noq_pint hB hB6 hj hp hn _)]
      refine (setM_no ?_).symm
      have e2 := ct1 (i := 900) rfl hB' (by omega)
      have q1 : (nmP j n - 10000) / 20 = j := by unfold nmP; omega
      have q2 : (nmP j n - 10000) % 20 = n := by unfold nmP; omega
      have q3 : 10000 ≤ nmP j n ∧ nmP j n < 10200 := by unfold nmP; omega
      unfold lyQ
      rw [if_neg (by omega), if_neg (by omega), if_neg (by omega), if_neg (by omega), if_neg (by omega), if_neg (by omega), if_neg (by omega), if_neg (by omega), if_neg (by omega), if_neg (by omega), if_neg (by omega), if_neg (by omega), if_neg (by omega), if_neg (by omega), if_neg (by omega), if_neg (by omega), if_pos (by omega), q1, q2, ctl_at (hct n), addI_v (by omega), if_neg (fun h9 => h9.2.2 hs)]
    · exact hsame q a1 a2
  · unfold xx_up
    by_cases a1 : q = 5030 + j
    · rw [if_pos a1, a1, lm_pks hB' hB6 hj hp' (by omega)]
    rw [if_neg a1]
    by_cases a2 : q = nmP j n
    · rw [if_pos a2, a2, lm_pint hB' hB6 hj hp' (by omega) (k := n) (by omega) (by rw [addI_v (by omega)]; exact hs), addI_v (by omega)]
    · rw [if_neg a2]
      exact hsame q a1 a2
theorem sw_boxP {Y : XY} {k9 n9 pc : Nat} {ls st : List Value} {z : Int64} {σ : XS9} {h : XH} {B j n : Nat} {v : Int32} (hB : σ 5002 900 = nI B) (hB6 : B ≤ 6) (hj : j < B) (hp : σ (5030 + j) 900 = nI n) (hn : n < 20) (kk : SW Y k9 n9 (setM z (g_addI σ (5030 + j) n v) h) pc ls st) : SW Y k9 n9 (xx_up (setM z σ (boxH h v (nmP j n))) (5030 + j) (206, n + 1, fun k => if k = n then .ref (xx_box v (nmP j n)) else .ref (xx_box (σ (5030 + j) k) (nmP j k)))) pc ls st := by
  have hn1 : nmP j n ≠ 5030 + j := by unfold nmP; omega
  have T := add_int (z := z) (h := h) (v := v) hB hB6 hj hp hn
  refine sw_alter (r := 5030 + j) (F2 := fun k => .ref (xx_box (g_addI σ (5030 + j) n v (5030 + j) k) (nmP j k))) (xx_up_eq _ _ _) (fun k hk => ?_) ?_
  · by_cases e : k = n
    · subst e
      rw [if_pos rfl, addI_v (by omega)]
    · rw [if_neg e, addI_k e (by omega)]
  · rw [xx_up_up]
    by_cases hs : xx_small v
    · have e : boxH h v (nmP j n) = h := if_pos hs
      rw [e, T.1 hs]
      exact kk
    · have e : boxH h v (nmP j n) = xx_up h (nmP j n) (2, 1, vF v) := if_neg hs
      rw [e, setM_up (.inr (noq_pint hB hB6 hj hp hn _))]
      refine sw_alter (r := nmP j n) (F2 := fun _ => .int v) ((xx_up_ne hn1).trans (xx_up_eq _ _ _)) (fun k hk => by match k, hk with | 0, _ => rfl) ?_
      rw [← xx_up_sw hn1, xx_up_up, T.2 hs]
      exact kk
theorem fr_addI {σ : XS9} {r n q : Nat} {v : Int32} (h : q ≠ r) : g_addI σ r n v q = σ q := addI_ne h
theorem addI_n2 {σ : XS9} {r p : Nat} {v : Int32} : g_addI σ r (2 * p + 1) v r 900 = nI (2 * (p + 1)) := addI_n.trans (congrArg nI (by omega))
def g_Madd (σ : XS9) (j p : Nat) (c a : Int32) : XS9 := g_addI (g_addI σ (5030 + j) (2 * p) c) (5030 + j) (2 * p + 1) a
theorem ct_X14_addPackage {l : Launch} {h : XH} (hl : l.stackTraces = false) {z : Int64} {σ : XS9} (hbs : xx_bs h) (hfr : ∀ r, 5000 ≤ r → r < 20010 → h r = none) {B : Nat} (hB : σ 5002 900 = nI B) (hB6 : B ≤ 6) {j : Nat} (hj : j < B) {p : Nat} (hp : σ (5030 + j) 900 = nI (2 * p)) (hp6 : p ≤ 5) {c a : Int32} : XEx l m_X14_addPackage 8 4 58 [.ref (5020 + j), .int c, .int a] (setM z σ h) none (setM z (g_Madd σ j p c a) h) := by
  refine XMet.of hl rfl rfl (Nat.le_of_ble_eq_true rfl) (fun Y O hh hQ => ?_)
  show SW Y 4 58 (setM z σ h) 0 [.ref (5020 + j), .int c, .int a] []
  refine sw_aload_n O (xx_dt dd_X14_addPackage 0 rfl) rfl ?_
  refine sw_get (v := .ref (5030 + j)) O (xx_dt dd_X14_addPackage 1 rfl) cl_X9 fl_X14_203 (lm_bid (σ := σ) (B := B) hB (by omega) (j := j) (by omega)) (by decide) rfl ?_
  refine sw_iload_n O (xx_dt dd_X14_addPackage 2 rfl) rfl ?_
  refine sw_callSx (k := 3) (n := 57) (k' := 1) (n' := 1) (as := [.int c]) (st := [.ref (5030 + j)]) (st2 := [.ref (xx_box c (nmP j (2 * p))), .ref (5030 + j)]) O (ct_val hl (z := z) (σ := σ) hbs (v := c) (e := nmP j (2 * p)) (noq_pint (B := B) hB (by omega) (j := j) (by omega) hp (by omega) _) (hfr (nmP j (2 * p)) (by unfold nmP; omega) (by unfold nmP; omega)) (by unfold nmP; omega)) ce_J6_valueOf_2dffe ml_X14_206 st_J6_valueOf_2dffe (xx_dt dd_X14_addPackage 3 rfl) (by decide) rfl rfl (Nat.le_of_ble_eq_true rfl) rfl ?_
  have hbs0 := hbs
  have hbs := bs_box (v := c) (e := nmP j (2 * p)) hbs (by unfold nmP; omega) (by unfold nmP; omega) (by unfold nmP; omega)
  refine xx_wid (k' := 2 + 1) (n' := 29 + ((2 * p) + (2 * p) / 2 + 10)) (by omega) (by omega) (sw_callVL (k := 2) (n := 29) (k' := 1) (n' := (2 * p) + (2 * p) / 2 + 10) (ci := 6) (as := [.ref (xx_box c (nmP j (2 * p)))]) (st := []) (st2 := [.int 1]) O (ct_add hl (lm_pks (σ := σ) (B := B) hB (by omega) (j := j) (by omega) (p := 2 * p) hp (by omega)) (by omega) (hbs.1.imp fun f0 e => (setM_out (by omega)).trans e) (hbs.2.1.imp fun f0 e => (setM_out (by omega)).trans e) (setM_no2 hbs).1 (setM_no2 hbs).2 (ob_box hbs0 (noq_pint (B := B) hB (by omega) (j := j) (by omega) hp (by omega) _)) (by omega) (fun k9 hk9 => .inr ⟨_, rfl, ob_C cl_J6 (lm_pbox (σ := σ) hbs (B := B) hB (by omega) (j := j) (by omega) (p := 2 * p) hp (by omega) (k := k9) hk9) ca_J6⟩)) ce_Jx4a65c_add_9ea2d ml_X14_87 iv_Jx4a65c_add_9ea2d cl_Jx4a65c rfl (lm_pks (σ := σ) (B := B) hB (by omega) (j := j) (by omega) (p := 2 * p) hp (by omega)) (xx_dt dd_X14_addPackage 4 rfl) (by decide) rfl rfl (Nat.le_of_ble_eq_true rfl) rfl ?_)
  refine sw_boxP (σ := σ) (B := B) hB (by omega) (j := j) (by omega) (n := 2 * p) hp (by omega) ?_
  have hbs := hbs0
  refine sw_pop O (xx_dt dd_X14_addPackage 5 rfl) rfl ?_
  refine sw_aload_n O (xx_dt dd_X14_addPackage 6 rfl) rfl ?_
  refine sw_get (v := .ref (5030 + j)) O (xx_dt dd_X14_addPackage 7 rfl) cl_X9 fl_X14_203 (lm_bid (σ := g_addI σ (5030 + j) (2 * p) c) (B := B) ((congrFun (fr_addI (by omega)) 900).trans hB) (by omega) (j := j) (by omega)) (by decide) rfl ?_
  refine sw_iload_n O (xx_dt dd_X14_addPackage 8 rfl) rfl ?_
  refine sw_callSx (k := 1) (n := 28) (k' := 1) (n' := 1) (as := [.int a]) (st := [.ref (5030 + j)]) (st2 := [.ref (xx_box a (nmP j (2 * p + 1))), .ref (5030 + j)]) O (ct_val hl (z := z) (σ := g_addI σ (5030 + j) (2 * p) c) hbs (v := a) (e := nmP j (2 * p + 1)) (noq_pint (B := B) ((congrFun (fr_addI (by omega)) 900).trans hB) (by omega) (j := j) (by omega) addI_n (by omega) _) (hfr (nmP j (2 * p + 1)) (by unfold nmP; omega) (by unfold nmP; omega)) (by unfold nmP; omega)) ce_J6_valueOf_2dffe ml_X14_206 st_J6_valueOf_2dffe (xx_dt dd_X14_addPackage 9 rfl) (by decide) rfl rfl (Nat.le_of_ble_eq_true rfl) rfl ?_
  have hbs0 := hbs
  have hbs := bs_box (v := a) (e := nmP j (2 * p + 1)) hbs (by unfold nmP; omega) (by unfold nmP; omega) (by unfold nmP; omega)
  refine xx_wid (k' := 0 + 1) (n' := 0 + ((2 * p + 1) + (2 * p + 1) / 2 + 10)) (by omega) (by omega) (sw_callVL (k := 0) (n := 0) (k' := 1) (n' := (2 * p + 1) + (2 * p + 1) / 2 + 10) (ci := 6) (as := [.ref (xx_box a (nmP j (2 * p + 1)))]) (st := []) (st2 := [.int 1]) O (ct_add hl (lm_pks (σ := g_addI σ (5030 + j) (2 * p) c) (B := B) ((congrFun (fr_addI (by omega)) 900).trans hB) (by omega) (j := j) (by omega) (p := 2 * p + 1) addI_n (by omega)) (by omega) (hbs.1.imp fun f0 e => (setM_out (by omega)).trans e) (hbs.2.1.imp fun f0 e => (setM_out (by omega)).trans e) (setM_no2 hbs).1 (setM_no2 hbs).2 (ob_box hbs0 (noq_pint (B := B) ((congrFun (fr_addI (by omega)) 900).trans hB) (by omega) (j := j) (by omega) addI_n (by omega) _)) (by omega) (fun k9 hk9 => .inr ⟨_, rfl, ob_C cl_J6 (lm_pbox (σ := g_addI σ (5030 + j) (2 * p) c) hbs (B := B) ((congrFun (fr_addI (by omega)) 900).trans hB) (by omega) (j := j) (by omega) (p := 2 * p + 1) addI_n (by omega) (k := k9) hk9) ca_J6⟩)) ce_Jx4a65c_add_9ea2d ml_X14_87 iv_Jx4a65c_add_9ea2d cl_Jx4a65c rfl (lm_pks (σ := g_addI σ (5030 + j) (2 * p) c) (B := B) ((congrFun (fr_addI (by omega)) 900).trans hB) (by omega) (j := j) (by omega) (p := 2 * p + 1) addI_n (by omega)) (xx_dt dd_X14_addPackage 10 rfl) (by decide) rfl rfl (Nat.le_of_ble_eq_true rfl) rfl ?_)
  refine sw_boxP (σ := g_addI σ (5030 + j) (2 * p) c) (B := B) ((congrFun (fr_addI (by omega)) 900).trans hB) (by omega) (j := j) (by omega) (n := 2 * p + 1) addI_n (by omega) ?_
  have hbs := hbs0
  refine sw_pop O (xx_dt dd_X14_addPackage 11 rfl) rfl ?_
  exact sw_ret O (xx_dt dd_X14_addPackage 12 rfl) rfl (by rw [hQ]; exact ⟨rfl, rfl⟩)
