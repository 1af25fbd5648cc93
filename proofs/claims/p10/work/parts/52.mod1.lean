/-! ===== the reference: small methods ===== -/

def f_is (x y w : Int32) : Int32 := (if x < y then 0 else (if w < x then 0 else 1))
theorem ct_is0 {l : Launch} {h : XH} (hl : l.stackTraces = false) {x y w : Int32} : XEx l m_X14_is 0 0 0 [.int x, .int y, .int w] (h) (some (.int (f_is x y w))) (h) := by
  refine XMet.of hl rfl rfl (Nat.le_of_ble_eq_true rfl) (fun Y O hh hQ => ?_)
  show SW Y 0 0 (h) 0 [.int x, .int y, .int w] []
  refine sw_iload_n O (xx_dt dd_X14_is 0 rfl) rfl ?_
  refine sw_iload_n O (xx_dt dd_X14_is 1 rfl) rfl ?_
  refine sw_icmp_lt (tgt := 14) O (xx_dt dd_X14_is 2 rfl) (by decide) (fun q1 => ?_) (fun q1 => ?_)
  · refine sw_iconst (x := 0) O (xx_dt dd_X14_is 8 rfl) (by decide) ?_
    exact sw_iret O (xx_dt dd_X14_is 9 rfl) rfl rfl (by rw [hQ]; exact ⟨by unfold f_is; simp only [if_pos q1], rfl⟩)
  · refine sw_iload_n O (xx_dt dd_X14_is 3 rfl) rfl ?_
    refine sw_iload_n O (xx_dt dd_X14_is 4 rfl) rfl ?_
    refine sw_icmp_gt (tgt := 14) O (xx_dt dd_X14_is 5 rfl) (by decide) (fun q2 => ?_) (fun q2 => ?_)
    · refine sw_iconst (x := 0) O (xx_dt dd_X14_is 8 rfl) (by decide) ?_
      exact sw_iret O (xx_dt dd_X14_is 9 rfl) rfl rfl (by rw [hQ]; exact ⟨by unfold f_is; simp only [if_neg q1, if_pos q2], rfl⟩)
    · refine sw_iconst (x := 1) O (xx_dt dd_X14_is 6 rfl) (by decide) ?_
      refine sw_goto (tgt := 15) O (xx_dt dd_X14_is 7 rfl) (by decide) ?_
      exact sw_iret O (xx_dt dd_X14_is 9 rfl) rfl rfl (by rw [hQ]; exact ⟨by unfold f_is; simp only [if_neg q1, if_neg q2], rfl⟩)
theorem f_is_eq {x y w : Int32} : f_is x y w = bZ (n_bt x y w) := by
  unfold f_is bZ
  by_cases a : x < y
  · have : ¬ n_bt x y w := fun h => absurd a (Int32.not_lt.mpr h.1)
    rw [if_neg this]
    simp only [a, if_true]
  · by_cases b : w < x
    · have : ¬ n_bt x y w := fun h => absurd b (Int32.not_lt.mpr h.2)
      rw [if_neg this]
      simp [a, Int32.not_le.mpr b]
    · have : n_bt x y w := ⟨Int32.not_lt.mp a, Int32.not_lt.mp b⟩
      rw [if_pos this]
      simp [a, Int32.not_lt.mp b]
theorem ct_X14_is {l : Launch} {h : XH} (hl : l.stackTraces = false) {x y w : Int32} : XEx l m_X14_is 0 0 0 [.int x, .int y, .int w] h (some (.int (bZ (n_bt x y w)))) h := by
  rw [← f_is_eq]
  exact ct_is0 hl
def x_power_4 (r : Nat) (s0 : Int32) : Int32 := xit (fun i4 s4 => s4 * 6) r 0 s0
def f_power (r : Nat) : Int32 := (x_power_4 r 1)
theorem ct_X14_power {l : Launch} {h : XH} (hl : l.stackTraces = false) {r : Nat} (hr : r < 1000) : XEx l m_X14_power 0 0 0 [.int (nI r)] (h) (some (.int (f_power r))) (h) := by
  refine XMet.of hl rfl rfl (Nat.le_of_ble_eq_true rfl) (fun Y O hh hQ => ?_)
  show SW Y 0 0 (h) 0 [.int (nI r), xx_d, xx_d] []
  refine sw_iconst (x := 1) O (xx_dt dd_X14_power 0 rfl) (by decide) ?_
  refine sw_istore_n (ls2 := [.int (nI r), .int 1, xx_d]) O (xx_dt dd_X14_power 1 rfl) (by decide) rfl ?_
  refine sw_iconst (x := 0) O (xx_dt dd_X14_power 2 rfl) (by decide) ?_
  refine sw_istore_n (ls2 := [.int (nI r), .int 1, .int 0]) O (xx_dt dd_X14_power 3 rfl) (by decide) rfl ?_
  refine sw_for (fun i4 s4 => s4 * 6) (fun _ _ => True) (hp := fun _ => h) (hd := 4) (lc := fun i4 s4 => [.int (nI r), .int s4, .int (nI i4)]) (N := r) (fun i4 s4 hi4 hP4 => ⟨trivial, fun kk4 => ?_⟩) r 0 1 (by omega) (trivial) (fun hP4 => ?_)
  · refine sw_iload_n O (xx_dt dd_X14_power 4 rfl) rfl ?_
    refine sw_iload_n O (xx_dt dd_X14_power 5 rfl) rfl ?_
    refine sw_icmp_ge (tgt := 20) O (xx_dt dd_X14_power 6 rfl) (by decide) (fun q1 => ?_) (fun q1 => ?_)
    · exact absurd q1 (nI_ge (b := r) hi4 (by omega))
    · refine sw_iload_n O (xx_dt dd_X14_power 7 rfl) rfl ?_
      refine sw_bipush (x := 6) O (xx_dt dd_X14_power 8 rfl) (by decide) ?_
      refine sw_imul O (xx_dt dd_X14_power 9 rfl) ?_
      refine sw_istore_n (ls2 := [.int (nI r), .int (s4 * 6), .int (nI i4)]) O (xx_dt dd_X14_power 10 rfl) (by decide) rfl ?_
      refine sw_iinc (y := nI (i4 + 1)) (ls2 := [.int (nI r), .int (s4 * 6), .int (nI (i4 + 1))]) O (xx_dt dd_X14_power 11 rfl) rfl (nI_1 _) (by decide) rfl ?_
      refine sw_goto (tgt := 4) O (xx_dt dd_X14_power 12 rfl) (by decide) ?_
      exact kk4
  · show SW Y _ _ (h) 4 [.int (nI r), .int (x_power_4 r 1), .int (nI r)] []
    refine sw_iload_n O (xx_dt dd_X14_power 4 rfl) rfl ?_
    refine sw_iload_n O (xx_dt dd_X14_power 5 rfl) rfl ?_
    refine sw_icmp_ge (tgt := 20) O (xx_dt dd_X14_power 6 rfl) (by decide) (fun q1 => ?_) (fun q1 => ?_)
    · refine sw_iload_n O (xx_dt dd_X14_power 13 rfl) rfl ?_
      exact sw_iret O (xx_dt dd_X14_power 14 rfl) rfl rfl (by rw [hQ]; exact ⟨by unfold f_power; rfl, rfl⟩)
    · exact absurd (Int32.le_refl _) q1
theorem power_vals : ∀ r, r < 6 → f_power r = nI (6 ^ r) := by
  intro r hr
  match r, hr with
  | 0, _ => rfl
  | 1, _ => rfl
  | 2, _ => rfl
  | 3, _ => rfl
  | 4, _ => rfl
  | 5, _ => rfl
theorem power_ne {r : Nat} (hr : r < 6) : ¬ f_power r = 0 := by
  match r, hr with
  | 0, _ => decide
  | 1, _ => decide
  | 2, _ => decide
  | 3, _ => decide
  | 4, _ => decide
  | 5, _ => decide
def f_of (c : Int32) (r : Nat) : Int32 := (c / (f_power r)) - (c / (f_power r)) / 6 * 6
theorem ct_X14_of {l : Launch} {h : XH} (hl : l.stackTraces = false) {c : Int32} {r : Nat} (hr : r < 6) : XEx l m_X14_of 1 0 0 [.int c, .int (nI r)] (h) (some (.int (f_of c r))) (h) := by
  refine XMet.of hl rfl rfl (Nat.le_of_ble_eq_true rfl) (fun Y O hh hQ => ?_)
  show SW Y 0 0 (h) 0 [.int c, .int (nI r)] []
  refine sw_iload_n O (xx_dt dd_X14_of 0 rfl) rfl ?_
  refine sw_iload_n O (xx_dt dd_X14_of 1 rfl) rfl ?_
  refine sw_callSx (as := [.int (nI r)]) (st := [.int c]) (st2 := [.int (f_power r), .int c]) O (ct_X14_power hl (r := r) (by omega)) ce_X14_power ml_X14_49 st_X14_power (xx_dt dd_X14_of 2 rfl) (by decide) rfl rfl (Nat.le_of_ble_eq_true rfl) rfl ?_
  refine sw_idiv O (xx_dt dd_X14_of 3 rfl) (power_ne hr) ?_
  refine sw_bipush (x := 6) O (xx_dt dd_X14_of 4 rfl) (by decide) ?_
  refine sw_irem O (xx_dt dd_X14_of 5 rfl) (by first | decide | assumption) ?_
  exact sw_iret O (xx_dt dd_X14_of 6 rfl) rfl rfl (by rw [hQ]; exact ⟨by unfold f_of; rfl, rfl⟩)
def f_with (c : Int32) (r : Nat) (m : Int32) : Int32 := c + ((m - (f_of c r)) * (f_power r))
theorem ct_X14_with {l : Launch} {h : XH} (hl : l.stackTraces = false) {c m : Int32} {r : Nat} (hr : r < 6) : XEx l m_X14_with 2 0 0 [.int c, .int (nI r), .int m] (h) (some (.int (f_with c r m))) (h) := by
  refine XMet.of hl rfl rfl (Nat.le_of_ble_eq_true rfl) (fun Y O hh hQ => ?_)
  show SW Y 0 0 (h) 0 [.int c, .int (nI r), .int m] []
  refine sw_iload_n O (xx_dt dd_X14_with 0 rfl) rfl ?_
  refine sw_iload_n O (xx_dt dd_X14_with 1 rfl) rfl ?_
  refine sw_iload_n O (xx_dt dd_X14_with 2 rfl) rfl ?_
  refine sw_iload_n O (xx_dt dd_X14_with 3 rfl) rfl ?_
  refine sw_callSx (as := [.int c, .int (nI r)]) (st := [.int m, .int c]) (st2 := [.int (f_of c r), .int m, .int c]) O (ct_X14_of hl (c := c) (r := r) (by omega)) ce_X14_of ml_X14_53 st_X14_of (xx_dt dd_X14_with 4 rfl) (by decide) rfl rfl (Nat.le_of_ble_eq_true rfl) rfl ?_
  refine sw_isub O (xx_dt dd_X14_with 5 rfl) ?_
  refine sw_iload_n O (xx_dt dd_X14_with 6 rfl) rfl ?_
  refine sw_callSx (as := [.int (nI r)]) (st := [.int (m - (f_of c r)), .int c]) (st2 := [.int (f_power r), .int (m - (f_of c r)), .int c]) O (ct_X14_power hl (r := r) (by omega)) ce_X14_power ml_X14_49 st_X14_power (xx_dt dd_X14_with 7 rfl) (by decide) rfl rfl (Nat.le_of_ble_eq_true rfl) rfl ?_
  refine sw_imul O (xx_dt dd_X14_with 8 rfl) ?_
  refine sw_iadd O (xx_dt dd_X14_with 9 rfl) ?_
  exact sw_iret O (xx_dt dd_X14_with 10 rfl) rfl rfl (by rw [hQ]; exact ⟨by unfold f_with; rfl, rfl⟩)
def x_Mpoints_4 (σ : XS9) (c : Int32) (R : Nat) (s0 : Int32) : Int32 := xit (fun i4 s4 => s4 + ((f_of c i4) * (σ (5010 + i4) 1))) R 0 s0
def f_Mpoints (σ : XS9) (c : Int32) (R : Nat) : Int32 := (x_Mpoints_4 σ c R 0)
theorem ct_X14_points {l : Launch} {h : XH} (hl : l.stackTraces = false) {z : Int64} {σ : XS9} (hbs : xx_bs h) {R : Nat} (hR : σ 5001 900 = nI R) (hR5 : R ≤ 5) {c : Int32} : XEx l m_X14_points 3 0 0 [.ref 5000, .int c] (setM z σ h) (some (.int (f_Mpoints σ c R))) (setM z σ h) := by
  refine XMet.of hl rfl rfl (Nat.le_of_ble_eq_true rfl) (fun Y O hh hQ => ?_)
  show SW Y 0 0 (setM z σ h) 0 [.ref 5000, .int c, xx_d, xx_d] []
  refine sw_iconst (x := 0) O (xx_dt dd_X14_points 0 rfl) (by decide) ?_
  refine sw_istore_n (ls2 := [.ref 5000, .int c, .int 0, xx_d]) O (xx_dt dd_X14_points 1 rfl) (by decide) rfl ?_
  refine sw_iconst (x := 0) O (xx_dt dd_X14_points 2 rfl) (by decide) ?_
  refine sw_istore_n (ls2 := [.ref 5000, .int c, .int 0, .int 0]) O (xx_dt dd_X14_points 3 rfl) (by decide) rfl ?_
  refine sw_for (fun i4 s4 => s4 + ((f_of c i4) * (σ (5010 + i4) 1))) (fun _ _ => True) (hp := fun _ => setM z σ h) (hd := 4) (lc := fun i4 s4 => [.ref 5000, .int c, .int s4, .int (nI i4)]) (N := R) (fun i4 s4 hi4 hP4 => ⟨trivial, fun kk4 => ?_⟩) R 0 0 (by omega) (trivial) (fun hP4 => ?_)
  · refine sw_iload_n O (xx_dt dd_X14_points 4 rfl) rfl ?_
    refine sw_aload_n O (xx_dt dd_X14_points 5 rfl) rfl ?_
    refine sw_get (v := .ref 5001) O (xx_dt dd_X14_points 6 rfl) cl_X14 fl_X14_23 (lm_mod) (by decide) rfl ?_
    refine sw_callVL (ci := 6) (as := []) (st := [.int (nI i4)]) (st2 := [.int (nI R), .int (nI i4)]) O (ct_AL_size hl (lm_5001 (R := R) hR (by omega))) ce_Jx4a65c_size_8abf5 ml_X14_57 iv_Jx4a65c_size_8abf5 cl_Jx4a65c rfl (lm_5001 (R := R) hR (by omega)) (xx_dt dd_X14_points 7 rfl) (by decide) rfl rfl (Nat.le_of_ble_eq_true rfl) rfl ?_
    refine sw_icmp_ge (tgt := 44) O (xx_dt dd_X14_points 8 rfl) (by decide) (fun q1 => ?_) (fun q1 => ?_)
    · exact absurd q1 (nI_ge (b := R) hi4 (by omega))
    · refine sw_iload_n O (xx_dt dd_X14_points 9 rfl) rfl ?_
      refine sw_iload_n O (xx_dt dd_X14_points 10 rfl) rfl ?_
      refine sw_iload_n O (xx_dt dd_X14_points 11 rfl) rfl ?_
      refine sw_callSx (as := [.int c, .int (nI i4)]) (st := [.int s4]) (st2 := [.int (f_of c i4), .int s4]) O (ct_X14_of hl (c := c) (r := i4) (by omega)) ce_X14_of ml_X14_53 st_X14_of (xx_dt dd_X14_points 12 rfl) (by decide) rfl rfl (Nat.le_of_ble_eq_true rfl) rfl ?_
      refine sw_aload_n O (xx_dt dd_X14_points 13 rfl) rfl ?_
      refine sw_get (v := .ref 5001) O (xx_dt dd_X14_points 14 rfl) cl_X14 fl_X14_23 (lm_mod) (by decide) rfl ?_
      refine sw_iload_n O (xx_dt dd_X14_points 15 rfl) rfl ?_
      refine sw_callVL (ci := 6) (as := [.int (nI i4)]) (st := [.int (f_of c i4), .int s4]) (st2 := [.ref (5010 + i4), .int (f_of c i4), .int s4]) O (ct_get hl hbs (lm_5001 (R := R) hR (by omega)) (by omega) (i := i4) (by omega) (by omega) rfl) ce_Jx4a65c_get_915e3 ml_X14_61 iv_Jx4a65c_get_915e3 cl_Jx4a65c rfl (lm_5001 (R := R) hR (by omega)) (xx_dt dd_X14_points 16 rfl) (by decide) rfl rfl (Nat.le_of_ble_eq_true rfl) rfl ?_
      refine sw_castO O (xx_dt dd_X14_points 17 rfl) cl_X12 (lm_reg (R := R) hR (by omega) (j := i4) (by omega)) cw_X14_65 ?_
      refine sw_get (v := .int (σ (5010 + i4) 1)) O (xx_dt dd_X14_points 18 rfl) cl_X12 fl_X14_67 (lm_reg (R := R) hR (by omega) (j := i4) (by omega)) (by decide) rfl ?_
      refine sw_imul O (xx_dt dd_X14_points 19 rfl) ?_
      refine sw_iadd O (xx_dt dd_X14_points 20 rfl) ?_
      refine sw_istore_n (ls2 := [.ref 5000, .int c, .int (s4 + ((f_of c i4) * (σ (5010 + i4) 1))), .int (nI i4)]) O (xx_dt dd_X14_points 21 rfl) (by decide) rfl ?_
      refine sw_iinc (y := nI (i4 + 1)) (ls2 := [.ref 5000, .int c, .int (s4 + ((f_of c i4) * (σ (5010 + i4) 1))), .int (nI (i4 + 1))]) O (xx_dt dd_X14_points 22 rfl) rfl (nI_1 _) (by decide) rfl ?_
      refine sw_goto (tgt := 4) O (xx_dt dd_X14_points 23 rfl) (by decide) ?_
      exact kk4
  · show SW Y _ _ (setM z σ h) 4 [.ref 5000, .int c, .int (x_Mpoints_4 σ c R 0), .int (nI R)] []
    refine sw_iload_n O (xx_dt dd_X14_points 4 rfl) rfl ?_
    refine sw_aload_n O (xx_dt dd_X14_points 5 rfl) rfl ?_
    refine sw_get (v := .ref 5001) O (xx_dt dd_X14_points 6 rfl) cl_X14 fl_X14_23 (lm_mod) (by decide) rfl ?_
    refine sw_callVL (ci := 6) (as := []) (st := [.int (nI R)]) (st2 := [.int (nI R), .int (nI R)]) O (ct_AL_size hl (lm_5001 (R := R) hR (by omega))) ce_Jx4a65c_size_8abf5 ml_X14_57 iv_Jx4a65c_size_8abf5 cl_Jx4a65c rfl (lm_5001 (R := R) hR (by omega)) (xx_dt dd_X14_points 7 rfl) (by decide) rfl rfl (Nat.le_of_ble_eq_true rfl) rfl ?_
    refine sw_icmp_ge (tgt := 44) O (xx_dt dd_X14_points 8 rfl) (by decide) (fun q1 => ?_) (fun q1 => ?_)
    · refine sw_iload_n O (xx_dt dd_X14_points 24 rfl) rfl ?_
      exact sw_iret O (xx_dt dd_X14_points 25 rfl) rfl rfl (by rw [hQ]; exact ⟨by unfold f_Mpoints; rfl, rfl⟩)
    · exact absurd (Int32.le_refl _) q1
def f_Mrefuse (σ : XS9) (x : Int32) : Int32 := 0
def g_Mrefuse (σ : XS9) (x : Int32) : XS9 := u2 σ 5000 0 x
theorem ct_refuse0 {l : Launch} {h : XH} (hl : l.stackTraces = false) {z : Int64} {σ : XS9} (hbs : xx_bs h) {x : Int32} : XEx l m_X14_refuse 0 0 0 [.ref 5000, .int x] (setM z σ h) (some (.int (f_Mrefuse σ x))) (setM z (g_Mrefuse σ x) h) := by
  refine XMet.of hl rfl rfl (Nat.le_of_ble_eq_true rfl) (fun Y O hh hQ => ?_)
  show SW Y 0 0 (setM z σ h) 0 [.ref 5000, .int x] []
  refine sw_aload_n O (xx_dt dd_X14_refuse 0 rfl) rfl ?_
  refine sw_iload_n O (xx_dt dd_X14_refuse 1 rfl) rfl ?_
  refine sw_put (h2 := setM z (u2 σ 5000 0 x) h) O (xx_dt dd_X14_refuse 2 rfl) cl_X14 fl_X14_46 (lm_mod) (by decide) (by omega) rfl (fun _ => ⟨rfl, rfl⟩) (pm_mod (by omega)) ?_
  refine sw_iconst (x := 0) O (xx_dt dd_X14_refuse 3 rfl) (by decide) ?_
  exact sw_iret O (xx_dt dd_X14_refuse 4 rfl) rfl rfl (by rw [hQ]; exact ⟨by unfold f_Mrefuse; rfl, by unfold g_Mrefuse; rfl⟩)
theorem ct_X14_refuse {l : Launch} {h : XH} (hl : l.stackTraces = false) {z : Int64} {σ : XS9} (hbs : xx_bs h) {x : Int32} : XEx l m_X14_refuse 0 0 0 [.ref 5000, .int x] (setM z σ h) (some (.int 0)) (setM z (u2 σ 5000 0 x) h) := ct_refuse0 hl hbs
def f_Mthrown (σ : XS9)  : Int32 := σ 5000 0
theorem ct_X14_thrown {l : Launch} {h : XH} (hl : l.stackTraces = false) {z : Int64} {σ : XS9} (hbs : xx_bs h)  : XEx l m_X14_thrown 0 0 0 [.ref 5000] (setM z σ h) (some (.int (f_Mthrown σ))) (setM z σ h) := by
  refine XMet.of hl rfl rfl (Nat.le_of_ble_eq_true rfl) (fun Y O hh hQ => ?_)
  show SW Y 0 0 (setM z σ h) 0 [.ref 5000] []
  refine sw_aload_n O (xx_dt dd_X14_thrown 0 rfl) rfl ?_
  refine sw_get (v := .int (σ 5000 0)) O (xx_dt dd_X14_thrown 1 rfl) cl_X14 fl_X14_46 (lm_mod) (by decide) rfl ?_
  exact sw_iret O (xx_dt dd_X14_thrown 2 rfl) rfl rfl (by rw [hQ]; exact ⟨by unfold f_Mthrown; rfl, rfl⟩)
def f_MisRegion (σ : XS9) (x : Int32) (R : Nat) : Int32 := bZ (n_bt x 0 ((nI R) - 1))
theorem ct_isRegion0 {l : Launch} {h : XH} (hl : l.stackTraces = false) {z : Int64} {σ : XS9} (hbs : xx_bs h) {R : Nat} (hR : σ 5001 900 = nI R) (hR5 : R ≤ 5) {x : Int32} : XEx l m_X14_isRegion 1 0 0 [.ref 5000, .int x] (setM z σ h) (some (.int (f_MisRegion σ x R))) (setM z σ h) := by
  refine XMet.of hl rfl rfl (Nat.le_of_ble_eq_true rfl) (fun Y O hh hQ => ?_)
  show SW Y 0 0 (setM z σ h) 0 [.ref 5000, .int x] []
  refine sw_iload_n O (xx_dt dd_X14_isRegion 0 rfl) rfl ?_
  refine sw_iconst (x := 0) O (xx_dt dd_X14_isRegion 1 rfl) (by decide) ?_
  refine sw_aload_n O (xx_dt dd_X14_isRegion 2 rfl) rfl ?_
  refine sw_get (v := .ref 5001) O (xx_dt dd_X14_isRegion 3 rfl) cl_X14 fl_X14_23 (lm_mod) (by decide) rfl ?_
  refine sw_callVL (ci := 6) (as := []) (st := [.int 0, .int x]) (st2 := [.int (nI R), .int 0, .int x]) O (ct_AL_size hl (lm_5001 (R := R) hR (by omega))) ce_Jx4a65c_size_8abf5 ml_X14_57 iv_Jx4a65c_size_8abf5 cl_Jx4a65c rfl (lm_5001 (R := R) hR (by omega)) (xx_dt dd_X14_isRegion 4 rfl) (by decide) rfl rfl (Nat.le_of_ble_eq_true rfl) rfl ?_
  refine sw_iconst (x := 1) O (xx_dt dd_X14_isRegion 5 rfl) (by decide) ?_
  refine sw_isub O (xx_dt dd_X14_isRegion 6 rfl) ?_
  refine sw_callSx (as := [.int x, .int 0, .int ((nI R) - 1)]) (st := []) (st2 := [.int (bZ (n_bt x 0 ((nI R) - 1)))]) O (ct_X14_is hl) ce_X14_is ml_X14_70 st_X14_is (xx_dt dd_X14_isRegion 7 rfl) (by decide) rfl rfl (Nat.le_of_ble_eq_true rfl) rfl ?_
  exact sw_iret O (xx_dt dd_X14_isRegion 8 rfl) rfl (xx_bool bZ_or) (by rw [hQ]; exact ⟨by unfold f_MisRegion; rfl, rfl⟩)
def f_MisBidder (σ : XS9) (x : Int32) (B : Nat) : Int32 := bZ (n_bt x 0 ((nI B) - 1))
theorem ct_isBidder0 {l : Launch} {h : XH} (hl : l.stackTraces = false) {z : Int64} {σ : XS9} (hbs : xx_bs h) {B : Nat} (hB : σ 5002 900 = nI B) (hB6 : B ≤ 6) {x : Int32} : XEx l m_X14_isBidder 1 0 0 [.ref 5000, .int x] (setM z σ h) (some (.int (f_MisBidder σ x B))) (setM z σ h) := by
  refine XMet.of hl rfl rfl (Nat.le_of_ble_eq_true rfl) (fun Y O hh hQ => ?_)
  show SW Y 0 0 (setM z σ h) 0 [.ref 5000, .int x] []
  refine sw_iload_n O (xx_dt dd_X14_isBidder 0 rfl) rfl ?_
  refine sw_iconst (x := 0) O (xx_dt dd_X14_isBidder 1 rfl) (by decide) ?_
  refine sw_aload_n O (xx_dt dd_X14_isBidder 2 rfl) rfl ?_
  refine sw_get (v := .ref 5002) O (xx_dt dd_X14_isBidder 3 rfl) cl_X14 fl_X14_27 (lm_mod) (by decide) rfl ?_
  refine sw_callVL (ci := 6) (as := []) (st := [.int 0, .int x]) (st2 := [.int (nI B), .int 0, .int x]) O (ct_AL_size hl (lm_5002 (B := B) hB (by omega))) ce_Jx4a65c_size_8abf5 ml_X14_57 iv_Jx4a65c_size_8abf5 cl_Jx4a65c rfl (lm_5002 (B := B) hB (by omega)) (xx_dt dd_X14_isBidder 4 rfl) (by decide) rfl rfl (Nat.le_of_ble_eq_true rfl) rfl ?_
  refine sw_iconst (x := 1) O (xx_dt dd_X14_isBidder 5 rfl) (by decide) ?_
  refine sw_isub O (xx_dt dd_X14_isBidder 6 rfl) ?_
  refine sw_callSx (as := [.int x, .int 0, .int ((nI B) - 1)]) (st := []) (st2 := [.int (bZ (n_bt x 0 ((nI B) - 1)))]) O (ct_X14_is hl) ce_X14_is ml_X14_70 st_X14_is (xx_dt dd_X14_isBidder 7 rfl) (by decide) rfl rfl (Nat.le_of_ble_eq_true rfl) rfl ?_
  exact sw_iret O (xx_dt dd_X14_isBidder 8 rfl) rfl (xx_bool bZ_or) (by rw [hQ]; exact ⟨by unfold f_MisBidder; rfl, rfl⟩)
def f_MisRound (σ : XS9) (x : Int32) (K : Nat) : Int32 := bZ (n_bt x 1 (nI K))
theorem ct_isRound0 {l : Launch} {h : XH} (hl : l.stackTraces = false) {z : Int64} {σ : XS9} (hbs : xx_bs h) {K : Nat} (hK : σ 5003 900 = nI K) (hK60 : K ≤ 60) {x : Int32} : XEx l m_X14_isRound 1 0 0 [.ref 5000, .int x] (setM z σ h) (some (.int (f_MisRound σ x K))) (setM z σ h) := by
  refine XMet.of hl rfl rfl (Nat.le_of_ble_eq_true rfl) (fun Y O hh hQ => ?_)
  show SW Y 0 0 (setM z σ h) 0 [.ref 5000, .int x] []
  refine sw_iload_n O (xx_dt dd_X14_isRound 0 rfl) rfl ?_
  refine sw_iconst (x := 1) O (xx_dt dd_X14_isRound 1 rfl) (by decide) ?_
  refine sw_aload_n O (xx_dt dd_X14_isRound 2 rfl) rfl ?_
  refine sw_get (v := .ref 5003) O (xx_dt dd_X14_isRound 3 rfl) cl_X14 fl_X14_30 (lm_mod) (by decide) rfl ?_
  refine sw_callVL (ci := 6) (as := []) (st := [.int 1, .int x]) (st2 := [.int (nI K), .int 1, .int x]) O (ct_AL_size hl (lm_5003 (K := K) hK (by omega))) ce_Jx4a65c_size_8abf5 ml_X14_57 iv_Jx4a65c_size_8abf5 cl_Jx4a65c rfl (lm_5003 (K := K) hK (by omega)) (xx_dt dd_X14_isRound 4 rfl) (by decide) rfl rfl (Nat.le_of_ble_eq_true rfl) rfl ?_
  refine sw_callSx (as := [.int x, .int 1, .int (nI K)]) (st := []) (st2 := [.int (bZ (n_bt x 1 (nI K)))]) O (ct_X14_is hl) ce_X14_is ml_X14_70 st_X14_is (xx_dt dd_X14_isRound 5 rfl) (by decide) rfl rfl (Nat.le_of_ble_eq_true rfl) rfl ?_
  exact sw_iret O (xx_dt dd_X14_isRound 6 rfl) rfl (xx_bool bZ_or) (by rw [hQ]; exact ⟨by unfold f_MisRound; rfl, rfl⟩)
theorem sub1_lt {x : Int32} {R : Nat} (hR : R < 1000) : n_bt x 0 (nI R - 1) ↔ n_lt x R := by
  have e1 : (nI R - 1).toInt = (R : Int) - 1 := by
    have h1 := toI_nI (k := R) (by omega)
    rw [Int32.toInt_sub, h1]
    have : (1 : Int32).toInt = 1 := rfl
    rw [this]
    rw [Int.bmod_def]
    omega
  unfold n_bt
  rw [i_le, i_le, e1, n_lt_iff (by omega), i_lt, i_lt, toI_nI (by omega)]
  have : (0 : Int32).toInt = 0 := rfl
  rw [this]
  omega
theorem rd_bt {x : Int32} {K : Nat} (hK : K < 1000) : n_bt x 1 (nI K) ↔ n_rd x K := by
  rw [n_rd_iff (by omega)]
  unfold n_bt
  exact and_congr Int32.not_lt.symm Iff.rfl
theorem bZ_congr {p q : Prop} [Decidable p] [Decidable q] (h : p ↔ q) : bZ p = bZ q := by
  unfold bZ
  by_cases a : p
  · rw [if_pos a, if_pos (h.mp a)]
  · rw [if_neg a, if_neg (fun e => a (h.mpr e))]
theorem ct_X14_isRegion {l : Launch} {h : XH} (hl : l.stackTraces = false) {z : Int64} {σ : XS9} (hbs : xx_bs h) {R : Nat} (hR : σ 5001 900 = nI R) (hR5 : R ≤ 5) {x : Int32} : XEx l m_X14_isRegion 1 0 0 [.ref 5000, .int x] (setM z σ h) (some (.int (bZ (n_lt x R)))) (setM z σ h) := by
  rw [← bZ_congr (sub1_lt (R := R) (by omega))]
  exact ct_isRegion0 hl hbs hR hR5
theorem ct_X14_isBidder {l : Launch} {h : XH} (hl : l.stackTraces = false) {z : Int64} {σ : XS9} (hbs : xx_bs h) {B : Nat} (hB : σ 5002 900 = nI B) (hB6 : B ≤ 6) {x : Int32} : XEx l m_X14_isBidder 1 0 0 [.ref 5000, .int x] (setM z σ h) (some (.int (bZ (n_lt x B)))) (setM z σ h) := by
  rw [← bZ_congr (sub1_lt (R := B) (by omega))]
  exact ct_isBidder0 hl hbs hB hB6
theorem ct_X14_isRound {l : Launch} {h : XH} (hl : l.stackTraces = false) {z : Int64} {σ : XS9} (hbs : xx_bs h) {K : Nat} (hK : σ 5003 900 = nI K) (hK60 : K ≤ 60) {x : Int32} : XEx l m_X14_isRound 1 0 0 [.ref 5000, .int x] (setM z σ h) (some (.int (bZ (n_rd x K)))) (setM z σ h) := by
  rw [← bZ_congr (rd_bt (K := K) (by omega))]
  exact ct_isRound0 hl hbs hK hK60
def f_Mrules (σ : XS9) (x y : Int32) : Int32 := (if n_bt x 1 5 then (if (σ 5000 1) = 0 then σ 5000 2 else 0) else 0)
def g_Mrules (σ : XS9) (x y : Int32) : XS9 := (if n_bt x 1 5 then (if (σ 5000 1) = 0 then u2 (u2 (u2 σ 5000 0 0) 5000 2 x) 5000 3 y else u2 (u2 σ 5000 0 0) 5000 0 2) else u2 (u2 σ 5000 0 0) 5000 0 1)
theorem ct_X14_rules {l : Launch} {h : XH} (hl : l.stackTraces = false) {z : Int64} {σ : XS9} (hbs : xx_bs h) {x y : Int32} (hy : y = 0 ∨ y = 1) : XEx l m_X14_rules 1 0 0 [.ref 5000, .int x, .int y] (setM z σ h) (some (.int (f_Mrules σ x y))) (setM z (g_Mrules σ x y) h) := by
  refine XMet.of hl rfl rfl (Nat.le_of_ble_eq_true rfl) (fun Y O hh hQ => ?_)
  show SW Y 0 0 (setM z σ h) 0 [.ref 5000, .int x, .int y, xx_d] []
  refine sw_aload_n O (xx_dt dd_X14_rules 0 rfl) rfl ?_
  refine sw_iconst (x := 0) O (xx_dt dd_X14_rules 1 rfl) (by decide) ?_
  refine sw_put (h2 := setM z (u2 σ 5000 0 0) h) O (xx_dt dd_X14_rules 2 rfl) cl_X14 fl_X14_46 (lm_mod) (by decide) (by omega) rfl (fun _ => ⟨rfl, rfl⟩) (pm_mod (by omega)) ?_
  refine sw_iload_n O (xx_dt dd_X14_rules 3 rfl) rfl ?_
  refine sw_iconst (x := 1) O (xx_dt dd_X14_rules 4 rfl) (by decide) ?_
  refine sw_iconst (x := 5) O (xx_dt dd_X14_rules 5 rfl) (by decide) ?_
  refine sw_callSx (as := [.int x, .int 1, .int 5]) (st := []) (st2 := [.int (bZ (n_bt x 1 5))]) O (ct_X14_is hl) ce_X14_is ml_X14_70 st_X14_is (xx_dt dd_X14_rules 6 rfl) (by decide) rfl rfl (Nat.le_of_ble_eq_true rfl) rfl ?_
  refine sw_if_neB (tgt := 20) O (xx_dt dd_X14_rules 7 rfl) (by decide) (fun q1 => ?_) (fun q1 => ?_)
  · refine sw_aload_n O (xx_dt dd_X14_rules 12 rfl) rfl ?_
    refine sw_get (v := .int (σ 5000 1)) O (xx_dt dd_X14_rules 13 rfl) cl_X14 fl_X14_77 (lm_mod) (by decide) rfl ?_
    refine sw_if_eq (tgt := 33) O (xx_dt dd_X14_rules 14 rfl) (by decide) (fun q2 => ?_) (fun q2 => ?_)
    · refine sw_aload_n O (xx_dt dd_X14_rules 19 rfl) rfl ?_
      refine sw_get (v := .int (σ 5000 2)) O (xx_dt dd_X14_rules 20 rfl) cl_X14 fl_X14_7 (lm_mod) (by decide) rfl ?_
      refine sw_istore_n (ls2 := [.ref 5000, .int x, .int y, .int (σ 5000 2)]) O (xx_dt dd_X14_rules 21 rfl) (by decide) rfl ?_
      refine sw_aload_n O (xx_dt dd_X14_rules 22 rfl) rfl ?_
      refine sw_iload_n O (xx_dt dd_X14_rules 23 rfl) rfl ?_
      refine sw_put (h2 := setM z (u2 (u2 σ 5000 0 0) 5000 2 x) h) O (xx_dt dd_X14_rules 24 rfl) cl_X14 fl_X14_7 (lm_mod) (by decide) (by omega) rfl (fun _ => ⟨rfl, rfl⟩) (pm_mod (by omega)) ?_
      refine sw_aload_n O (xx_dt dd_X14_rules 25 rfl) rfl ?_
      refine sw_iload_n O (xx_dt dd_X14_rules 26 rfl) rfl ?_
      refine sw_put (h2 := setM z (u2 (u2 (u2 σ 5000 0 0) 5000 2 x) 5000 3 y) h) O (xx_dt dd_X14_rules 27 rfl) cl_X14 fl_X14_13 (lm_mod) (by decide) (by omega) rfl (fun _ => ⟨by rcases hy with rfl | rfl <;> rfl, by rcases hy with rfl | rfl <;> rfl⟩) (pm_mod (by omega)) ?_
      refine sw_iload_n O (xx_dt dd_X14_rules 28 rfl) rfl ?_
      exact sw_iret O (xx_dt dd_X14_rules 29 rfl) rfl rfl (by rw [hQ]; exact ⟨by unfold f_Mrules; simp only [if_pos q1, if_pos q2], by unfold g_Mrules; simp only [if_pos q1, if_pos q2]⟩)
    · refine sw_aload_n O (xx_dt dd_X14_rules 15 rfl) rfl ?_
      refine sw_iconst (x := 2) O (xx_dt dd_X14_rules 16 rfl) (by decide) ?_
      refine sw_callVx (as := [.int 2]) (st := []) (st2 := [.int 0]) O (ct_X14_refuse hl (z := z) (σ := u2 σ 5000 0 0) hbs (x := 2)) ce_X14_refuse ml_X14_74 iv_X14_refuse cl_X14 rfl (lm_mod) (xx_dt dd_X14_rules 17 rfl) (by decide) rfl rfl (Nat.le_of_ble_eq_true rfl) rfl ?_
      exact sw_iret O (xx_dt dd_X14_rules 18 rfl) rfl rfl (by rw [hQ]; exact ⟨by unfold f_Mrules; simp only [if_pos q1, if_neg q2], by unfold g_Mrules; simp only [if_pos q1, if_neg q2]⟩)
  · refine sw_aload_n O (xx_dt dd_X14_rules 8 rfl) rfl ?_
    refine sw_iconst (x := 1) O (xx_dt dd_X14_rules 9 rfl) (by decide) ?_
    refine sw_callVx (as := [.int 1]) (st := []) (st2 := [.int 0]) O (ct_X14_refuse hl (z := z) (σ := u2 σ 5000 0 0) hbs (x := 1)) ce_X14_refuse ml_X14_74 iv_X14_refuse cl_X14 rfl (lm_mod) (xx_dt dd_X14_rules 10 rfl) (by decide) rfl rfl (Nat.le_of_ble_eq_true rfl) rfl ?_
    exact sw_iret O (xx_dt dd_X14_rules 11 rfl) rfl rfl (by rw [hQ]; exact ⟨by unfold f_Mrules; simp only [if_neg q1], by unfold g_Mrules; simp only [if_neg q1]⟩)
def f_Mstep (σ : XS9) (x : Int32) : Int32 := (if n_bt x 1 20 then (if (σ 5000 1) ≤ 1 then σ 5000 4 else 0) else 0)
def g_Mstep (σ : XS9) (x : Int32) : XS9 := (if n_bt x 1 20 then (if (σ 5000 1) ≤ 1 then u2 (u2 σ 5000 0 0) 5000 4 x else u2 (u2 σ 5000 0 0) 5000 0 2) else u2 (u2 σ 5000 0 0) 5000 0 1)
theorem ct_X14_step {l : Launch} {h : XH} (hl : l.stackTraces = false) {z : Int64} {σ : XS9} (hbs : xx_bs h) {x : Int32} : XEx l m_X14_step 1 0 0 [.ref 5000, .int x] (setM z σ h) (some (.int (f_Mstep σ x))) (setM z (g_Mstep σ x) h) := by
  refine XMet.of hl rfl rfl (Nat.le_of_ble_eq_true rfl) (fun Y O hh hQ => ?_)
  show SW Y 0 0 (setM z σ h) 0 [.ref 5000, .int x, xx_d] []
  refine sw_aload_n O (xx_dt dd_X14_step 0 rfl) rfl ?_
  refine sw_iconst (x := 0) O (xx_dt dd_X14_step 1 rfl) (by decide) ?_
  refine sw_put (h2 := setM z (u2 σ 5000 0 0) h) O (xx_dt dd_X14_step 2 rfl) cl_X14 fl_X14_46 (lm_mod) (by decide) (by omega) rfl (fun _ => ⟨rfl, rfl⟩) (pm_mod (by omega)) ?_
  refine sw_iload_n O (xx_dt dd_X14_step 3 rfl) rfl ?_
  refine sw_iconst (x := 1) O (xx_dt dd_X14_step 4 rfl) (by decide) ?_
  refine sw_bipush (x := 20) O (xx_dt dd_X14_step 5 rfl) (by decide) ?_
  refine sw_callSx (as := [.int x, .int 1, .int 20]) (st := []) (st2 := [.int (bZ (n_bt x 1 20))]) O (ct_X14_is hl) ce_X14_is ml_X14_70 st_X14_is (xx_dt dd_X14_step 6 rfl) (by decide) rfl rfl (Nat.le_of_ble_eq_true rfl) rfl ?_
  refine sw_if_neB (tgt := 21) O (xx_dt dd_X14_step 7 rfl) (by decide) (fun q1 => ?_) (fun q1 => ?_)
  · refine sw_aload_n O (xx_dt dd_X14_step 12 rfl) rfl ?_
    refine sw_get (v := .int (σ 5000 1)) O (xx_dt dd_X14_step 13 rfl) cl_X14 fl_X14_77 (lm_mod) (by decide) rfl ?_
    refine sw_iconst (x := 1) O (xx_dt dd_X14_step 14 rfl) (by decide) ?_
    refine sw_icmp_le (tgt := 35) O (xx_dt dd_X14_step 15 rfl) (by decide) (fun q2 => ?_) (fun q2 => ?_)
    · refine sw_aload_n O (xx_dt dd_X14_step 20 rfl) rfl ?_
      refine sw_get (v := .int (σ 5000 4)) O (xx_dt dd_X14_step 21 rfl) cl_X14 fl_X14_17 (lm_mod) (by decide) rfl ?_
      refine sw_istore_n (ls2 := [.ref 5000, .int x, .int (σ 5000 4)]) O (xx_dt dd_X14_step 22 rfl) (by decide) rfl ?_
      refine sw_aload_n O (xx_dt dd_X14_step 23 rfl) rfl ?_
      refine sw_iload_n O (xx_dt dd_X14_step 24 rfl) rfl ?_
      refine sw_put (h2 := setM z (u2 (u2 σ 5000 0 0) 5000 4 x) h) O (xx_dt dd_X14_step 25 rfl) cl_X14 fl_X14_17 (lm_mod) (by decide) (by omega) rfl (fun _ => ⟨rfl, rfl⟩) (pm_mod (by omega)) ?_
      refine sw_iload_n O (xx_dt dd_X14_step 26 rfl) rfl ?_
      exact sw_iret O (xx_dt dd_X14_step 27 rfl) rfl rfl (by rw [hQ]; exact ⟨by unfold f_Mstep; simp only [if_pos q1, if_pos q2], by unfold g_Mstep; simp only [if_pos q1, if_pos q2]⟩)
    · refine sw_aload_n O (xx_dt dd_X14_step 16 rfl) rfl ?_
      refine sw_iconst (x := 2) O (xx_dt dd_X14_step 17 rfl) (by decide) ?_
      refine sw_callVx (as := [.int 2]) (st := []) (st2 := [.int 0]) O (ct_X14_refuse hl (z := z) (σ := u2 σ 5000 0 0) hbs (x := 2)) ce_X14_refuse ml_X14_74 iv_X14_refuse cl_X14 rfl (lm_mod) (xx_dt dd_X14_step 18 rfl) (by decide) rfl rfl (Nat.le_of_ble_eq_true rfl) rfl ?_
      exact sw_iret O (xx_dt dd_X14_step 19 rfl) rfl rfl (by rw [hQ]; exact ⟨by unfold f_Mstep; simp only [if_pos q1, if_neg q2], by unfold g_Mstep; simp only [if_pos q1, if_neg q2]⟩)
  · refine sw_aload_n O (xx_dt dd_X14_step 8 rfl) rfl ?_
    refine sw_iconst (x := 1) O (xx_dt dd_X14_step 9 rfl) (by decide) ?_
    refine sw_callVx (as := [.int 1]) (st := []) (st2 := [.int 0]) O (ct_X14_refuse hl (z := z) (σ := u2 σ 5000 0 0) hbs (x := 1)) ce_X14_refuse ml_X14_74 iv_X14_refuse cl_X14 rfl (lm_mod) (xx_dt dd_X14_step 10 rfl) (by decide) rfl rfl (Nat.le_of_ble_eq_true rfl) rfl ?_
    exact sw_iret O (xx_dt dd_X14_step 11 rfl) rfl rfl (by rw [hQ]; exact ⟨by unfold f_Mstep; simp only [if_neg q1], by unfold g_Mstep; simp only [if_neg q1]⟩)
def f_Mknock (σ : XS9)  : Int32 := (σ 5000 6) + 1
def g_Mknock (σ : XS9)  : XS9 := u2 (u2 σ 5000 0 0) 5000 6 ((σ 5000 6) + 1)
theorem ct_X14_knock {l : Launch} {h : XH} (hl : l.stackTraces = false) {z : Int64} {σ : XS9} (hbs : xx_bs h)  : XEx l m_X14_knock 0 0 0 [.ref 5000] (setM z σ h) (some (.int (f_Mknock σ))) (setM z (g_Mknock σ) h) := by
  refine XMet.of hl rfl rfl (Nat.le_of_ble_eq_true rfl) (fun Y O hh hQ => ?_)
  show SW Y 0 0 (setM z σ h) 0 [.ref 5000] []
  refine sw_aload_n O (xx_dt dd_X14_knock 0 rfl) rfl ?_
  refine sw_iconst (x := 0) O (xx_dt dd_X14_knock 1 rfl) (by decide) ?_
  refine sw_put (h2 := setM z (u2 σ 5000 0 0) h) O (xx_dt dd_X14_knock 2 rfl) cl_X14 fl_X14_46 (lm_mod) (by decide) (by omega) rfl (fun _ => ⟨rfl, rfl⟩) (pm_mod (by omega)) ?_
  refine sw_aload_n O (xx_dt dd_X14_knock 3 rfl) rfl ?_
  refine sw_dup O (xx_dt dd_X14_knock 4 rfl) rfl ?_
  refine sw_get (v := .int (σ 5000 6)) O (xx_dt dd_X14_knock 5 rfl) cl_X14 fl_X14_371 (lm_mod) (by decide) rfl ?_
  refine sw_iconst (x := 1) O (xx_dt dd_X14_knock 6 rfl) (by decide) ?_
  refine sw_iadd O (xx_dt dd_X14_knock 7 rfl) ?_
  refine sw_put (h2 := setM z (u2 (u2 σ 5000 0 0) 5000 6 ((σ 5000 6) + 1)) h) O (xx_dt dd_X14_knock 8 rfl) cl_X14 fl_X14_371 (lm_mod) (by decide) (by omega) rfl (fun _ => ⟨rfl, rfl⟩) (pm_mod (by omega)) ?_
  refine sw_aload_n O (xx_dt dd_X14_knock 9 rfl) rfl ?_
  refine sw_get (v := .int ((σ 5000 6) + 1)) O (xx_dt dd_X14_knock 10 rfl) cl_X14 fl_X14_371 (lm_mod) (by decide) rfl ?_
  exact sw_iret O (xx_dt dd_X14_knock 11 rfl) rfl rfl (by rw [hQ]; exact ⟨by unfold f_Mknock; rfl, by unfold g_Mknock; rfl⟩)
