/-! ===== the reference: station, most, channel ===== -/
def f_Mstation (σ : XS9) (x y : Int32) (R C : Nat) : Int32 := (if n_lt x R then (if n_bt y 1 9999 then (if (nI (2 * C)) = 20 then 0 else nI C) else 0) else 0)
def g_Mstation (σ : XS9) (x y : Int32) (R C : Nat) : XS9 := (if n_lt x R then (if n_bt y 1 9999 then (if (nI (2 * C)) = 20 then u2 (u2 σ 5000 0 0) 5000 0 3 else g_addI (g_addI (u2 σ 5000 0 0) 5004 (2 * C) (nI (cn x))) 5004 (2 * C + 1) y) else u2 (u2 σ 5000 0 0) 5000 0 2) else u2 (u2 σ 5000 0 0) 5000 0 1)
theorem ct_X14_station {l : Launch} {h : XH} (hl : l.stackTraces = false) {z : Int64} {σ : XS9} (hbs : xx_bs h) (hfr : ∀ r, 5000 ≤ r → r < 20010 → h r = none) {R : Nat} (hR : σ 5001 900 = nI R) (hR5 : R ≤ 5) {C : Nat} (hS : σ 5004 900 = nI (2 * C)) (hC10 : C ≤ 10) {x y : Int32} : XEx l m_X14_station 9 4 90 [.ref 5000, .int x, .int y] (setM z σ h) (some (.int (f_Mstation σ x y R C))) (setM z (g_Mstation σ x y R C) h) := by
  refine XMet.of hl rfl rfl (Nat.le_of_ble_eq_true rfl) (fun Y O hh hQ => ?_)
  show SW Y 4 90 (setM z σ h) 0 [.ref 5000, .int x, .int y] []
  refine sw_aload_n O (xx_dt dd_X14_station 0 rfl) rfl ?_
  refine sw_iconst (x := 0) O (xx_dt dd_X14_station 1 rfl) (by decide) ?_
  refine sw_put (h2 := setM z (u2 σ 5000 0 0) h) O (xx_dt dd_X14_station 2 rfl) cl_X14 fl_X14_46 (lm_mod (σ := σ)) (by decide) (by omega) rfl (fun _ => ⟨rfl, rfl⟩) (pm_mod (σ := σ) (by omega)) ?_
  refine sw_aload_n O (xx_dt dd_X14_station 3 rfl) rfl ?_
  refine sw_iload_n O (xx_dt dd_X14_station 4 rfl) rfl ?_
  refine sw_callVx (as := [.int x]) (st := []) (st2 := [.int (bZ (n_lt x R))]) O (ct_X14_isRegion hl (z := z) (σ := u2 σ 5000 0 0) hbs (R := R) hR (by omega) (x := x)) ce_X14_isRegion ml_X14_91 iv_X14_isRegion cl_X14 rfl (lm_mod (σ := u2 σ 5000 0 0)) (xx_dt dd_X14_station 5 rfl) (by decide) rfl rfl (Nat.le_of_ble_eq_true rfl) rfl ?_
  refine sw_if_neB (tgt := 19) O (xx_dt dd_X14_station 6 rfl) (by decide) (fun q1 => ?_) (fun q1 => ?_)
  · have hc10 := q1
    refine sw_lsE (ls2 := [.ref 5000, .int (nI (cn x)), .int y]) (by rw [← hc10.1]) ?_
    have hd10 := hc10.2
    refine sw_iload_n O (xx_dt dd_X14_station 11 rfl) rfl ?_
    refine sw_iconst (x := 1) O (xx_dt dd_X14_station 12 rfl) (by decide) ?_
    refine sw_sipush (x := 9999) O (xx_dt dd_X14_station 13 rfl) (by decide) ?_
    refine sw_callSx (as := [.int y, .int 1, .int 9999]) (st := []) (st2 := [.int (bZ (n_bt y 1 9999))]) O (ct_X14_is hl) ce_X14_is ml_X14_70 st_X14_is (xx_dt dd_X14_station 14 rfl) (by decide) rfl rfl (Nat.le_of_ble_eq_true rfl) rfl ?_
    refine sw_if_neB (tgt := 36) O (xx_dt dd_X14_station 15 rfl) (by decide) (fun q2 => ?_) (fun q2 => ?_)
    · refine sw_aload_n O (xx_dt dd_X14_station 20 rfl) rfl ?_
      refine sw_get (v := .ref 5004) O (xx_dt dd_X14_station 21 rfl) cl_X14 fl_X14_33 (lm_mod (σ := u2 σ 5000 0 0)) (by decide) rfl ?_
      refine sw_callVL (ci := 6) (as := []) (st := []) (st2 := [.int (nI (2 * C))]) O (ct_AL_size hl (lm_5004 (σ := u2 σ 5000 0 0) (S := 2 * C) hS (by omega))) ce_Jx4a65c_size_8abf5 ml_X14_57 iv_Jx4a65c_size_8abf5 cl_Jx4a65c rfl (lm_5004 (σ := u2 σ 5000 0 0) (S := 2 * C) hS (by omega)) (xx_dt dd_X14_station 22 rfl) (by decide) rfl rfl (Nat.le_of_ble_eq_true rfl) rfl ?_
      refine sw_bipush (x := 20) O (xx_dt dd_X14_station 23 rfl) (by decide) ?_
      refine sw_icmp_ne (tgt := 54) O (xx_dt dd_X14_station 24 rfl) (by decide) (fun q3 => ?_) (fun q3 => ?_)
      · have hC9 : C < 10 := by rcases Nat.lt_or_ge C 10 with h9 | h9; exact h9; exact absurd (show nI (2 * C) = 20 from congrArg nI (show 2 * C = 20 by omega)) (by assumption)
        refine sw_aload_n O (xx_dt dd_X14_station 29 rfl) rfl ?_
        refine sw_get (v := .ref 5004) O (xx_dt dd_X14_station 30 rfl) cl_X14 fl_X14_33 (lm_mod (σ := u2 σ 5000 0 0)) (by decide) rfl ?_
        refine sw_iload_n O (xx_dt dd_X14_station 31 rfl) rfl ?_
        refine sw_callSx (k := 3) (n := 89) (k' := 1) (n' := 1) (as := [.int (nI (cn x))]) (st := [.ref 5004]) (st2 := [.ref (xx_box (nI (cn x)) (nmS (u2 σ 5000 0 0) (2 * C))), .ref 5004]) O (ct_val hl (z := z) (σ := u2 σ 5000 0 0) hbs (v := nI (cn x)) (e := nmS (u2 σ 5000 0 0) (2 * C)) (noq_sint (σ := u2 σ 5000 0 0) hS (by omega) _) (hfr (nmS (u2 σ 5000 0 0) (2 * C)) (by have h9 := nmS_r (σ := u2 σ 5000 0 0) (2 * C); omega) (by have h9 := nmS_r (σ := u2 σ 5000 0 0) (2 * C); omega)) (by have h9 := nmS_r (σ := u2 σ 5000 0 0) (2 * C); omega)) ce_J6_valueOf_2dffe ml_X14_206 st_J6_valueOf_2dffe (xx_dt dd_X14_station 32 rfl) (by decide) rfl rfl (Nat.le_of_ble_eq_true rfl) rfl ?_
        have hbs0 := hbs
        have hbs := bs_box (v := nI (cn x)) (e := nmS (u2 σ 5000 0 0) (2 * C)) hbs (by have h9 := nmS_r (σ := u2 σ 5000 0 0) (2 * C); omega) (by have h9 := nmS_r (σ := u2 σ 5000 0 0) (2 * C); omega) (by have h9 := nmS_r (σ := u2 σ 5000 0 0) (2 * C); omega)
        refine xx_wid (k' := 2 + 1) (n' := 49 + ((2 * C) + (2 * C) / 2 + 10)) (by omega) (by omega) (sw_callVL (k := 2) (n := 49) (k' := 1) (n' := (2 * C) + (2 * C) / 2 + 10) (ci := 6) (as := [.ref (xx_box (nI (cn x)) (nmS (u2 σ 5000 0 0) (2 * C)))]) (st := []) (st2 := [.int 1]) O (ct_add hl (lm_5004 (σ := u2 σ 5000 0 0) (S := 2 * C) hS (by omega)) (by omega) (hbs.1.imp fun f0 e => (setM_out (by omega)).trans e) (hbs.2.1.imp fun f0 e => (setM_out (by omega)).trans e) (setM_no2 hbs).1 (setM_no2 hbs).2 (ob_box hbs0 (noq_sint (σ := u2 σ 5000 0 0) hS (by omega) _)) (by omega) (fun k9 hk9 => .inr ⟨_, rfl, ob_C cl_J6 (lm_sbox (σ := u2 σ 5000 0 0) hbs (S := 2 * C) hS (by omega) (k := k9) hk9) ca_J6⟩)) ce_Jx4a65c_add_9ea2d ml_X14_87 iv_Jx4a65c_add_9ea2d cl_Jx4a65c rfl (lm_5004 (σ := u2 σ 5000 0 0) (S := 2 * C) hS (by omega)) (xx_dt dd_X14_station 33 rfl) (by decide) rfl rfl (Nat.le_of_ble_eq_true rfl) rfl ?_)
        refine sw_boxS (σ := u2 σ 5000 0 0) (n := 2 * C) hS (by omega) ?_
        have hbs := hbs0
        refine sw_pop O (xx_dt dd_X14_station 34 rfl) rfl ?_
        refine sw_aload_n O (xx_dt dd_X14_station 35 rfl) rfl ?_
        refine sw_get (v := .ref 5004) O (xx_dt dd_X14_station 36 rfl) cl_X14 fl_X14_33 (lm_mod (σ := g_addI (u2 σ 5000 0 0) 5004 (2 * C) (nI (cn x)))) (by decide) rfl ?_
        refine sw_iload_n O (xx_dt dd_X14_station 37 rfl) rfl ?_
        refine sw_callSx (k := 1) (n := 48) (k' := 1) (n' := 1) (as := [.int y]) (st := [.ref 5004]) (st2 := [.ref (xx_box y (nmS (g_addI (u2 σ 5000 0 0) 5004 (2 * C) (nI (cn x))) (2 * C + 1))), .ref 5004]) O (ct_val hl (z := z) (σ := g_addI (u2 σ 5000 0 0) 5004 (2 * C) (nI (cn x))) hbs (v := y) (e := nmS (g_addI (u2 σ 5000 0 0) 5004 (2 * C) (nI (cn x))) (2 * C + 1)) (noq_sint (σ := g_addI (u2 σ 5000 0 0) 5004 (2 * C) (nI (cn x))) addI_n (by omega) _) (hfr (nmS (g_addI (u2 σ 5000 0 0) 5004 (2 * C) (nI (cn x))) (2 * C + 1)) (by have h9 := nmS_r (σ := g_addI (u2 σ 5000 0 0) 5004 (2 * C) (nI (cn x))) (2 * C + 1); omega) (by have h9 := nmS_r (σ := g_addI (u2 σ 5000 0 0) 5004 (2 * C) (nI (cn x))) (2 * C + 1); omega)) (by have h9 := nmS_r (σ := g_addI (u2 σ 5000 0 0) 5004 (2 * C) (nI (cn x))) (2 * C + 1); omega)) ce_J6_valueOf_2dffe ml_X14_206 st_J6_valueOf_2dffe (xx_dt dd_X14_station 38 rfl) (by decide) rfl rfl (Nat.le_of_ble_eq_true rfl) rfl ?_
        have hbs0 := hbs
        have hbs := bs_box (v := y) (e := nmS (g_addI (u2 σ 5000 0 0) 5004 (2 * C) (nI (cn x))) (2 * C + 1)) hbs (by have h9 := nmS_r (σ := g_addI (u2 σ 5000 0 0) 5004 (2 * C) (nI (cn x))) (2 * C + 1); omega) (by have h9 := nmS_r (σ := g_addI (u2 σ 5000 0 0) 5004 (2 * C) (nI (cn x))) (2 * C + 1); omega) (by have h9 := nmS_r (σ := g_addI (u2 σ 5000 0 0) 5004 (2 * C) (nI (cn x))) (2 * C + 1); omega)
        refine xx_wid (k' := 0 + 1) (n' := 8 + ((2 * C + 1) + (2 * C + 1) / 2 + 10)) (by omega) (by omega) (sw_callVL (k := 0) (n := 8) (k' := 1) (n' := (2 * C + 1) + (2 * C + 1) / 2 + 10) (ci := 6) (as := [.ref (xx_box y (nmS (g_addI (u2 σ 5000 0 0) 5004 (2 * C) (nI (cn x))) (2 * C + 1)))]) (st := []) (st2 := [.int 1]) O (ct_add hl (lm_5004 (σ := g_addI (u2 σ 5000 0 0) 5004 (2 * C) (nI (cn x))) (S := 2 * C + 1) addI_n (by omega)) (by omega) (hbs.1.imp fun f0 e => (setM_out (by omega)).trans e) (hbs.2.1.imp fun f0 e => (setM_out (by omega)).trans e) (setM_no2 hbs).1 (setM_no2 hbs).2 (ob_box hbs0 (noq_sint (σ := g_addI (u2 σ 5000 0 0) 5004 (2 * C) (nI (cn x))) addI_n (by omega) _)) (by omega) (fun k9 hk9 => .inr ⟨_, rfl, ob_C cl_J6 (lm_sbox (σ := g_addI (u2 σ 5000 0 0) 5004 (2 * C) (nI (cn x))) hbs (S := 2 * C + 1) addI_n (by omega) (k := k9) hk9) ca_J6⟩)) ce_Jx4a65c_add_9ea2d ml_X14_87 iv_Jx4a65c_add_9ea2d cl_Jx4a65c rfl (lm_5004 (σ := g_addI (u2 σ 5000 0 0) 5004 (2 * C) (nI (cn x))) (S := 2 * C + 1) addI_n (by omega)) (xx_dt dd_X14_station 39 rfl) (by decide) rfl rfl (Nat.le_of_ble_eq_true rfl) rfl ?_)
        refine sw_boxS (σ := g_addI (u2 σ 5000 0 0) 5004 (2 * C) (nI (cn x))) (n := 2 * C + 1) addI_n (by omega) ?_
        have hbs := hbs0
        refine sw_pop O (xx_dt dd_X14_station 40 rfl) rfl ?_
        refine sw_aload_n O (xx_dt dd_X14_station 41 rfl) rfl ?_
        refine sw_get (v := .ref 5004) O (xx_dt dd_X14_station 42 rfl) cl_X14 fl_X14_33 (lm_mod (σ := g_addI (g_addI (u2 σ 5000 0 0) 5004 (2 * C) (nI (cn x))) 5004 (2 * C + 1) y)) (by decide) rfl ?_
        refine sw_callVL (ci := 6) (as := []) (st := []) (st2 := [.int (nI (2 * (C + 1)))]) O (ct_AL_size hl (lm_5004 (σ := g_addI (g_addI (u2 σ 5000 0 0) 5004 (2 * C) (nI (cn x))) 5004 (2 * C + 1) y) (S := 2 * (C + 1)) addI_n2 (by omega))) ce_Jx4a65c_size_8abf5 ml_X14_57 iv_Jx4a65c_size_8abf5 cl_Jx4a65c rfl (lm_5004 (σ := g_addI (g_addI (u2 σ 5000 0 0) 5004 (2 * C) (nI (cn x))) 5004 (2 * C + 1) y) (S := 2 * (C + 1)) addI_n2 (by omega)) (xx_dt dd_X14_station 43 rfl) (by decide) rfl rfl (Nat.le_of_ble_eq_true rfl) rfl ?_
        refine sw_iconst (x := 2) O (xx_dt dd_X14_station 44 rfl) (by decide) ?_
        refine sw_idiv O (xx_dt dd_X14_station 45 rfl) (by first | decide | assumption) ?_
        have hx86 := trivial
        rw [nI_half (by omega)]
        refine sw_iconst (x := 1) O (xx_dt dd_X14_station 46 rfl) (by decide) ?_
        refine sw_isub O (xx_dt dd_X14_station 47 rfl) ?_
        rw [nI_s1 C]
        exact sw_iret O (xx_dt dd_X14_station 48 rfl) rfl rfl (by rw [hQ]; exact ⟨by unfold f_Mstation; simp only [if_pos q1, if_pos q2, if_neg q3], by unfold g_Mstation; simp only [if_pos q1, if_pos q2, if_neg q3]⟩)
      · refine sw_aload_n O (xx_dt dd_X14_station 25 rfl) rfl ?_
        refine sw_iconst (x := 3) O (xx_dt dd_X14_station 26 rfl) (by decide) ?_
        refine sw_callVx (as := [.int 3]) (st := []) (st2 := [.int 0]) O (ct_X14_refuse hl (z := z) (σ := u2 σ 5000 0 0) hbs (x := 3)) ce_X14_refuse ml_X14_74 iv_X14_refuse cl_X14 rfl (lm_mod (σ := u2 σ 5000 0 0)) (xx_dt dd_X14_station 27 rfl) (by decide) rfl rfl (Nat.le_of_ble_eq_true rfl) rfl ?_
        exact sw_iret O (xx_dt dd_X14_station 28 rfl) rfl rfl (by rw [hQ]; exact ⟨by unfold f_Mstation; simp only [if_pos q1, if_pos q2, if_pos q3], by unfold g_Mstation; simp only [if_pos q1, if_pos q2, if_pos q3]⟩)
    · refine sw_aload_n O (xx_dt dd_X14_station 16 rfl) rfl ?_
      refine sw_iconst (x := 2) O (xx_dt dd_X14_station 17 rfl) (by decide) ?_
      refine sw_callVx (as := [.int 2]) (st := []) (st2 := [.int 0]) O (ct_X14_refuse hl (z := z) (σ := u2 σ 5000 0 0) hbs (x := 2)) ce_X14_refuse ml_X14_74 iv_X14_refuse cl_X14 rfl (lm_mod (σ := u2 σ 5000 0 0)) (xx_dt dd_X14_station 18 rfl) (by decide) rfl rfl (Nat.le_of_ble_eq_true rfl) rfl ?_
      exact sw_iret O (xx_dt dd_X14_station 19 rfl) rfl rfl (by rw [hQ]; exact ⟨by unfold f_Mstation; simp only [if_pos q1, if_neg q2], by unfold g_Mstation; simp only [if_pos q1, if_neg q2]⟩)
  · refine sw_aload_n O (xx_dt dd_X14_station 7 rfl) rfl ?_
    refine sw_iconst (x := 1) O (xx_dt dd_X14_station 8 rfl) (by decide) ?_
    refine sw_callVx (as := [.int 1]) (st := []) (st2 := [.int 0]) O (ct_X14_refuse hl (z := z) (σ := u2 σ 5000 0 0) hbs (x := 1)) ce_X14_refuse ml_X14_74 iv_X14_refuse cl_X14 rfl (lm_mod (σ := u2 σ 5000 0 0)) (xx_dt dd_X14_station 9 rfl) (by decide) rfl rfl (Nat.le_of_ble_eq_true rfl) rfl ?_
    exact sw_iret O (xx_dt dd_X14_station 10 rfl) rfl rfl (by rw [hQ]; exact ⟨by unfold f_Mstation; simp only [if_neg q1], by unfold g_Mstation; simp only [if_neg q1]⟩)
def x_Mmost_39 (σ : XS9) (x y : Int32) (R B g : Nat) (s0 : Nat) : Nat := xitB (fun i39 s39 => (if (f_McanWish (u2 σ 5000 0 0) (cn x) (cn y) (nI s39) R B g) = 0 then .inl (s39 - 1) else .inr s39)) 5 0 s0
def f_Mmost (σ : XS9) (x y : Int32) (R B g : Nat) : Int32 := (if n_lt x B then (if n_lt y R then (if (σ 5000 1) = 1 then nI ((x_Mmost_39 σ x y R B g 5)) else (-1)) else 0) else 0)
def g_Mmost (σ : XS9) (x y : Int32) (R B g : Nat) : XS9 := (if n_lt x B then (if n_lt y R then u2 σ 5000 0 0 else u2 (u2 σ 5000 0 0) 5000 0 1) else u2 (u2 σ 5000 0 0) 5000 0 1)
theorem ct_X14_most {l : Launch} {h : XH} (hl : l.stackTraces = false) {z : Int64} {σ : XS9} (hbs : xx_bs h) {R : Nat} (hR : σ 5001 900 = nI R) (hR5 : R ≤ 5) {B : Nat} (hB : σ 5002 900 = nI B) (hB6 : B ≤ 6) (hst : σ 5000 1 = 1 → σ 7000 25 = nI 1 ∧ σ 7000 20 = nI 1) {g : Nat} (hg : σ 7000 23 = nI g) (hg1 : g < 200) {w : Nat} (hw : σ 7000 24 = nI w) (hw1 : w < 200) {x y : Int32} (hm0 : n_lt x B → n_lt y R → σ 5000 1 = 1 → ¬ f_McanWish (u2 σ 5000 0 0) (cn x) (cn y) (nI 0) R B g = 0)  : XEx l m_X14_most 5 0 0 [.ref 5000, .int x, .int y] (setM z σ h) (some (.int (f_Mmost σ x y R B g))) (setM z (g_Mmost σ x y R B g) h) := by
  refine XMet.of hl rfl rfl (Nat.le_of_ble_eq_true rfl) (fun Y O hh hQ => ?_)
  show SW Y 0 0 (setM z σ h) 0 [.ref 5000, .int x, .int y, xx_d] []
  refine sw_aload_n O (xx_dt dd_X14_most 0 rfl) rfl ?_
  refine sw_iconst (x := 0) O (xx_dt dd_X14_most 1 rfl) (by decide) ?_
  refine sw_put (h2 := setM z (u2 σ 5000 0 0) h) O (xx_dt dd_X14_most 2 rfl) cl_X14 fl_X14_46 (lm_mod (σ := σ)) (by decide) (by omega) rfl (fun _ => ⟨rfl, rfl⟩) (pm_mod (σ := σ) (by omega)) ?_
  refine sw_aload_n O (xx_dt dd_X14_most 3 rfl) rfl ?_
  refine sw_iload_n O (xx_dt dd_X14_most 4 rfl) rfl ?_
  refine sw_callVx (as := [.int x]) (st := []) (st2 := [.int (bZ (n_lt x B))]) O (ct_X14_isBidder hl (z := z) (σ := u2 σ 5000 0 0) hbs (B := B) hB (by omega) (x := x)) ce_X14_isBidder ml_X14_156 iv_X14_isBidder cl_X14 rfl (lm_mod (σ := u2 σ 5000 0 0)) (xx_dt dd_X14_most 5 rfl) (by decide) rfl rfl (Nat.le_of_ble_eq_true rfl) rfl ?_
  refine sw_if_eqB (tgt := 21) O (xx_dt dd_X14_most 6 rfl) (by decide) (fun q1 => ?_) (fun q1 => ?_)
  · refine sw_aload_n O (xx_dt dd_X14_most 11 rfl) rfl ?_
    refine sw_iconst (x := 1) O (xx_dt dd_X14_most 12 rfl) (by decide) ?_
    refine sw_callVx (as := [.int 1]) (st := []) (st2 := [.int 0]) O (ct_X14_refuse hl (z := z) (σ := u2 σ 5000 0 0) hbs (x := 1)) ce_X14_refuse ml_X14_74 iv_X14_refuse cl_X14 rfl (lm_mod (σ := u2 σ 5000 0 0)) (xx_dt dd_X14_most 13 rfl) (by decide) rfl rfl (Nat.le_of_ble_eq_true rfl) rfl ?_
    exact sw_iret O (xx_dt dd_X14_most 14 rfl) rfl rfl (by rw [hQ]; exact ⟨by unfold f_Mmost; simp only [if_neg q1], by unfold g_Mmost; simp only [if_neg q1]⟩)
  · have hc10 := q1
    refine sw_lsE (ls2 := [.ref 5000, .int (nI (cn x)), .int y, xx_d]) (by rw [← hc10.1]) ?_
    have hd10 := hc10.2
    refine sw_aload_n O (xx_dt dd_X14_most 7 rfl) rfl ?_
    refine sw_iload_n O (xx_dt dd_X14_most 8 rfl) rfl ?_
    refine sw_callVx (as := [.int y]) (st := []) (st2 := [.int (bZ (n_lt y R))]) O (ct_X14_isRegion hl (z := z) (σ := u2 σ 5000 0 0) hbs (R := R) hR (by omega) (x := y)) ce_X14_isRegion ml_X14_91 iv_X14_isRegion cl_X14 rfl (lm_mod (σ := u2 σ 5000 0 0)) (xx_dt dd_X14_most 9 rfl) (by decide) rfl rfl (Nat.le_of_ble_eq_true rfl) rfl ?_
    refine sw_if_neB (tgt := 27) O (xx_dt dd_X14_most 10 rfl) (by decide) (fun q2 => ?_) (fun q2 => ?_)
    · have hc18 := q2
      refine sw_lsE (ls2 := [.ref 5000, .int (nI (cn x)), .int (nI (cn y)), xx_d]) (by rw [← hc18.1]) ?_
      have hd18 := hc18.2
      refine sw_aload_n O (xx_dt dd_X14_most 15 rfl) rfl ?_
      refine sw_get (v := .int (σ 5000 1)) O (xx_dt dd_X14_most 16 rfl) cl_X14 fl_X14_77 (lm_mod (σ := u2 σ 5000 0 0)) (by decide) rfl ?_
      refine sw_iconst (x := 1) O (xx_dt dd_X14_most 17 rfl) (by decide) ?_
      refine sw_icmp_eq (tgt := 37) O (xx_dt dd_X14_most 18 rfl) (by decide) (fun q3 => ?_) (fun q3 => ?_)
      · refine sw_iconst (x := 5) O (xx_dt dd_X14_most 21 rfl) (by decide) ?_
        refine sw_istore_n (ls2 := [.ref 5000, .int (nI (cn x)), .int (nI (cn y)), .int 5]) O (xx_dt dd_X14_most 22 rfl) (by decide) rfl ?_
        refine sw_forB (S := Nat) (fun i39 s39 => (if (f_McanWish (u2 σ 5000 0 0) (cn x) (cn y) (nI s39) R B g) = 0 then .inl (s39 - 1) else .inr s39)) (fun i s => s + i = 5) (fun _ => True) (hp := fun _ => setM z (u2 σ 5000 0 0) h) (hd := 39) (lc := fun i39 s39 => [.ref 5000, .int (nI (cn x)), .int (nI (cn y)), .int (nI s39)]) (ex := 55) (lx := fun s39 => [.ref 5000, .int (nI (cn x)), .int (nI (cn y)), .int (nI s39)]) (N := 5) (fun i39 s39 hi39 hP39 => ⟨⟨(by intro s' e'; revert e'; (try dsimp only); (repeat' split) <;> intro e' <;> first | (cases e'; done) | (have e9 := Sum.inl.inj e'; subst e9; have h9 : s39 + i39 = 5 := hP39; show s39 - 1 + (i39 + 1) = 5; omega)), fun _ _ => trivial⟩, fun kk39 kb39 => ?_⟩) (fun s39 hP39 => ⟨trivial, fun kx39 => ?_⟩) 5 0 5 (by omega) (rfl) (fun hP39 => ?_)
        · refine sw_aload_n O (xx_dt dd_X14_most 23 rfl) rfl ?_
          refine sw_iload_n O (xx_dt dd_X14_most 24 rfl) rfl ?_
          refine sw_iload_n O (xx_dt dd_X14_most 25 rfl) rfl ?_
          refine sw_iload_n O (xx_dt dd_X14_most 26 rfl) rfl ?_
          refine sw_callVx (as := [.int (nI (cn x)), .int (nI (cn y)), .int (nI s39)]) (st := []) (st2 := [.int (f_McanWish (u2 σ 5000 0 0) (cn x) (cn y) (nI s39) R B g)]) O (ct_X14_canWish hl (z := z) (σ := u2 σ 5000 0 0) hbs (R := R) hR (by omega) (B := B) hB (by omega) (hst (by assumption)).2 (hst (by assumption)).1 (g := g) hg (by omega) (w := w) hw (by omega) (i := cn x) (r := cn y) (y := nI s39) (by omega) (by omega)) ce_X14_canWish ml_X14_159 iv_X14_canWish cl_X14 rfl (lm_modC (σ := u2 σ 5000 0 0) (fl1 (hst (by assumption)).1)) (xx_dt dd_X14_most 27 rfl) (by decide) rfl rfl (Nat.le_of_ble_eq_true rfl) rfl ?_
          have h9 : s39 + i39 = 5 := hP39
          refine sw_if_ne (tgt := 55) O (xx_dt dd_X14_most 28 rfl) (by decide) (fun q5 => ?_) (fun q5 => ?_)
          · exact kb39 s39 (by simp only [if_neg q5])
          · refine sw_iinc (y := nI (s39 - 1)) (ls2 := [.ref 5000, .int (nI (cn x)), .int (nI (cn y)), .int (nI (s39 - 1))]) O (xx_dt dd_X14_most 29 rfl) rfl (nI_prd (by omega)) (by decide) rfl ?_
            refine sw_goto (tgt := 39) O (xx_dt dd_X14_most 30 rfl) (by decide) ?_
            exact kk39 (s39 - 1) (by simp only [if_pos q5])
        · show SW Y _ _ (setM z (u2 σ 5000 0 0) h) 39 [.ref 5000, .int (nI (cn x)), .int (nI (cn y)), .int (nI s39)] []
          have hZ39 := hP39
          refine sw_aload_n O (xx_dt dd_X14_most 23 rfl) rfl ?_
          refine sw_iload_n O (xx_dt dd_X14_most 24 rfl) rfl ?_
          refine sw_iload_n O (xx_dt dd_X14_most 25 rfl) rfl ?_
          refine sw_iload_n O (xx_dt dd_X14_most 26 rfl) rfl ?_
          refine sw_callVx (as := [.int (nI (cn x)), .int (nI (cn y)), .int (nI s39)]) (st := []) (st2 := [.int (f_McanWish (u2 σ 5000 0 0) (cn x) (cn y) (nI s39) R B g)]) O (ct_X14_canWish hl (z := z) (σ := u2 σ 5000 0 0) hbs (R := R) hR (by omega) (B := B) hB (by omega) (hst (by assumption)).2 (hst (by assumption)).1 (g := g) hg (by omega) (w := w) hw (by omega) (i := cn x) (r := cn y) (y := nI s39) (by omega) (by omega)) ce_X14_canWish ml_X14_159 iv_X14_canWish cl_X14 rfl (lm_modC (σ := u2 σ 5000 0 0) (fl1 (hst (by assumption)).1)) (xx_dt dd_X14_most 27 rfl) (by decide) rfl rfl (Nat.le_of_ble_eq_true rfl) rfl ?_
          refine sw_if_ne (tgt := 55) O (xx_dt dd_X14_most 28 rfl) (by decide) (fun q4 => ?_) (fun q4 => ?_)
          · exact kx39
          · exact absurd (show f_McanWish (u2 σ 5000 0 0) (cn x) (cn y) (nI 0) R B g = 0 by have h9 : s39 + 5 = 5 := hP39; have h8 : s39 = 0 := (by omega); rw [h8] at q4; exact q4) (hm0 q1 q2 (by assumption))
        · show SW Y _ _ (setM z (u2 σ 5000 0 0) h) 55 [.ref 5000, .int (nI (cn x)), .int (nI (cn y)), .int (nI ((x_Mmost_39 σ x y R B g 5)))] []
          refine sw_iload_n O (xx_dt dd_X14_most 31 rfl) rfl ?_
          exact sw_iret O (xx_dt dd_X14_most 32 rfl) rfl rfl (by rw [hQ]; exact ⟨by unfold f_Mmost; simp only [if_pos q1, if_pos q2, if_pos q3], by unfold g_Mmost; simp only [if_pos q1, if_pos q2, if_pos q3]⟩)
      · refine sw_iconst (x := (-1)) O (xx_dt dd_X14_most 19 rfl) (by decide) ?_
        exact sw_iret O (xx_dt dd_X14_most 20 rfl) rfl rfl (by rw [hQ]; exact ⟨by unfold f_Mmost; simp only [if_pos q1, if_pos q2, if_neg q3], by unfold g_Mmost; simp only [if_pos q1, if_pos q2, if_neg q3]⟩)
    · refine sw_aload_n O (xx_dt dd_X14_most 11 rfl) rfl ?_
      refine sw_iconst (x := 1) O (xx_dt dd_X14_most 12 rfl) (by decide) ?_
      refine sw_callVx (as := [.int 1]) (st := []) (st2 := [.int 0]) O (ct_X14_refuse hl (z := z) (σ := u2 σ 5000 0 0) hbs (x := 1)) ce_X14_refuse ml_X14_74 iv_X14_refuse cl_X14 rfl (lm_mod (σ := u2 σ 5000 0 0)) (xx_dt dd_X14_most 13 rfl) (by decide) rfl rfl (Nat.le_of_ble_eq_true rfl) rfl ?_
      exact sw_iret O (xx_dt dd_X14_most 14 rfl) rfl rfl (by rw [hQ]; exact ⟨by unfold f_Mmost; simp only [if_pos q1, if_neg q2], by unfold g_Mmost; simp only [if_pos q1, if_neg q2]⟩)
