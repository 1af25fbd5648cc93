section
/-! ===== the reference: wishes, signals, stations ===== -/
def f_Mwish (σ : XS9) (x y v : Int32) (R B g : Nat) : Int32 := (if n_lt x B then (if n_lt y R then (if n_bt v 0 5 then (if (σ 5000 1) = 1 then (if (f_McanWish (u2 σ 5000 0 0) (cn x) (cn y) v R B g) = 0 then 0 else f_Mpoints (u2 (u2 σ 5000 0 0) (7000 + 500 + g) (cn x) (f_with (σ (7000 + 500 + g) (cn x)) (cn y) v)) (f_with (σ (7000 + 500 + g) (cn x)) (cn y) v) R) else 0) else 0) else 0) else 0)
def g_Mwish (σ : XS9) (x y v : Int32) (R B g : Nat) : XS9 := (if n_lt x B then (if n_lt y R then (if n_bt v 0 5 then (if (σ 5000 1) = 1 then (if (f_McanWish (u2 σ 5000 0 0) (cn x) (cn y) v R B g) = 0 then u2 (u2 σ 5000 0 0) 5000 0 3 else u2 (u2 σ 5000 0 0) (7000 + 500 + g) (cn x) (f_with (σ (7000 + 500 + g) (cn x)) (cn y) v)) else u2 (u2 σ 5000 0 0) 5000 0 3) else u2 (u2 σ 5000 0 0) 5000 0 2) else u2 (u2 σ 5000 0 0) 5000 0 1) else u2 (u2 σ 5000 0 0) 5000 0 1)
theorem ct_X14_wish {l : Launch} {h : XH} (hl : l.stackTraces = false) {z : Int64} {σ : XS9} (hbs : xx_bs h) {R : Nat} (hR : σ 5001 900 = nI R) (hR5 : R ≤ 5) {B : Nat} (hB : σ 5002 900 = nI B) (hB6 : B ≤ 6) (hst : σ 5000 1 = 1 → σ 7000 25 = nI 1 ∧ σ 7000 20 = nI 1) {g : Nat} (hg : σ 7000 23 = nI g) (hg1 : g < 200) {w : Nat} (hw : σ 7000 24 = nI w) (hw1 : w < 200) {x y v : Int32}  : XEx l m_X14_wish 5 0 0 [.ref 5000, .int x, .int y, .int v] (setM z σ h) (some (.int (f_Mwish σ x y v R B g))) (setM z (g_Mwish σ x y v R B g) h) := by
  refine XMet.of hl rfl rfl (Nat.le_of_ble_eq_true rfl) (fun Y O hh hQ => ?_)
  show SW Y 0 0 (setM z σ h) 0 [.ref 5000, .int x, .int y, .int v] []
  refine sw_aload_n O (xx_dt dd_X14_wish 0 rfl) rfl ?_
  refine sw_iconst (x := 0) O (xx_dt dd_X14_wish 1 rfl) (by decide) ?_
  refine sw_put (h2 := setM z (u2 σ 5000 0 0) h) O (xx_dt dd_X14_wish 2 rfl) cl_X14 fl_X14_46 (lm_mod (σ := σ)) (by decide) (by omega) rfl (fun _ => ⟨rfl, rfl⟩) (pm_mod (σ := σ) (by omega)) ?_
  refine sw_aload_n O (xx_dt dd_X14_wish 3 rfl) rfl ?_
  refine sw_iload_n O (xx_dt dd_X14_wish 4 rfl) rfl ?_
  refine sw_callVx (as := [.int x]) (st := []) (st2 := [.int (bZ (n_lt x B))]) O (ct_X14_isBidder hl (z := z) (σ := u2 σ 5000 0 0) hbs (B := B) hB (by omega) (x := x)) ce_X14_isBidder ml_X14_156 iv_X14_isBidder cl_X14 rfl (lm_mod (σ := u2 σ 5000 0 0)) (xx_dt dd_X14_wish 5 rfl) (by decide) rfl rfl (Nat.le_of_ble_eq_true rfl) rfl ?_
  refine sw_if_eqB (tgt := 21) O (xx_dt dd_X14_wish 6 rfl) (by decide) (fun q1 => ?_) (fun q1 => ?_)
  · refine sw_aload_n O (xx_dt dd_X14_wish 11 rfl) rfl ?_
    refine sw_iconst (x := 1) O (xx_dt dd_X14_wish 12 rfl) (by decide) ?_
    refine sw_callVx (as := [.int 1]) (st := []) (st2 := [.int 0]) O (ct_X14_refuse hl (z := z) (σ := u2 σ 5000 0 0) hbs (x := 1)) ce_X14_refuse ml_X14_74 iv_X14_refuse cl_X14 rfl (lm_mod (σ := u2 σ 5000 0 0)) (xx_dt dd_X14_wish 13 rfl) (by decide) rfl rfl (Nat.le_of_ble_eq_true rfl) rfl ?_
    exact sw_iret O (xx_dt dd_X14_wish 14 rfl) rfl rfl (by rw [hQ]; exact ⟨by unfold f_Mwish; simp only [if_neg q1], by unfold g_Mwish; simp only [if_neg q1]⟩)
  · have hc10 := q1
    refine sw_lsE (ls2 := [.ref 5000, .int (nI (cn x)), .int y, .int v]) (by rw [← hc10.1]) ?_
    have hd10 := hc10.2
    refine sw_aload_n O (xx_dt dd_X14_wish 7 rfl) rfl ?_
    refine sw_iload_n O (xx_dt dd_X14_wish 8 rfl) rfl ?_
    refine sw_callVx (as := [.int y]) (st := []) (st2 := [.int (bZ (n_lt y R))]) O (ct_X14_isRegion hl (z := z) (σ := u2 σ 5000 0 0) hbs (R := R) hR (by omega) (x := y)) ce_X14_isRegion ml_X14_91 iv_X14_isRegion cl_X14 rfl (lm_mod (σ := u2 σ 5000 0 0)) (xx_dt dd_X14_wish 9 rfl) (by decide) rfl rfl (Nat.le_of_ble_eq_true rfl) rfl ?_
    refine sw_if_neB (tgt := 27) O (xx_dt dd_X14_wish 10 rfl) (by decide) (fun q2 => ?_) (fun q2 => ?_)
    · have hc18 := q2
      refine sw_lsE (ls2 := [.ref 5000, .int (nI (cn x)), .int (nI (cn y)), .int v]) (by rw [← hc18.1]) ?_
      have hd18 := hc18.2
      refine sw_iload_n O (xx_dt dd_X14_wish 15 rfl) rfl ?_
      refine sw_iconst (x := 0) O (xx_dt dd_X14_wish 16 rfl) (by decide) ?_
      refine sw_iconst (x := 5) O (xx_dt dd_X14_wish 17 rfl) (by decide) ?_
      refine sw_callSx (as := [.int v, .int 0, .int 5]) (st := []) (st2 := [.int (bZ (n_bt v 0 5))]) O (ct_X14_is hl) ce_X14_is ml_X14_70 st_X14_is (xx_dt dd_X14_wish 18 rfl) (by decide) rfl rfl (Nat.le_of_ble_eq_true rfl) rfl ?_
      refine sw_if_neB (tgt := 42) O (xx_dt dd_X14_wish 19 rfl) (by decide) (fun q3 => ?_) (fun q3 => ?_)
      · refine sw_aload_n O (xx_dt dd_X14_wish 24 rfl) rfl ?_
        refine sw_get (v := .int (σ 5000 1)) O (xx_dt dd_X14_wish 25 rfl) cl_X14 fl_X14_77 (lm_mod (σ := u2 σ 5000 0 0)) (by decide) rfl ?_
        refine sw_iconst (x := 1) O (xx_dt dd_X14_wish 26 rfl) (by decide) ?_
        refine sw_icmp_ne (tgt := 60) O (xx_dt dd_X14_wish 27 rfl) (by decide) (fun q4 => ?_) (fun q4 => ?_)
        · refine sw_aload_n O (xx_dt dd_X14_wish 34 rfl) rfl ?_
          refine sw_iconst (x := 3) O (xx_dt dd_X14_wish 35 rfl) (by decide) ?_
          refine sw_callVx (as := [.int 3]) (st := []) (st2 := [.int 0]) O (ct_X14_refuse hl (z := z) (σ := u2 σ 5000 0 0) hbs (x := 3)) ce_X14_refuse ml_X14_74 iv_X14_refuse cl_X14 rfl (lm_mod (σ := u2 σ 5000 0 0)) (xx_dt dd_X14_wish 36 rfl) (by decide) rfl rfl (Nat.le_of_ble_eq_true rfl) rfl ?_
          exact sw_iret O (xx_dt dd_X14_wish 37 rfl) rfl rfl (by rw [hQ]; exact ⟨by unfold f_Mwish; simp only [if_pos q1, if_pos q2, if_pos q3, if_neg q4], by unfold g_Mwish; simp only [if_pos q1, if_pos q2, if_pos q3, if_neg q4]⟩)
        · refine sw_aload_n O (xx_dt dd_X14_wish 28 rfl) rfl ?_
          refine sw_iload_n O (xx_dt dd_X14_wish 29 rfl) rfl ?_
          refine sw_iload_n O (xx_dt dd_X14_wish 30 rfl) rfl ?_
          refine sw_iload_n O (xx_dt dd_X14_wish 31 rfl) rfl ?_
          refine sw_callVx (as := [.int (nI (cn x)), .int (nI (cn y)), .int v]) (st := []) (st2 := [.int (f_McanWish (u2 σ 5000 0 0) (cn x) (cn y) v R B g)]) O (ct_X14_canWish hl (z := z) (σ := u2 σ 5000 0 0) hbs (R := R) hR (by omega) (B := B) hB (by omega) (hst (by assumption)).2 (hst (by assumption)).1 (g := g) hg (by omega) (w := w) hw (by omega) (i := cn x) (r := cn y) (y := v) (by omega) (by omega)) ce_X14_canWish ml_X14_159 iv_X14_canWish cl_X14 rfl (lm_modC (σ := u2 σ 5000 0 0) (fl1 (hst (by assumption)).1)) (xx_dt dd_X14_wish 32 rfl) (by decide) rfl rfl (Nat.le_of_ble_eq_true rfl) rfl ?_
          refine sw_if_ne (tgt := 66) O (xx_dt dd_X14_wish 33 rfl) (by decide) (fun q5 => ?_) (fun q5 => ?_)
          · refine sw_aload_n O (xx_dt dd_X14_wish 38 rfl) rfl ?_
            refine sw_get (v := .ref 7000) O (xx_dt dd_X14_wish 39 rfl) cl_X14 fl_X14_141 (lm_modC (σ := u2 σ 5000 0 0) (fl1 (hst (by assumption)).1)) (by decide) rfl ?_
            refine sw_get (v := .ref (7000 + 500 + g)) O (xx_dt dd_X14_wish 40 rfl) cl_X11 fl_X14_145 (lm_clk (σ := u2 σ 5000 0 0) (b := 7000) (.inl rfl) (fl1 (hst (by assumption)).2) (g := g) hg (by omega) (w := w) hw (by omega)) (by decide) rfl ?_
            refine sw_iload_n O (xx_dt dd_X14_wish 41 rfl) rfl ?_
            refine sw_aload_n O (xx_dt dd_X14_wish 42 rfl) rfl ?_
            refine sw_get (v := .ref 7000) O (xx_dt dd_X14_wish 43 rfl) cl_X14 fl_X14_141 (lm_modC (σ := u2 σ 5000 0 0) (fl1 (hst (by assumption)).1)) (by decide) rfl ?_
            refine sw_get (v := .ref (7000 + 500 + g)) O (xx_dt dd_X14_wish 44 rfl) cl_X11 fl_X14_145 (lm_clk (σ := u2 σ 5000 0 0) (b := 7000) (.inl rfl) (fl1 (hst (by assumption)).2) (g := g) hg (by omega) (w := w) hw (by omega)) (by decide) rfl ?_
            refine sw_iload_n O (xx_dt dd_X14_wish 45 rfl) rfl ?_
            refine sw_iaload (v := .int (σ (7000 + 500 + g) (cn x))) O (xx_dt dd_X14_wish 46 rfl) ((im_wsh (z := z) (σ := u2 σ 5000 0 0) (b := 7000) (.inl rfl) (hst (by assumption)).2 (g := g) hg (by omega) (j := g) (by omega)).get _) (pk_in (cn x) _ (by omega)) (by rw [nI_clamp (by omega)]; exact (congrArg Value.int (congrFun (u2_ne (by omega)) (cn x)))) ?_
            refine sw_iload_n O (xx_dt dd_X14_wish 47 rfl) rfl ?_
            refine sw_iload_n O (xx_dt dd_X14_wish 48 rfl) rfl ?_
            refine sw_callSx (as := [.int (σ (7000 + 500 + g) (cn x)), .int (nI (cn y)), .int v]) (st := [.int (nI (cn x)), .ref (7000 + 500 + g)]) (st2 := [.int (f_with (σ (7000 + 500 + g) (cn x)) (cn y) v), .int (nI (cn x)), .ref (7000 + 500 + g)]) O (ct_X14_with hl (c := σ (7000 + 500 + g) (cn x)) (r := cn y) (m := v) (by omega)) ce_X14_with ml_X14_148 st_X14_with (xx_dt dd_X14_wish 49 rfl) (by decide) rfl rfl (Nat.le_of_ble_eq_true rfl) rfl ?_
            refine sw_iastore (h2 := setM z (u2 (u2 σ 5000 0 0) (7000 + 500 + g) (cn x) (f_with (σ (7000 + 500 + g) (cn x)) (cn y) v)) h) O (xx_dt dd_X14_wish 50 rfl) ((im_wsh (z := z) (σ := u2 σ 5000 0 0) (b := 7000) (.inl rfl) (hst (by assumption)).2 (g := g) hg (by omega) (j := g) (by omega)).get _) (pk_in (cn x) _ (by omega)) (by omega) (by rw [nI_clamp (by omega)]; exact ((im_wsh (z := z) (σ := u2 σ 5000 0 0) (b := 7000) (.inl rfl) (hst (by assumption)).2 (g := g) hg (by omega) (j := g) (by omega)).put (by omega))) ?_
            refine sw_aload_n O (xx_dt dd_X14_wish 51 rfl) rfl ?_
            refine sw_aload_n O (xx_dt dd_X14_wish 52 rfl) rfl ?_
            refine sw_get (v := .ref 7000) O (xx_dt dd_X14_wish 53 rfl) cl_X14 fl_X14_141 (lm_modC (σ := u2 (u2 σ 5000 0 0) (7000 + 500 + g) (cn x) (f_with (σ (7000 + 500 + g) (cn x)) (cn y) v)) (fl1 ((congrFun (u2_ne (by omega)) 25).trans (hst (by assumption)).1))) (by decide) rfl ?_
            refine sw_get (v := .ref (7000 + 500 + g)) O (xx_dt dd_X14_wish 54 rfl) cl_X11 fl_X14_145 (lm_clk (σ := u2 (u2 σ 5000 0 0) (7000 + 500 + g) (cn x) (f_with (σ (7000 + 500 + g) (cn x)) (cn y) v)) (b := 7000) (.inl rfl) (fl1 ((congrFun (u2_ne (by omega)) 20).trans (hst (by assumption)).2)) (g := g) ((congrFun (u2_ne (by omega)) 23).trans hg) (by omega) (w := w) ((congrFun (u2_ne (by omega)) 24).trans hw) (by omega)) (by decide) rfl ?_
            refine sw_iload_n O (xx_dt dd_X14_wish 55 rfl) rfl ?_
            refine sw_iaload (v := .int (f_with (σ (7000 + 500 + g) (cn x)) (cn y) v)) O (xx_dt dd_X14_wish 56 rfl) ((im_wsh (z := z) (σ := u2 (u2 σ 5000 0 0) (7000 + 500 + g) (cn x) (f_with (σ (7000 + 500 + g) (cn x)) (cn y) v)) (b := 7000) (.inl rfl) ((congrFun (u2_ne (by omega)) 20).trans (hst (by assumption)).2) (g := g) ((congrFun (u2_ne (by omega)) 23).trans hg) (by omega) (j := g) (by omega)).get _) (pk_in (cn x) _ (by omega)) (by rw [nI_clamp (by omega)]; exact (congrArg Value.int u2_at)) ?_
            refine sw_callVx (as := [.int (f_with (σ (7000 + 500 + g) (cn x)) (cn y) v)]) (st := []) (st2 := [.int (f_Mpoints (u2 (u2 σ 5000 0 0) (7000 + 500 + g) (cn x) (f_with (σ (7000 + 500 + g) (cn x)) (cn y) v)) (f_with (σ (7000 + 500 + g) (cn x)) (cn y) v) R)]) O (ct_X14_points hl (z := z) (σ := u2 (u2 σ 5000 0 0) (7000 + 500 + g) (cn x) (f_with (σ (7000 + 500 + g) (cn x)) (cn y) v)) hbs (R := R) ((congrFun (u2_ne (by omega)) 900).trans hR) (by omega) (c := f_with (σ (7000 + 500 + g) (cn x)) (cn y) v)) ce_X14_points ml_X14_152 iv_X14_points cl_X14 rfl (lm_modC (σ := u2 (u2 σ 5000 0 0) (7000 + 500 + g) (cn x) (f_with (σ (7000 + 500 + g) (cn x)) (cn y) v)) (fl1 ((congrFun (u2_ne (by omega)) 25).trans (hst (by assumption)).1))) (xx_dt dd_X14_wish 57 rfl) (by decide) rfl rfl (Nat.le_of_ble_eq_true rfl) rfl ?_
            exact sw_iret O (xx_dt dd_X14_wish 58 rfl) rfl rfl (by rw [hQ]; exact ⟨by unfold f_Mwish; simp only [if_pos q1, if_pos q2, if_pos q3, if_pos q4, if_neg q5], by unfold g_Mwish; simp only [if_pos q1, if_pos q2, if_pos q3, if_pos q4, if_neg q5]⟩)
          · refine sw_aload_n O (xx_dt dd_X14_wish 34 rfl) rfl ?_
            refine sw_iconst (x := 3) O (xx_dt dd_X14_wish 35 rfl) (by decide) ?_
            refine sw_callVx (as := [.int 3]) (st := []) (st2 := [.int 0]) O (ct_X14_refuse hl (z := z) (σ := u2 σ 5000 0 0) hbs (x := 3)) ce_X14_refuse ml_X14_74 iv_X14_refuse cl_X14 rfl (lm_mod (σ := u2 σ 5000 0 0)) (xx_dt dd_X14_wish 36 rfl) (by decide) rfl rfl (Nat.le_of_ble_eq_true rfl) rfl ?_
            exact sw_iret O (xx_dt dd_X14_wish 37 rfl) rfl rfl (by rw [hQ]; exact ⟨by unfold f_Mwish; simp only [if_pos q1, if_pos q2, if_pos q3, if_pos q4, if_pos q5], by unfold g_Mwish; simp only [if_pos q1, if_pos q2, if_pos q3, if_pos q4, if_pos q5]⟩)
      · refine sw_aload_n O (xx_dt dd_X14_wish 20 rfl) rfl ?_
        refine sw_iconst (x := 2) O (xx_dt dd_X14_wish 21 rfl) (by decide) ?_
        refine sw_callVx (as := [.int 2]) (st := []) (st2 := [.int 0]) O (ct_X14_refuse hl (z := z) (σ := u2 σ 5000 0 0) hbs (x := 2)) ce_X14_refuse ml_X14_74 iv_X14_refuse cl_X14 rfl (lm_mod (σ := u2 σ 5000 0 0)) (xx_dt dd_X14_wish 22 rfl) (by decide) rfl rfl (Nat.le_of_ble_eq_true rfl) rfl ?_
        exact sw_iret O (xx_dt dd_X14_wish 23 rfl) rfl rfl (by rw [hQ]; exact ⟨by unfold f_Mwish; simp only [if_pos q1, if_pos q2, if_neg q3], by unfold g_Mwish; simp only [if_pos q1, if_pos q2, if_neg q3]⟩)
    · refine sw_aload_n O (xx_dt dd_X14_wish 11 rfl) rfl ?_
      refine sw_iconst (x := 1) O (xx_dt dd_X14_wish 12 rfl) (by decide) ?_
      refine sw_callVx (as := [.int 1]) (st := []) (st2 := [.int 0]) O (ct_X14_refuse hl (z := z) (σ := u2 σ 5000 0 0) hbs (x := 1)) ce_X14_refuse ml_X14_74 iv_X14_refuse cl_X14 rfl (lm_mod (σ := u2 σ 5000 0 0)) (xx_dt dd_X14_wish 13 rfl) (by decide) rfl rfl (Nat.le_of_ble_eq_true rfl) rfl ?_
      exact sw_iret O (xx_dt dd_X14_wish 14 rfl) rfl rfl (by rw [hQ]; exact ⟨by unfold f_Mwish; simp only [if_pos q1, if_neg q2], by unfold g_Mwish; simp only [if_pos q1, if_neg q2]⟩)
def f_Mwaive (σ : XS9) (x : Int32) (B g w : Nat) : Int32 := (if n_lt x B then (if (σ 5000 1) = 1 then (if (σ (7000 + 4) (cn x)) = 0 then 0 else (if (σ (7000 + 700 + w) (cn x)) = 0 then (σ (7000 + 4) (cn x)) - 1 else 0)) else 0) else 0)
def g_Mwaive (σ : XS9) (x : Int32) (B g w : Nat) : XS9 := (if n_lt x B then (if (σ 5000 1) = 1 then (if (σ (7000 + 4) (cn x)) = 0 then u2 (u2 σ 5000 0 0) 5000 0 2 else (if (σ (7000 + 700 + w) (cn x)) = 0 then u2 (u2 (u2 σ 5000 0 0) (7000 + 4) (cn x) ((σ (7000 + 4) (cn x)) - 1)) (7000 + 700 + w) (cn x) 1 else u2 (u2 σ 5000 0 0) 5000 0 2)) else u2 (u2 σ 5000 0 0) 5000 0 2) else u2 (u2 σ 5000 0 0) 5000 0 1)
theorem ct_X14_waive {l : Launch} {h : XH} (hl : l.stackTraces = false) {z : Int64} {σ : XS9} (hbs : xx_bs h) {B : Nat} (hB : σ 5002 900 = nI B) (hB6 : B ≤ 6) (hst : σ 5000 1 = 1 → σ 7000 25 = nI 1 ∧ σ 7000 20 = nI 1) {g : Nat} (hg : σ 7000 23 = nI g) (hg1 : g < 200) {w : Nat} (hw : σ 7000 24 = nI w) (hw1 : w < 200) {x : Int32} : XEx l m_X14_waive 2 0 0 [.ref 5000, .int x] (setM z σ h) (some (.int (f_Mwaive σ x B g w))) (setM z (g_Mwaive σ x B g w) h) := by
  refine XMet.of hl rfl rfl (Nat.le_of_ble_eq_true rfl) (fun Y O hh hQ => ?_)
  show SW Y 0 0 (setM z σ h) 0 [.ref 5000, .int x] []
  refine sw_aload_n O (xx_dt dd_X14_waive 0 rfl) rfl ?_
  refine sw_iconst (x := 0) O (xx_dt dd_X14_waive 1 rfl) (by decide) ?_
  refine sw_put (h2 := setM z (u2 σ 5000 0 0) h) O (xx_dt dd_X14_waive 2 rfl) cl_X14 fl_X14_46 (lm_mod (σ := σ)) (by decide) (by omega) rfl (fun _ => ⟨rfl, rfl⟩) (pm_mod (σ := σ) (by omega)) ?_
  refine sw_aload_n O (xx_dt dd_X14_waive 3 rfl) rfl ?_
  refine sw_iload_n O (xx_dt dd_X14_waive 4 rfl) rfl ?_
  refine sw_callVx (as := [.int x]) (st := []) (st2 := [.int (bZ (n_lt x B))]) O (ct_X14_isBidder hl (z := z) (σ := u2 σ 5000 0 0) hbs (B := B) hB (by omega) (x := x)) ce_X14_isBidder ml_X14_156 iv_X14_isBidder cl_X14 rfl (lm_mod (σ := u2 σ 5000 0 0)) (xx_dt dd_X14_waive 5 rfl) (by decide) rfl rfl (Nat.le_of_ble_eq_true rfl) rfl ?_
  refine sw_if_neB (tgt := 19) O (xx_dt dd_X14_waive 6 rfl) (by decide) (fun q1 => ?_) (fun q1 => ?_)
  · have hc10 := q1
    refine sw_lsE (ls2 := [.ref 5000, .int (nI (cn x))]) (by rw [← hc10.1]) ?_
    have hd10 := hc10.2
    refine sw_aload_n O (xx_dt dd_X14_waive 11 rfl) rfl ?_
    refine sw_get (v := .int (σ 5000 1)) O (xx_dt dd_X14_waive 12 rfl) cl_X14 fl_X14_77 (lm_mod (σ := u2 σ 5000 0 0)) (by decide) rfl ?_
    refine sw_iconst (x := 1) O (xx_dt dd_X14_waive 13 rfl) (by decide) ?_
    refine sw_icmp_ne (tgt := 51) O (xx_dt dd_X14_waive 14 rfl) (by decide) (fun q2 => ?_) (fun q2 => ?_)
    · refine sw_aload_n O (xx_dt dd_X14_waive 27 rfl) rfl ?_
      refine sw_iconst (x := 2) O (xx_dt dd_X14_waive 28 rfl) (by decide) ?_
      refine sw_callVx (as := [.int 2]) (st := []) (st2 := [.int 0]) O (ct_X14_refuse hl (z := z) (σ := u2 σ 5000 0 0) hbs (x := 2)) ce_X14_refuse ml_X14_74 iv_X14_refuse cl_X14 rfl (lm_mod (σ := u2 σ 5000 0 0)) (xx_dt dd_X14_waive 29 rfl) (by decide) rfl rfl (Nat.le_of_ble_eq_true rfl) rfl ?_
      exact sw_iret O (xx_dt dd_X14_waive 30 rfl) rfl rfl (by rw [hQ]; exact ⟨by unfold f_Mwaive; simp only [if_pos q1, if_neg q2], by unfold g_Mwaive; simp only [if_pos q1, if_neg q2]⟩)
    · refine sw_aload_n O (xx_dt dd_X14_waive 15 rfl) rfl ?_
      refine sw_get (v := .ref 7000) O (xx_dt dd_X14_waive 16 rfl) cl_X14 fl_X14_141 (lm_modC (σ := u2 σ 5000 0 0) (fl1 (hst (by assumption)).1)) (by decide) rfl ?_
      refine sw_get (v := .ref (7000 + 4)) O (xx_dt dd_X14_waive 17 rfl) cl_X11 fl_X14_162 (lm_clk (σ := u2 σ 5000 0 0) (b := 7000) (.inl rfl) (fl1 (hst (by assumption)).2) (g := g) hg (by omega) (w := w) hw (by omega)) (by decide) rfl ?_
      refine sw_iload_n O (xx_dt dd_X14_waive 18 rfl) rfl ?_
      refine sw_iaload (v := .int (σ (7000 + 4) (cn x))) O (xx_dt dd_X14_waive 19 rfl) ((im_kwv (z := z) (σ := u2 σ 5000 0 0) (b := 7000) (.inl rfl) (hst (by assumption)).2).get _) (pk_in (cn x) _ (by omega)) (by rw [nI_clamp (by omega)]; exact (congrArg Value.int (congrFun (u2_ne (by omega)) (cn x)))) ?_
      refine sw_if_eq (tgt := 51) O (xx_dt dd_X14_waive 20 rfl) (by decide) (fun q3 => ?_) (fun q3 => ?_)
      · refine sw_aload_n O (xx_dt dd_X14_waive 27 rfl) rfl ?_
        refine sw_iconst (x := 2) O (xx_dt dd_X14_waive 28 rfl) (by decide) ?_
        refine sw_callVx (as := [.int 2]) (st := []) (st2 := [.int 0]) O (ct_X14_refuse hl (z := z) (σ := u2 σ 5000 0 0) hbs (x := 2)) ce_X14_refuse ml_X14_74 iv_X14_refuse cl_X14 rfl (lm_mod (σ := u2 σ 5000 0 0)) (xx_dt dd_X14_waive 29 rfl) (by decide) rfl rfl (Nat.le_of_ble_eq_true rfl) rfl ?_
        exact sw_iret O (xx_dt dd_X14_waive 30 rfl) rfl rfl (by rw [hQ]; exact ⟨by unfold f_Mwaive; simp only [if_pos q1, if_pos q2, if_pos q3], by unfold g_Mwaive; simp only [if_pos q1, if_pos q2, if_pos q3]⟩)
      · refine sw_aload_n O (xx_dt dd_X14_waive 21 rfl) rfl ?_
        refine sw_get (v := .ref 7000) O (xx_dt dd_X14_waive 22 rfl) cl_X14 fl_X14_141 (lm_modC (σ := u2 σ 5000 0 0) (fl1 (hst (by assumption)).1)) (by decide) rfl ?_
        refine sw_get (v := .ref (7000 + 700 + w)) O (xx_dt dd_X14_waive 23 rfl) cl_X11 fl_X14_165 (lm_clk (σ := u2 σ 5000 0 0) (b := 7000) (.inl rfl) (fl1 (hst (by assumption)).2) (g := g) hg (by omega) (w := w) hw (by omega)) (by decide) rfl ?_
        refine sw_iload_n O (xx_dt dd_X14_waive 24 rfl) rfl ?_
        refine sw_zaload (v := .int (σ (7000 + 700 + w) (cn x))) O (xx_dt dd_X14_waive 25 rfl) (lm_hwa (σ := u2 σ 5000 0 0) (b := 7000) (.inl rfl) (fl1 (hst (by assumption)).2) (w := w) hw (by omega) (j := w) (by omega)) (pk_in (cn x) _ (by omega)) (by rw [nI_clamp (by omega)]; exact (congrArg Value.int (congrFun (u2_ne (by omega)) (cn x)))) ?_
        refine sw_if_eq (tgt := 57) O (xx_dt dd_X14_waive 26 rfl) (by decide) (fun q4 => ?_) (fun q4 => ?_)
        · refine sw_aload_n O (xx_dt dd_X14_waive 31 rfl) rfl ?_
          refine sw_get (v := .ref 7000) O (xx_dt dd_X14_waive 32 rfl) cl_X14 fl_X14_141 (lm_modC (σ := u2 σ 5000 0 0) (fl1 (hst (by assumption)).1)) (by decide) rfl ?_
          refine sw_get (v := .ref (7000 + 4)) O (xx_dt dd_X14_waive 33 rfl) cl_X11 fl_X14_162 (lm_clk (σ := u2 σ 5000 0 0) (b := 7000) (.inl rfl) (fl1 (hst (by assumption)).2) (g := g) hg (by omega) (w := w) hw (by omega)) (by decide) rfl ?_
          refine sw_iload_n O (xx_dt dd_X14_waive 34 rfl) rfl ?_
          refine sw_dup2 O (xx_dt dd_X14_waive 35 rfl) rfl rfl ?_
          refine sw_iaload (v := .int (σ (7000 + 4) (cn x))) O (xx_dt dd_X14_waive 36 rfl) ((im_kwv (z := z) (σ := u2 σ 5000 0 0) (b := 7000) (.inl rfl) (hst (by assumption)).2).get _) (pk_in (cn x) _ (by omega)) (by rw [nI_clamp (by omega)]; exact (congrArg Value.int (congrFun (u2_ne (by omega)) (cn x)))) ?_
          refine sw_iconst (x := 1) O (xx_dt dd_X14_waive 37 rfl) (by decide) ?_
          refine sw_isub O (xx_dt dd_X14_waive 38 rfl) ?_
          refine sw_iastore (h2 := setM z (u2 (u2 σ 5000 0 0) (7000 + 4) (cn x) ((σ (7000 + 4) (cn x)) - 1)) h) O (xx_dt dd_X14_waive 39 rfl) ((im_kwv (z := z) (σ := u2 σ 5000 0 0) (b := 7000) (.inl rfl) (hst (by assumption)).2).get _) (pk_in (cn x) _ (by omega)) (by omega) (by rw [nI_clamp (by omega)]; exact ((im_kwv (z := z) (σ := u2 σ 5000 0 0) (b := 7000) (.inl rfl) (hst (by assumption)).2).put (by omega))) ?_
          refine sw_aload_n O (xx_dt dd_X14_waive 40 rfl) rfl ?_
          refine sw_get (v := .ref 7000) O (xx_dt dd_X14_waive 41 rfl) cl_X14 fl_X14_141 (lm_modC (σ := u2 (u2 σ 5000 0 0) (7000 + 4) (cn x) ((σ (7000 + 4) (cn x)) - 1)) (fl1 ((congrFun (u2_ne (by omega)) 25).trans (hst (by assumption)).1))) (by decide) rfl ?_
          refine sw_get (v := .ref (7000 + 700 + w)) O (xx_dt dd_X14_waive 42 rfl) cl_X11 fl_X14_165 (lm_clk (σ := u2 (u2 σ 5000 0 0) (7000 + 4) (cn x) ((σ (7000 + 4) (cn x)) - 1)) (b := 7000) (.inl rfl) (fl1 ((congrFun (u2_ne (by omega)) 20).trans (hst (by assumption)).2)) (g := g) ((congrFun (u2_ne (by omega)) 23).trans hg) (by omega) (w := w) ((congrFun (u2_ne (by omega)) 24).trans hw) (by omega)) (by decide) rfl ?_
          refine sw_iload_n O (xx_dt dd_X14_waive 43 rfl) rfl ?_
          refine sw_iconst (x := 1) O (xx_dt dd_X14_waive 44 rfl) (by decide) ?_
          refine sw_zastore (h2 := setM z (u2 (u2 (u2 σ 5000 0 0) (7000 + 4) (cn x) ((σ (7000 + 4) (cn x)) - 1)) (7000 + 700 + w) (cn x) 1) h) O (xx_dt dd_X14_waive 45 rfl) (lm_hwa (σ := u2 (u2 σ 5000 0 0) (7000 + 4) (cn x) ((σ (7000 + 4) (cn x)) - 1)) (b := 7000) (.inl rfl) (fl1 ((congrFun (u2_ne (by omega)) 20).trans (hst (by assumption)).2)) (w := w) ((congrFun (u2_ne (by omega)) 24).trans hw) (by omega) (j := w) (by omega)) (pk_in (cn x) _ (by omega)) (by omega) rfl (by rw [nI_clamp (by omega)]; exact (pm_hwa (σ := u2 (u2 σ 5000 0 0) (7000 + 4) (cn x) ((σ (7000 + 4) (cn x)) - 1)) (b := 7000) (.inl rfl) ((congrFun (u2_ne (by omega)) 20).trans (hst (by assumption)).2) (w := w) ((congrFun (u2_ne (by omega)) 24).trans hw) (by omega) (j := w) (by omega))) ?_
          refine sw_aload_n O (xx_dt dd_X14_waive 46 rfl) rfl ?_
          refine sw_get (v := .ref 7000) O (xx_dt dd_X14_waive 47 rfl) cl_X14 fl_X14_141 (lm_modC (σ := u2 (u2 (u2 σ 5000 0 0) (7000 + 4) (cn x) ((σ (7000 + 4) (cn x)) - 1)) (7000 + 700 + w) (cn x) 1) (fl1 (((congrFun (u2_ne (by omega)) 25).trans (congrFun (u2_ne (by omega)) 25)).trans (hst (by assumption)).1))) (by decide) rfl ?_
          refine sw_get (v := .ref (7000 + 4)) O (xx_dt dd_X14_waive 48 rfl) cl_X11 fl_X14_162 (lm_clk (σ := u2 (u2 (u2 σ 5000 0 0) (7000 + 4) (cn x) ((σ (7000 + 4) (cn x)) - 1)) (7000 + 700 + w) (cn x) 1) (b := 7000) (.inl rfl) (fl1 (((congrFun (u2_ne (by omega)) 20).trans (congrFun (u2_ne (by omega)) 20)).trans (hst (by assumption)).2)) (g := g) (((congrFun (u2_ne (by omega)) 23).trans (congrFun (u2_ne (by omega)) 23)).trans hg) (by omega) (w := w) (((congrFun (u2_ne (by omega)) 24).trans (congrFun (u2_ne (by omega)) 24)).trans hw) (by omega)) (by decide) rfl ?_
          refine sw_iload_n O (xx_dt dd_X14_waive 49 rfl) rfl ?_
          refine sw_iaload (v := .int ((σ (7000 + 4) (cn x)) - 1)) O (xx_dt dd_X14_waive 50 rfl) ((im_kwv (z := z) (σ := u2 (u2 (u2 σ 5000 0 0) (7000 + 4) (cn x) ((σ (7000 + 4) (cn x)) - 1)) (7000 + 700 + w) (cn x) 1) (b := 7000) (.inl rfl) (((congrFun (u2_ne (by omega)) 20).trans (congrFun (u2_ne (by omega)) 20)).trans (hst (by assumption)).2)).get _) (pk_in (cn x) _ (by omega)) (by rw [nI_clamp (by omega)]; exact (congrArg Value.int ((congrFun (u2_ne (by omega)) (cn x)).trans u2_at))) ?_
          exact sw_iret O (xx_dt dd_X14_waive 51 rfl) rfl rfl (by rw [hQ]; exact ⟨by unfold f_Mwaive; simp only [if_pos q1, if_pos q2, if_neg q3, if_pos q4], by unfold g_Mwaive; simp only [if_pos q1, if_pos q2, if_neg q3, if_pos q4]⟩)
        · refine sw_aload_n O (xx_dt dd_X14_waive 27 rfl) rfl ?_
          refine sw_iconst (x := 2) O (xx_dt dd_X14_waive 28 rfl) (by decide) ?_
          refine sw_callVx (as := [.int 2]) (st := []) (st2 := [.int 0]) O (ct_X14_refuse hl (z := z) (σ := u2 σ 5000 0 0) hbs (x := 2)) ce_X14_refuse ml_X14_74 iv_X14_refuse cl_X14 rfl (lm_mod (σ := u2 σ 5000 0 0)) (xx_dt dd_X14_waive 29 rfl) (by decide) rfl rfl (Nat.le_of_ble_eq_true rfl) rfl ?_
          exact sw_iret O (xx_dt dd_X14_waive 30 rfl) rfl rfl (by rw [hQ]; exact ⟨by unfold f_Mwaive; simp only [if_pos q1, if_pos q2, if_neg q3, if_neg q4], by unfold g_Mwaive; simp only [if_pos q1, if_pos q2, if_neg q3, if_neg q4]⟩)
  · refine sw_aload_n O (xx_dt dd_X14_waive 7 rfl) rfl ?_
    refine sw_iconst (x := 1) O (xx_dt dd_X14_waive 8 rfl) (by decide) ?_
    refine sw_callVx (as := [.int 1]) (st := []) (st2 := [.int 0]) O (ct_X14_refuse hl (z := z) (σ := u2 σ 5000 0 0) hbs (x := 1)) ce_X14_refuse ml_X14_74 iv_X14_refuse cl_X14 rfl (lm_mod (σ := u2 σ 5000 0 0)) (xx_dt dd_X14_waive 9 rfl) (by decide) rfl rfl (Nat.le_of_ble_eq_true rfl) rfl ?_
    exact sw_iret O (xx_dt dd_X14_waive 10 rfl) rfl rfl (by rw [hQ]; exact ⟨by unfold f_Mwaive; simp only [if_neg q1], by unfold g_Mwaive; simp only [if_neg q1]⟩)
def f_Mcontradicts (σ : XS9) (x : Int32) (R B g n : Nat) : Int32 := (if n_lt x B then (if (σ 5000 1) = 1 then f_Kcontradicts (u2 σ 5000 0 0) 7000 (cn x) R g n else (-1)) else 0)
def g_Mcontradicts (σ : XS9) (x : Int32) (R B g n : Nat) : XS9 := (if n_lt x B then u2 σ 5000 0 0 else u2 (u2 σ 5000 0 0) 5000 0 1)
theorem ct_X14_contradicts {l : Launch} {h : XH} (hl : l.stackTraces = false) {z : Int64} {σ : XS9} (hbs : xx_bs h) {R : Nat} (hR : σ 5001 900 = nI R) (hR5 : R ≤ 5) {B : Nat} (hB : σ 5002 900 = nI B) (hB6 : B ≤ 6) (hst : σ 5000 1 = 1 → σ 7000 25 = nI 1 ∧ σ 7000 20 = nI 1) {g : Nat} (hg : σ 7000 23 = nI g) (hg1 : g < 200) {w : Nat} (hw : σ 7000 24 = nI w) (hw1 : w < 200) {n : Nat} (hn : σ 7000 21 = nI n) (hn60 : n ≤ 60) (hn2 : σ 7000 22 = nI n) {x : Int32} : XEx l m_X14_contradicts 4 0 0 [.ref 5000, .int x] (setM z σ h) (some (.int (f_Mcontradicts σ x R B g n))) (setM z (g_Mcontradicts σ x R B g n) h) := by
  refine XMet.of hl rfl rfl (Nat.le_of_ble_eq_true rfl) (fun Y O hh hQ => ?_)
  show SW Y 0 0 (setM z σ h) 0 [.ref 5000, .int x] []
  refine sw_aload_n O (xx_dt dd_X14_contradicts 0 rfl) rfl ?_
  refine sw_iconst (x := 0) O (xx_dt dd_X14_contradicts 1 rfl) (by decide) ?_
  refine sw_put (h2 := setM z (u2 σ 5000 0 0) h) O (xx_dt dd_X14_contradicts 2 rfl) cl_X14 fl_X14_46 (lm_mod (σ := σ)) (by decide) (by omega) rfl (fun _ => ⟨rfl, rfl⟩) (pm_mod (σ := σ) (by omega)) ?_
  refine sw_aload_n O (xx_dt dd_X14_contradicts 3 rfl) rfl ?_
  refine sw_iload_n O (xx_dt dd_X14_contradicts 4 rfl) rfl ?_
  refine sw_callVx (as := [.int x]) (st := []) (st2 := [.int (bZ (n_lt x B))]) O (ct_X14_isBidder hl (z := z) (σ := u2 σ 5000 0 0) hbs (B := B) hB (by omega) (x := x)) ce_X14_isBidder ml_X14_156 iv_X14_isBidder cl_X14 rfl (lm_mod (σ := u2 σ 5000 0 0)) (xx_dt dd_X14_contradicts 5 rfl) (by decide) rfl rfl (Nat.le_of_ble_eq_true rfl) rfl ?_
  refine sw_if_neB (tgt := 19) O (xx_dt dd_X14_contradicts 6 rfl) (by decide) (fun q1 => ?_) (fun q1 => ?_)
  · have hc10 := q1
    refine sw_lsE (ls2 := [.ref 5000, .int (nI (cn x))]) (by rw [← hc10.1]) ?_
    have hd10 := hc10.2
    refine sw_aload_n O (xx_dt dd_X14_contradicts 11 rfl) rfl ?_
    refine sw_get (v := .int (σ 5000 1)) O (xx_dt dd_X14_contradicts 12 rfl) cl_X14 fl_X14_77 (lm_mod (σ := u2 σ 5000 0 0)) (by decide) rfl ?_
    refine sw_iconst (x := 1) O (xx_dt dd_X14_contradicts 13 rfl) (by decide) ?_
    refine sw_icmp_ne (tgt := 38) O (xx_dt dd_X14_contradicts 14 rfl) (by decide) (fun q2 => ?_) (fun q2 => ?_)
    · refine sw_iconst (x := (-1)) O (xx_dt dd_X14_contradicts 20 rfl) (by decide) ?_
      exact sw_iret O (xx_dt dd_X14_contradicts 21 rfl) rfl rfl (by rw [hQ]; exact ⟨by unfold f_Mcontradicts; simp only [if_pos q1, if_neg q2], by unfold g_Mcontradicts; simp only [if_pos q1, if_neg q2]⟩)
    · refine sw_aload_n O (xx_dt dd_X14_contradicts 15 rfl) rfl ?_
      refine sw_get (v := .ref 7000) O (xx_dt dd_X14_contradicts 16 rfl) cl_X14 fl_X14_141 (lm_modC (σ := u2 σ 5000 0 0) (fl1 (hst (by assumption)).1)) (by decide) rfl ?_
      refine sw_iload_n O (xx_dt dd_X14_contradicts 17 rfl) rfl ?_
      refine sw_callVx (as := [.int (nI (cn x))]) (st := []) (st2 := [.int (f_Kcontradicts (u2 σ 5000 0 0) 7000 (cn x) R g n)]) O (ct_X11_contradicts hl (z := z) (σ := u2 σ 5000 0 0) hbs (b := 7000) (.inl rfl) (hst (by assumption)).2 (g := g) hg (by omega) (w := w) hw (by omega) (R := R) hR (by omega) (n := n) hn (by omega) hn2 (i := cn x) (by omega)) ce_X11_contradicts ml_X14_387 iv_X11_contradicts cl_X11 rfl (lm_clk (σ := u2 σ 5000 0 0) (b := 7000) (.inl rfl) (fl1 (hst (by assumption)).2) (g := g) hg (by omega) (w := w) hw (by omega)) (xx_dt dd_X14_contradicts 18 rfl) (by decide) rfl rfl (Nat.le_of_ble_eq_true rfl) rfl ?_
      refine sw_goto (tgt := 39) O (xx_dt dd_X14_contradicts 19 rfl) (by decide) ?_
      exact sw_iret O (xx_dt dd_X14_contradicts 21 rfl) rfl rfl (by rw [hQ]; exact ⟨by unfold f_Mcontradicts; simp only [if_pos q1, if_pos q2], by unfold g_Mcontradicts; simp only [if_pos q1, if_pos q2]⟩)
  · refine sw_aload_n O (xx_dt dd_X14_contradicts 7 rfl) rfl ?_
    refine sw_iconst (x := 1) O (xx_dt dd_X14_contradicts 8 rfl) (by decide) ?_
    refine sw_callVx (as := [.int 1]) (st := []) (st2 := [.int 0]) O (ct_X14_refuse hl (z := z) (σ := u2 σ 5000 0 0) hbs (x := 1)) ce_X14_refuse ml_X14_74 iv_X14_refuse cl_X14 rfl (lm_mod (σ := u2 σ 5000 0 0)) (xx_dt dd_X14_contradicts 9 rfl) (by decide) rfl rfl (Nat.le_of_ble_eq_true rfl) rfl ?_
    exact sw_iret O (xx_dt dd_X14_contradicts 10 rfl) rfl rfl (by rw [hQ]; exact ⟨by unfold f_Mcontradicts; simp only [if_neg q1], by unfold g_Mcontradicts; simp only [if_neg q1]⟩)
def x_MisSignal_85 (σ : XS9) (i k R B : Nat) (pk : Nat → Nat) (i56 : Nat) (s0 : Unit) : Unit ⊕ Int32 := xitBR (fun i85 s85 => (if (nI i56) = (nI i) then .inr (.inl ()) else (if (σ (5020 + i56) 3) = (σ (5020 + i) 3) then (if (f_of (f_Bcode σ i56 i85) (cn ((f_Bamount σ i k) - (f_Bamount σ i k) / 10 * 10))) ≤ 0 then .inl () else .inr (.inr 1)) else .inr (.inl ())))) (pk i56) 0 s0
def x_MisSignal_56 (σ : XS9) (i k R B : Nat) (pk : Nat → Nat) (s0 : Unit) : Unit ⊕ Int32 := xitR (fun i56 s56 => (match (x_MisSignal_85 σ i k R B pk i56 ()) with | .inl s85 => .inl () | .inr r85 => .inr r85)) B 0 s0
def f_MisSignal (σ : XS9) (i k R B : Nat) (pk : Nat → Nat) : Int32 := (if n_lt ((f_Bamount σ i k) - (f_Bamount σ i k) / 10 * 10) R then (if 0 < (f_of (f_Bcode σ i k) (cn ((f_Bamount σ i k) - (f_Bamount σ i k) / 10 * 10))) then 0 else (if (σ (5020 + i) 3) = 0 then 0 else (match (x_MisSignal_56 σ i k R B pk ()) with | .inl s56 => 0 | .inr r56 => r56))) else 0)
theorem ct_X14_isSignal {l : Launch} {h : XH} (hl : l.stackTraces = false) {z : Int64} {σ : XS9} (hbs : xx_bs h) {R : Nat} (hR : σ 5001 900 = nI R) (hR5 : R ≤ 5) {B : Nat} (hB : σ 5002 900 = nI B) (hB6 : B ≤ 6) {pk : Nat → Nat} (hpk : ∀ j, j < B → σ (5030 + j) 900 = nI (2 * pk j) ∧ pk j ≤ 6) {i k : Nat} (hi : i < B) (hk : k < pk i)  : XEx l m_X14_isSignal 4 0 0 [.ref 5000, .int (nI i), .int (nI k)] (setM z σ h) (some (.int (f_MisSignal σ i k R B pk))) (setM z σ h) := by
  refine XMet.of hl rfl rfl (Nat.le_of_ble_eq_true rfl) (fun Y O hh hQ => ?_)
  show SW Y 0 0 (setM z σ h) 0 [.ref 5000, .int (nI i), .int (nI k), xx_d, xx_d, xx_d, xx_d, xx_d] []
  refine sw_aload_n O (xx_dt dd_X14_isSignal 0 rfl) rfl ?_
  refine sw_get (v := .ref 5002) O (xx_dt dd_X14_isSignal 1 rfl) cl_X14 fl_X14_27 (lm_mod (σ := σ)) (by decide) rfl ?_
  refine sw_iload_n O (xx_dt dd_X14_isSignal 2 rfl) rfl ?_
  refine sw_callVL (ci := 6) (as := [.int (nI i)]) (st := []) (st2 := [.ref (5020 + i)]) O (ct_get hl hbs (lm_5002 (σ := σ) (B := B) hB (by omega)) (by omega) (i := i) (x := 5020 + i) (by omega) (by omega) rfl) ce_Jx4a65c_get_915e3 ml_X14_61 iv_Jx4a65c_get_915e3 cl_Jx4a65c rfl (lm_5002 (σ := σ) (B := B) hB (by omega)) (xx_dt dd_X14_isSignal 3 rfl) (by decide) rfl rfl (Nat.le_of_ble_eq_true rfl) rfl ?_
  refine sw_castO O (xx_dt dd_X14_isSignal 4 rfl) cl_X9 (lm_bid (σ := σ) (B := B) hB (by omega) (j := i) (by omega)) cw_X14_118 ?_
  refine sw_astore_n (ls2 := [.ref 5000, .int (nI i), .int (nI k), .ref (5020 + i), xx_d, xx_d, xx_d, xx_d]) O (xx_dt dd_X14_isSignal 5 rfl) (by decide) rfl ?_
  refine sw_aload_n O (xx_dt dd_X14_isSignal 6 rfl) rfl ?_
  refine sw_iload_n O (xx_dt dd_X14_isSignal 7 rfl) rfl ?_
  refine sw_callVx (as := [.int (nI k)]) (st := []) (st2 := [.int (f_Bamount σ i k)]) O (ct_X9_amount hl (z := z) (σ := σ) hbs (B := B) hB (by omega) (j := i) (by omega) (p := pk i) (hpk i (by omega)).1 (by have h9 := (hpk i (by omega)).2; omega) (k := k) (by first | omega | (have h9 := (hpk i (by omega)).2; omega))) ce_X9_amount ml_X14_252 iv_X9_amount cl_X9 rfl (lm_bid (σ := σ) (B := B) hB (by omega) (j := i) (by omega)) (xx_dt dd_X14_isSignal 8 rfl) (by decide) rfl rfl (Nat.le_of_ble_eq_true rfl) rfl ?_
  refine sw_bipush (x := 10) O (xx_dt dd_X14_isSignal 9 rfl) (by decide) ?_
  refine sw_irem O (xx_dt dd_X14_isSignal 10 rfl) (by first | decide | assumption) ?_
  refine sw_istore (ls2 := [.ref 5000, .int (nI i), .int (nI k), .ref (5020 + i), .int ((f_Bamount σ i k) - (f_Bamount σ i k) / 10 * 10), xx_d, xx_d, xx_d]) O (xx_dt dd_X14_isSignal 11 rfl) (by decide) rfl ?_
  refine sw_aload_n O (xx_dt dd_X14_isSignal 12 rfl) rfl ?_
  refine sw_iload O (xx_dt dd_X14_isSignal 13 rfl) rfl ?_
  refine sw_callVx (as := [.int ((f_Bamount σ i k) - (f_Bamount σ i k) / 10 * 10)]) (st := []) (st2 := [.int (bZ (n_lt ((f_Bamount σ i k) - (f_Bamount σ i k) / 10 * 10) R))]) O (ct_X14_isRegion hl (z := z) (σ := σ) hbs (R := R) hR (by omega) (x := (f_Bamount σ i k) - (f_Bamount σ i k) / 10 * 10)) ce_X14_isRegion ml_X14_91 iv_X14_isRegion cl_X14 rfl (lm_mod (σ := σ)) (xx_dt dd_X14_isSignal 14 rfl) (by decide) rfl rfl (Nat.le_of_ble_eq_true rfl) rfl ?_
  refine sw_if_eqB (tgt := 51) O (xx_dt dd_X14_isSignal 15 rfl) (by decide) (fun q1 => ?_) (fun q1 => ?_)
  · refine sw_iconst (x := 0) O (xx_dt dd_X14_isSignal 25 rfl) (by decide) ?_
    exact sw_iret O (xx_dt dd_X14_isSignal 26 rfl) rfl rfl (by rw [hQ]; exact ⟨by unfold f_MisSignal; simp only [if_neg q1], rfl⟩)
  · have hc28 := q1
    refine sw_lsE (ls2 := [.ref 5000, .int (nI i), .int (nI k), .ref (5020 + i), .int (nI (cn ((f_Bamount σ i k) - (f_Bamount σ i k) / 10 * 10))), xx_d, xx_d, xx_d]) (by rw [← hc28.1]) ?_
    have hd28 := hc28.2
    refine sw_aload_n O (xx_dt dd_X14_isSignal 16 rfl) rfl ?_
    refine sw_iload_n O (xx_dt dd_X14_isSignal 17 rfl) rfl ?_
    refine sw_callVx (as := [.int (nI k)]) (st := []) (st2 := [.int (f_Bcode σ i k)]) O (ct_X9_code hl (z := z) (σ := σ) hbs (B := B) hB (by omega) (j := i) (by omega) (p := pk i) (hpk i (by omega)).1 (by have h9 := (hpk i (by omega)).2; omega) (k := k) (by first | omega | (have h9 := (hpk i (by omega)).2; omega))) ce_X9_code ml_X14_240 iv_X9_code cl_X9 rfl (lm_bid (σ := σ) (B := B) hB (by omega) (j := i) (by omega)) (xx_dt dd_X14_isSignal 18 rfl) (by decide) rfl rfl (Nat.le_of_ble_eq_true rfl) rfl ?_
    refine sw_iload O (xx_dt dd_X14_isSignal 19 rfl) rfl ?_
    refine sw_callSx (as := [.int (f_Bcode σ i k), .int (nI (cn ((f_Bamount σ i k) - (f_Bamount σ i k) / 10 * 10)))]) (st := []) (st2 := [.int (f_of (f_Bcode σ i k) (cn ((f_Bamount σ i k) - (f_Bamount σ i k) / 10 * 10)))]) O (ct_X14_of hl (c := f_Bcode σ i k) (r := cn ((f_Bamount σ i k) - (f_Bamount σ i k) / 10 * 10)) (by omega)) ce_X14_of ml_X14_53 st_X14_of (xx_dt dd_X14_isSignal 20 rfl) (by decide) rfl rfl (Nat.le_of_ble_eq_true rfl) rfl ?_
    refine sw_if_gt (tgt := 51) O (xx_dt dd_X14_isSignal 21 rfl) (by decide) (fun q2 => ?_) (fun q2 => ?_)
    · refine sw_iconst (x := 0) O (xx_dt dd_X14_isSignal 25 rfl) (by decide) ?_
      exact sw_iret O (xx_dt dd_X14_isSignal 26 rfl) rfl rfl (by rw [hQ]; exact ⟨by unfold f_MisSignal; simp only [if_pos q1, if_pos q2], rfl⟩)
    · refine sw_aload_n O (xx_dt dd_X14_isSignal 22 rfl) rfl ?_
      refine sw_get (v := .int (σ (5020 + i) 3)) O (xx_dt dd_X14_isSignal 23 rfl) cl_X9 fl_X14_130 (lm_bid (σ := σ) (B := B) hB (by omega) (j := i) (by omega)) (by decide) rfl ?_
      refine sw_if_ne (tgt := 53) O (xx_dt dd_X14_isSignal 24 rfl) (by decide) (fun q3 => ?_) (fun q3 => ?_)
      · refine sw_iconst (x := 0) O (xx_dt dd_X14_isSignal 27 rfl) (by decide) ?_
        refine sw_istore (ls2 := [.ref 5000, .int (nI i), .int (nI k), .ref (5020 + i), .int (nI (cn ((f_Bamount σ i k) - (f_Bamount σ i k) / 10 * 10))), .int 0, xx_d, xx_d]) O (xx_dt dd_X14_isSignal 28 rfl) (by decide) rfl ?_
        refine sw_forR (S := Unit) (R := Int32) (fun i56 s56 => (match (x_MisSignal_85 σ i k R B pk i56 ()) with | .inl s85 => .inl () | .inr r85 => .inr r85)) (fun _ _ => True) (FR := fun r9 => f_MisSignal σ i k R B pk = r9) (hp := fun _ => setM z σ h) (hd := 56) (lc := fun i56 s56 => [.ref 5000, .int (nI i), .int (nI k), .ref (5020 + i), .int (nI (cn ((f_Bamount σ i k) - (f_Bamount σ i k) / 10 * 10))), .int (nI i56), xx_d, xx_d]) (N := B) (fun i56 s56 hi56 hP56 => ⟨fun _ _ => trivial, fun kk56 kr56 => ?_⟩) B 0 () (by omega) (trivial) (fun sN56 eN56 hP56 => ?_) (fun r56 eN56 => ?_)
        · refine sw_iload O (xx_dt dd_X14_isSignal 29 rfl) rfl ?_
          refine sw_aload_n O (xx_dt dd_X14_isSignal 30 rfl) rfl ?_
          refine sw_get (v := .ref 5002) O (xx_dt dd_X14_isSignal 31 rfl) cl_X14 fl_X14_27 (lm_mod (σ := σ)) (by decide) rfl ?_
          refine sw_callVL (ci := 6) (as := []) (st := [.int (nI i56)]) (st2 := [.int (nI B), .int (nI i56)]) O (ct_AL_size hl (lm_5002 (σ := σ) (B := B) hB (by omega))) ce_Jx4a65c_size_8abf5 ml_X14_57 iv_Jx4a65c_size_8abf5 cl_Jx4a65c rfl (lm_5002 (σ := σ) (B := B) hB (by omega)) (xx_dt dd_X14_isSignal 32 rfl) (by decide) rfl rfl (Nat.le_of_ble_eq_true rfl) rfl ?_
          refine sw_icmp_ge (tgt := 142) O (xx_dt dd_X14_isSignal 33 rfl) (by decide) (fun q4 => ?_) (fun q4 => ?_)
          · exact absurd q4 (nI_ge (b := B) hi56 (by omega))
          · refine sw_aload_n O (xx_dt dd_X14_isSignal 34 rfl) rfl ?_
            refine sw_get (v := .ref 5002) O (xx_dt dd_X14_isSignal 35 rfl) cl_X14 fl_X14_27 (lm_mod (σ := σ)) (by decide) rfl ?_
            refine sw_iload O (xx_dt dd_X14_isSignal 36 rfl) rfl ?_
            refine sw_callVL (ci := 6) (as := [.int (nI i56)]) (st := []) (st2 := [.ref (5020 + i56)]) O (ct_get hl hbs (lm_5002 (σ := σ) (B := B) hB (by omega)) (by omega) (i := i56) (x := 5020 + i56) (by omega) (by omega) rfl) ce_Jx4a65c_get_915e3 ml_X14_61 iv_Jx4a65c_get_915e3 cl_Jx4a65c rfl (lm_5002 (σ := σ) (B := B) hB (by omega)) (xx_dt dd_X14_isSignal 37 rfl) (by decide) rfl rfl (Nat.le_of_ble_eq_true rfl) rfl ?_
            refine sw_castO O (xx_dt dd_X14_isSignal 38 rfl) cl_X9 (lm_bid (σ := σ) (B := B) hB (by omega) (j := i56) (by omega)) cw_X14_118 ?_
            refine sw_astore (ls2 := [.ref 5000, .int (nI i), .int (nI k), .ref (5020 + i), .int (nI (cn ((f_Bamount σ i k) - (f_Bamount σ i k) / 10 * 10))), .int (nI i56), .ref (5020 + i56), xx_d]) O (xx_dt dd_X14_isSignal 39 rfl) (by decide) rfl ?_
            refine sw_iconst (x := 0) O (xx_dt dd_X14_isSignal 40 rfl) (by decide) ?_
            refine sw_istore (ls2 := [.ref 5000, .int (nI i), .int (nI k), .ref (5020 + i), .int (nI (cn ((f_Bamount σ i k) - (f_Bamount σ i k) / 10 * 10))), .int (nI i56), .ref (5020 + i56), .int 0]) O (xx_dt dd_X14_isSignal 41 rfl) (by decide) rfl ?_
            refine sw_forBR (S := Unit) (R := Int32) (fun i85 s85 => (if (nI i56) = (nI i) then .inr (.inl ()) else (if (σ (5020 + i56) 3) = (σ (5020 + i) 3) then (if (f_of (f_Bcode σ i56 i85) (cn ((f_Bamount σ i k) - (f_Bamount σ i k) / 10 * 10))) ≤ 0 then .inl () else .inr (.inr 1)) else .inr (.inl ())))) (fun _ _ => True) (fun _ => True) (FR := fun r9 => f_MisSignal σ i k R B pk = r9) (hp := fun _ => setM z σ h) (hd := 85) (lc := fun i85 s85 => [.ref 5000, .int (nI i), .int (nI k), .ref (5020 + i), .int (nI (cn ((f_Bamount σ i k) - (f_Bamount σ i k) / 10 * 10))), .int (nI i56), .ref (5020 + i56), .int (nI i85)]) (ex := 136) (lx := fun s85 => [.ref 5000, .int (nI i), .int (nI k), .ref (5020 + i), .int (nI (cn ((f_Bamount σ i k) - (f_Bamount σ i k) / 10 * 10))), .int (nI i56), .ref (5020 + i56), xx_d]) (N := (pk i56)) (fun i85 s85 hi85 hP85 => ⟨⟨(fun _ _ => trivial), (fun _ _ => trivial)⟩, fun kk85 kb85 kr85 => ?_⟩) (fun s85 hP85 => ⟨hP85, fun kx85 => ?_⟩) (pk i56) 0 () (by omega) (trivial) (fun sN85 eN85 hP85 => ?_) (fun r85 eN85 => ?_)
            · refine sw_iload O (xx_dt dd_X14_isSignal 42 rfl) rfl ?_
              refine sw_aload O (xx_dt dd_X14_isSignal 43 rfl) rfl ?_
              have hq89 := (hpk i56 (by omega)).2
              refine sw_callVx (as := []) (st := [.int (nI i85)]) (st2 := [.int (nI (pk i56)), .int (nI i85)]) O ((show XEx _ _ _ _ _ _ _ (some (.int (nI (pk i56)))) _ from ct_X9_many hl (z := z) (σ := σ) hbs (B := B) hB (by omega) (j := i56) (by omega) (p := pk i56) (hpk i56 (by omega)).1 (by have h9 := (hpk i56 (by omega)).2; omega))) ce_X9_many ml_X14_210 iv_X9_many cl_X9 rfl (lm_bid (σ := σ) (B := B) hB (by omega) (j := i56) (by omega)) (xx_dt dd_X14_isSignal 44 rfl) (by decide) rfl rfl (Nat.le_of_ble_eq_true rfl) rfl ?_
              refine sw_icmp_ge (tgt := 136) O (xx_dt dd_X14_isSignal 45 rfl) (by decide) (fun q5 => ?_) (fun q5 => ?_)
              · exact absurd q5 (nI_ge (b := (pk i56)) hi85 (by omega))
              · refine sw_iload O (xx_dt dd_X14_isSignal 46 rfl) rfl ?_
                refine sw_iload_n O (xx_dt dd_X14_isSignal 47 rfl) rfl ?_
                refine sw_icmp_eq (tgt := 136) O (xx_dt dd_X14_isSignal 48 rfl) (by decide) (fun q6 => ?_) (fun q6 => ?_)
                · refine sw_dum (ls2 := [.ref 5000, .int (nI i), .int (nI k), .ref (5020 + i), .int (nI (cn ((f_Bamount σ i k) - (f_Bamount σ i k) / 10 * 10))), .int (nI i56), .ref (5020 + i56), xx_d]) ⟨.inr rfl, .inr rfl, .inr rfl, .inr rfl, .inr rfl, .inr rfl, .inr rfl, .inl rfl, trivial⟩ ?_
                  exact kb85 () (by simp only [if_pos q6])
                · refine sw_aload O (xx_dt dd_X14_isSignal 49 rfl) rfl ?_
                  refine sw_get (v := .int (σ (5020 + i56) 3)) O (xx_dt dd_X14_isSignal 50 rfl) cl_X9 fl_X14_130 (lm_bid (σ := σ) (B := B) hB (by omega) (j := i56) (by omega)) (by decide) rfl ?_
                  refine sw_aload_n O (xx_dt dd_X14_isSignal 51 rfl) rfl ?_
                  refine sw_get (v := .int (σ (5020 + i) 3)) O (xx_dt dd_X14_isSignal 52 rfl) cl_X9 fl_X14_130 (lm_bid (σ := σ) (B := B) hB (by omega) (j := i) (by omega)) (by decide) rfl ?_
                  refine sw_icmp_ne (tgt := 136) O (xx_dt dd_X14_isSignal 53 rfl) (by decide) (fun q7 => ?_) (fun q7 => ?_)
                  · refine sw_dum (ls2 := [.ref 5000, .int (nI i), .int (nI k), .ref (5020 + i), .int (nI (cn ((f_Bamount σ i k) - (f_Bamount σ i k) / 10 * 10))), .int (nI i56), .ref (5020 + i56), xx_d]) ⟨.inr rfl, .inr rfl, .inr rfl, .inr rfl, .inr rfl, .inr rfl, .inr rfl, .inl rfl, trivial⟩ ?_
                    exact kb85 () (by simp only [if_neg q6, if_neg q7])
                  · refine sw_aload O (xx_dt dd_X14_isSignal 54 rfl) rfl ?_
                    refine sw_iload O (xx_dt dd_X14_isSignal 55 rfl) rfl ?_
                    refine sw_callVx (as := [.int (nI i85)]) (st := []) (st2 := [.int (f_Bcode σ i56 i85)]) O (ct_X9_code hl (z := z) (σ := σ) hbs (B := B) hB (by omega) (j := i56) (by omega) (p := pk i56) (hpk i56 (by omega)).1 (by have h9 := (hpk i56 (by omega)).2; omega) (k := i85) (by first | omega | (have h9 := (hpk i56 (by omega)).2; omega))) ce_X9_code ml_X14_240 iv_X9_code cl_X9 rfl (lm_bid (σ := σ) (B := B) hB (by omega) (j := i56) (by omega)) (xx_dt dd_X14_isSignal 56 rfl) (by decide) rfl rfl (Nat.le_of_ble_eq_true rfl) rfl ?_
                    refine sw_iload O (xx_dt dd_X14_isSignal 57 rfl) rfl ?_
                    refine sw_callSx (as := [.int (f_Bcode σ i56 i85), .int (nI (cn ((f_Bamount σ i k) - (f_Bamount σ i k) / 10 * 10)))]) (st := []) (st2 := [.int (f_of (f_Bcode σ i56 i85) (cn ((f_Bamount σ i k) - (f_Bamount σ i k) / 10 * 10)))]) O (ct_X14_of hl (c := f_Bcode σ i56 i85) (r := cn ((f_Bamount σ i k) - (f_Bamount σ i k) / 10 * 10)) (by omega)) ce_X14_of ml_X14_53 st_X14_of (xx_dt dd_X14_isSignal 58 rfl) (by decide) rfl rfl (Nat.le_of_ble_eq_true rfl) rfl ?_
                    refine sw_if_le (tgt := 130) O (xx_dt dd_X14_isSignal 59 rfl) (by decide) (fun q8 => ?_) (fun q8 => ?_)
                    · refine sw_iinc (y := nI (i85 + 1)) (ls2 := [.ref 5000, .int (nI i), .int (nI k), .ref (5020 + i), .int (nI (cn ((f_Bamount σ i k) - (f_Bamount σ i k) / 10 * 10))), .int (nI i56), .ref (5020 + i56), .int (nI (i85 + 1))]) O (xx_dt dd_X14_isSignal 62 rfl) rfl (nI_1 _) (by decide) rfl ?_
                      refine sw_goto (tgt := 85) O (xx_dt dd_X14_isSignal 63 rfl) (by decide) ?_
                      exact kk85 () (by simp only [if_neg q6, if_pos q7, if_pos q8])
                    · refine sw_iconst (x := 1) O (xx_dt dd_X14_isSignal 60 rfl) (by decide) ?_
                      exact sw_iret O (xx_dt dd_X14_isSignal 61 rfl) rfl rfl (by rw [hQ, kr85 1 (by simp only [if_neg q6, if_pos q7, if_neg q8])]; exact ⟨rfl, rfl⟩)
            · show SW Y _ _ (setM z σ h) 85 [.ref 5000, .int (nI i), .int (nI k), .ref (5020 + i), .int (nI (cn ((f_Bamount σ i k) - (f_Bamount σ i k) / 10 * 10))), .int (nI i56), .ref (5020 + i56), .int (nI ((pk i56)))] []
              refine sw_iload O (xx_dt dd_X14_isSignal 42 rfl) rfl ?_
              refine sw_aload O (xx_dt dd_X14_isSignal 43 rfl) rfl ?_
              have hq89 := (hpk i56 (by omega)).2
              refine sw_callVx (as := []) (st := [.int (nI ((pk i56)))]) (st2 := [.int (nI (pk i56)), .int (nI ((pk i56)))]) O ((show XEx _ _ _ _ _ _ _ (some (.int (nI (pk i56)))) _ from ct_X9_many hl (z := z) (σ := σ) hbs (B := B) hB (by omega) (j := i56) (by omega) (p := pk i56) (hpk i56 (by omega)).1 (by have h9 := (hpk i56 (by omega)).2; omega))) ce_X9_many ml_X14_210 iv_X9_many cl_X9 rfl (lm_bid (σ := σ) (B := B) hB (by omega) (j := i56) (by omega)) (xx_dt dd_X14_isSignal 44 rfl) (by decide) rfl rfl (Nat.le_of_ble_eq_true rfl) rfl ?_
              refine sw_icmp_ge (tgt := 136) O (xx_dt dd_X14_isSignal 45 rfl) (by decide) (fun q5 => ?_) (fun q5 => ?_)
              · refine sw_dum (ls2 := [.ref 5000, .int (nI i), .int (nI k), .ref (5020 + i), .int (nI (cn ((f_Bamount σ i k) - (f_Bamount σ i k) / 10 * 10))), .int (nI i56), .ref (5020 + i56), xx_d]) ⟨.inr rfl, .inr rfl, .inr rfl, .inr rfl, .inr rfl, .inr rfl, .inr rfl, .inl rfl, trivial⟩ ?_
                exact kx85
              · exact absurd (Int32.le_refl _) q5
            · show SW Y _ _ (setM z σ h) 136 [.ref 5000, .int (nI i), .int (nI k), .ref (5020 + i), .int (nI (cn ((f_Bamount σ i k) - (f_Bamount σ i k) / 10 * 10))), .int (nI i56), .ref (5020 + i56), xx_d] []
              refine sw_iinc (y := nI (i56 + 1)) (ls2 := [.ref 5000, .int (nI i), .int (nI k), .ref (5020 + i), .int (nI (cn ((f_Bamount σ i k) - (f_Bamount σ i k) / 10 * 10))), .int (nI (i56 + 1)), .ref (5020 + i56), xx_d]) O (xx_dt dd_X14_isSignal 64 rfl) rfl (nI_1 _) (by decide) rfl ?_
              refine sw_goto (tgt := 56) O (xx_dt dd_X14_isSignal 65 rfl) (by decide) ?_
              refine sw_dum (ls2 := [.ref 5000, .int (nI i), .int (nI k), .ref (5020 + i), .int (nI (cn ((f_Bamount σ i k) - (f_Bamount σ i k) / 10 * 10))), .int (nI (i56 + 1)), xx_d, xx_d]) ⟨.inr rfl, .inr rfl, .inr rfl, .inr rfl, .inr rfl, .inr rfl, .inl rfl, .inr rfl, trivial⟩ ?_
              exact kk56 () (by simp only [x_MisSignal_85, eN85])
            · exact kr56 r85 (by simp only [x_MisSignal_85, eN85])
        · show SW Y _ _ (setM z σ h) 56 [.ref 5000, .int (nI i), .int (nI k), .ref (5020 + i), .int (nI (cn ((f_Bamount σ i k) - (f_Bamount σ i k) / 10 * 10))), .int (nI B), xx_d, xx_d] []
          refine sw_iload O (xx_dt dd_X14_isSignal 29 rfl) rfl ?_
          refine sw_aload_n O (xx_dt dd_X14_isSignal 30 rfl) rfl ?_
          refine sw_get (v := .ref 5002) O (xx_dt dd_X14_isSignal 31 rfl) cl_X14 fl_X14_27 (lm_mod (σ := σ)) (by decide) rfl ?_
          refine sw_callVL (ci := 6) (as := []) (st := [.int (nI B)]) (st2 := [.int (nI B), .int (nI B)]) O (ct_AL_size hl (lm_5002 (σ := σ) (B := B) hB (by omega))) ce_Jx4a65c_size_8abf5 ml_X14_57 iv_Jx4a65c_size_8abf5 cl_Jx4a65c rfl (lm_5002 (σ := σ) (B := B) hB (by omega)) (xx_dt dd_X14_isSignal 32 rfl) (by decide) rfl rfl (Nat.le_of_ble_eq_true rfl) rfl ?_
          refine sw_icmp_ge (tgt := 142) O (xx_dt dd_X14_isSignal 33 rfl) (by decide) (fun q4 => ?_) (fun q4 => ?_)
          · refine sw_iconst (x := 0) O (xx_dt dd_X14_isSignal 66 rfl) (by decide) ?_
            exact sw_iret O (xx_dt dd_X14_isSignal 67 rfl) rfl rfl (by rw [hQ]; exact ⟨by unfold f_MisSignal; simp only [if_pos q1, if_neg q2, if_neg q3, x_MisSignal_56, eN56], rfl⟩)
          · exact absurd (Int32.le_refl _) q4
        · unfold f_MisSignal; simp only [if_pos q1, if_neg q2, if_neg q3, x_MisSignal_56, eN56]
      · refine sw_iconst (x := 0) O (xx_dt dd_X14_isSignal 25 rfl) (by decide) ?_
        exact sw_iret O (xx_dt dd_X14_isSignal 26 rfl) rfl rfl (by rw [hQ]; exact ⟨by unfold f_MisSignal; simp only [if_pos q1, if_neg q2, if_pos q3], rfl⟩)
def x_Msignals_17 (σ : XS9) (R B : Nat) (pk : Nat → Nat) (i4 : Nat) (s0 : Int32) : Int32 := xit (fun i17 s17 => (if (f_MisSignal σ i4 (1 + i17) R B pk) = 0 then s17 + 0 else s17 + 1)) (pk i4 - 1) 0 s0
def x_Msignals_4 (σ : XS9) (R B : Nat) (pk : Nat → Nat) (s0 : Int32) : Int32 := xit (fun i4 s4 => (x_Msignals_17 σ R B pk i4 s4)) B 0 s0
def f_Msignals (σ : XS9) (R B : Nat) (pk : Nat → Nat) : Int32 := (x_Msignals_4 σ R B pk 0)
theorem ct_X14_signals {l : Launch} {h : XH} (hl : l.stackTraces = false) {z : Int64} {σ : XS9} (hbs : xx_bs h) {R : Nat} (hR : σ 5001 900 = nI R) (hR5 : R ≤ 5) {B : Nat} (hB : σ 5002 900 = nI B) (hB6 : B ≤ 6) {pk : Nat → Nat} (hpk : ∀ j, j < B → σ (5030 + j) 900 = nI (2 * pk j) ∧ pk j ≤ 6)  : XEx l m_X14_signals 5 0 0 [.ref 5000] (setM z σ h) (some (.int (f_Msignals σ R B pk))) (setM z σ h) := by
  refine XMet.of hl rfl rfl (Nat.le_of_ble_eq_true rfl) (fun Y O hh hQ => ?_)
  show SW Y 0 0 (setM z σ h) 0 [.ref 5000, xx_d, xx_d, xx_d] []
  refine sw_iconst (x := 0) O (xx_dt dd_X14_signals 0 rfl) (by decide) ?_
  refine sw_istore_n (ls2 := [.ref 5000, .int 0, xx_d, xx_d]) O (xx_dt dd_X14_signals 1 rfl) (by decide) rfl ?_
  refine sw_iconst (x := 0) O (xx_dt dd_X14_signals 2 rfl) (by decide) ?_
  refine sw_istore_n (ls2 := [.ref 5000, .int 0, .int 0, xx_d]) O (xx_dt dd_X14_signals 3 rfl) (by decide) rfl ?_
  refine sw_for (S := Int32) (fun i4 s4 => (x_Msignals_17 σ R B pk i4 s4)) (fun _ _ => True) (hp := fun _ => setM z σ h) (hd := 4) (lc := fun i4 s4 => [.ref 5000, .int s4, .int (nI i4), xx_d]) (N := B) (fun i4 s4 hi4 hP4 => ⟨trivial, fun kk4 => ?_⟩) B 0 0 (by omega) (trivial) (fun hP4 => ?_)
  · refine sw_iload_n O (xx_dt dd_X14_signals 4 rfl) rfl ?_
    refine sw_aload_n O (xx_dt dd_X14_signals 5 rfl) rfl ?_
    refine sw_get (v := .ref 5002) O (xx_dt dd_X14_signals 6 rfl) cl_X14 fl_X14_27 (lm_mod (σ := σ)) (by decide) rfl ?_
    refine sw_callVL (ci := 6) (as := []) (st := [.int (nI i4)]) (st2 := [.int (nI B), .int (nI i4)]) O (ct_AL_size hl (lm_5002 (σ := σ) (B := B) hB (by omega))) ce_Jx4a65c_size_8abf5 ml_X14_57 iv_Jx4a65c_size_8abf5 cl_Jx4a65c rfl (lm_5002 (σ := σ) (B := B) hB (by omega)) (xx_dt dd_X14_signals 7 rfl) (by decide) rfl rfl (Nat.le_of_ble_eq_true rfl) rfl ?_
    refine sw_icmp_ge (tgt := 64) O (xx_dt dd_X14_signals 8 rfl) (by decide) (fun q1 => ?_) (fun q1 => ?_)
    · exact absurd q1 (nI_ge (b := B) hi4 (by omega))
    · refine sw_iconst (x := 1) O (xx_dt dd_X14_signals 9 rfl) (by decide) ?_
      refine sw_istore_n (ls2 := [.ref 5000, .int s4, .int (nI i4), .int 1]) O (xx_dt dd_X14_signals 10 rfl) (by decide) rfl ?_
      refine sw_for (S := Int32) (fun i17 s17 => (if (f_MisSignal σ i4 (1 + i17) R B pk) = 0 then s17 + 0 else s17 + 1)) (fun _ _ => True) (hp := fun _ => setM z σ h) (hd := 17) (lc := fun i17 s17 => [.ref 5000, .int s17, .int (nI i4), .int (nI (1 + i17))]) (N := (pk i4 - 1)) (fun i17 s17 hi17 hP17 => ⟨trivial, fun kk17 => ?_⟩) (pk i4 - 1) 0 s4 (by omega) (trivial) (fun hP17 => ?_)
      · refine sw_iload_n O (xx_dt dd_X14_signals 11 rfl) rfl ?_
        refine sw_aload_n O (xx_dt dd_X14_signals 12 rfl) rfl ?_
        refine sw_get (v := .ref 5002) O (xx_dt dd_X14_signals 13 rfl) cl_X14 fl_X14_27 (lm_mod (σ := σ)) (by decide) rfl ?_
        refine sw_iload_n O (xx_dt dd_X14_signals 14 rfl) rfl ?_
        refine sw_callVL (ci := 6) (as := [.int (nI i4)]) (st := [.int (nI (1 + i17))]) (st2 := [.ref (5020 + i4), .int (nI (1 + i17))]) O (ct_get hl hbs (lm_5002 (σ := σ) (B := B) hB (by omega)) (by omega) (i := i4) (x := 5020 + i4) (by omega) (by omega) rfl) ce_Jx4a65c_get_915e3 ml_X14_61 iv_Jx4a65c_get_915e3 cl_Jx4a65c rfl (lm_5002 (σ := σ) (B := B) hB (by omega)) (xx_dt dd_X14_signals 15 rfl) (by decide) rfl rfl (Nat.le_of_ble_eq_true rfl) rfl ?_
        refine sw_castO O (xx_dt dd_X14_signals 16 rfl) cl_X9 (lm_bid (σ := σ) (B := B) hB (by omega) (j := i4) (by omega)) cw_X14_118 ?_
        have hq29 := (hpk i4 (by omega)).2
        refine sw_callVx (as := []) (st := [.int (nI (1 + i17))]) (st2 := [.int (nI (pk i4)), .int (nI (1 + i17))]) O ((show XEx _ _ _ _ _ _ _ (some (.int (nI (pk i4)))) _ from ct_X9_many hl (z := z) (σ := σ) hbs (B := B) hB (by omega) (j := i4) (by omega) (p := pk i4) (hpk i4 (by omega)).1 (by have h9 := (hpk i4 (by omega)).2; omega))) ce_X9_many ml_X14_210 iv_X9_many cl_X9 rfl (lm_bid (σ := σ) (B := B) hB (by omega) (j := i4) (by omega)) (xx_dt dd_X14_signals 17 rfl) (by decide) rfl rfl (Nat.le_of_ble_eq_true rfl) rfl ?_
        refine sw_icmp_ge (tgt := 58) O (xx_dt dd_X14_signals 18 rfl) (by decide) (fun q2 => ?_) (fun q2 => ?_)
        · exact absurd q2 (nI_ge (a := 1 + i17) (b := (pk i4)) (by omega) (by omega))
        · refine sw_iload_n O (xx_dt dd_X14_signals 19 rfl) rfl ?_
          refine sw_aload_n O (xx_dt dd_X14_signals 20 rfl) rfl ?_
          refine sw_iload_n O (xx_dt dd_X14_signals 21 rfl) rfl ?_
          refine sw_iload_n O (xx_dt dd_X14_signals 22 rfl) rfl ?_
          refine sw_callVx (as := [.int (nI i4), .int (nI (1 + i17))]) (st := [.int s17]) (st2 := [.int (f_MisSignal σ i4 (1 + i17) R B pk), .int s17]) O (ct_X14_isSignal hl (z := z) (σ := σ) hbs (R := R) hR (by omega) (B := B) hB (by omega) (pk := pk) hpk (i := i4) (k := 1 + i17) (by omega) (by omega)) ce_X14_isSignal ml_X14_356 iv_X14_isSignal cl_X14 rfl (lm_mod (σ := σ)) (xx_dt dd_X14_signals 23 rfl) (by decide) rfl rfl (Nat.le_of_ble_eq_true rfl) rfl ?_
          refine sw_if_eq (tgt := 49) O (xx_dt dd_X14_signals 24 rfl) (by decide) (fun q3 => ?_) (fun q3 => ?_)
          · refine sw_iconst (x := 0) O (xx_dt dd_X14_signals 27 rfl) (by decide) ?_
            refine sw_iadd O (xx_dt dd_X14_signals 28 rfl) ?_
            refine sw_istore_n (ls2 := [.ref 5000, .int (s17 + 0), .int (nI i4), .int (nI (1 + i17))]) O (xx_dt dd_X14_signals 29 rfl) (by decide) rfl ?_
            refine sw_iinc (y := nI (1 + i17 + 1)) (ls2 := [.ref 5000, .int (s17 + 0), .int (nI i4), .int (nI (1 + i17 + 1))]) O (xx_dt dd_X14_signals 30 rfl) rfl (nI_1 _) (by decide) rfl ?_
            refine sw_goto (tgt := 17) O (xx_dt dd_X14_signals 31 rfl) (by decide) ?_
            simp only [if_pos q3] at kk17
            exact kk17
          · refine sw_iconst (x := 1) O (xx_dt dd_X14_signals 25 rfl) (by decide) ?_
            refine sw_goto (tgt := 50) O (xx_dt dd_X14_signals 26 rfl) (by decide) ?_
            refine sw_iadd O (xx_dt dd_X14_signals 28 rfl) ?_
            refine sw_istore_n (ls2 := [.ref 5000, .int (s17 + 1), .int (nI i4), .int (nI (1 + i17))]) O (xx_dt dd_X14_signals 29 rfl) (by decide) rfl ?_
            refine sw_iinc (y := nI (1 + i17 + 1)) (ls2 := [.ref 5000, .int (s17 + 1), .int (nI i4), .int (nI (1 + i17 + 1))]) O (xx_dt dd_X14_signals 30 rfl) rfl (nI_1 _) (by decide) rfl ?_
            refine sw_goto (tgt := 17) O (xx_dt dd_X14_signals 31 rfl) (by decide) ?_
            simp only [if_neg q3] at kk17
            exact kk17
      · show SW Y _ _ (setM z σ h) 17 [.ref 5000, .int (x_Msignals_17 σ R B pk i4 s4), .int (nI i4), .int (nI (1 + (pk i4 - 1)))] []
        refine sw_iload_n O (xx_dt dd_X14_signals 11 rfl) rfl ?_
        refine sw_aload_n O (xx_dt dd_X14_signals 12 rfl) rfl ?_
        refine sw_get (v := .ref 5002) O (xx_dt dd_X14_signals 13 rfl) cl_X14 fl_X14_27 (lm_mod (σ := σ)) (by decide) rfl ?_
        refine sw_iload_n O (xx_dt dd_X14_signals 14 rfl) rfl ?_
        refine sw_callVL (ci := 6) (as := [.int (nI i4)]) (st := [.int (nI (1 + (pk i4 - 1)))]) (st2 := [.ref (5020 + i4), .int (nI (1 + (pk i4 - 1)))]) O (ct_get hl hbs (lm_5002 (σ := σ) (B := B) hB (by omega)) (by omega) (i := i4) (x := 5020 + i4) (by omega) (by omega) rfl) ce_Jx4a65c_get_915e3 ml_X14_61 iv_Jx4a65c_get_915e3 cl_Jx4a65c rfl (lm_5002 (σ := σ) (B := B) hB (by omega)) (xx_dt dd_X14_signals 15 rfl) (by decide) rfl rfl (Nat.le_of_ble_eq_true rfl) rfl ?_
        refine sw_castO O (xx_dt dd_X14_signals 16 rfl) cl_X9 (lm_bid (σ := σ) (B := B) hB (by omega) (j := i4) (by omega)) cw_X14_118 ?_
        have hq29 := (hpk i4 (by omega)).2
        refine sw_callVx (as := []) (st := [.int (nI (1 + (pk i4 - 1)))]) (st2 := [.int (nI (pk i4)), .int (nI (1 + (pk i4 - 1)))]) O ((show XEx _ _ _ _ _ _ _ (some (.int (nI (pk i4)))) _ from ct_X9_many hl (z := z) (σ := σ) hbs (B := B) hB (by omega) (j := i4) (by omega) (p := pk i4) (hpk i4 (by omega)).1 (by have h9 := (hpk i4 (by omega)).2; omega))) ce_X9_many ml_X14_210 iv_X9_many cl_X9 rfl (lm_bid (σ := σ) (B := B) hB (by omega) (j := i4) (by omega)) (xx_dt dd_X14_signals 17 rfl) (by decide) rfl rfl (Nat.le_of_ble_eq_true rfl) rfl ?_
        refine sw_icmp_ge (tgt := 58) O (xx_dt dd_X14_signals 18 rfl) (by decide) (fun q2 => ?_) (fun q2 => ?_)
        · refine sw_iinc (y := nI (i4 + 1)) (ls2 := [.ref 5000, .int (x_Msignals_17 σ R B pk i4 s4), .int (nI (i4 + 1)), .int (nI (1 + (pk i4 - 1)))]) O (xx_dt dd_X14_signals 32 rfl) rfl (nI_1 _) (by decide) rfl ?_
          refine sw_goto (tgt := 4) O (xx_dt dd_X14_signals 33 rfl) (by decide) ?_
          refine sw_dum (ls2 := [.ref 5000, .int (x_Msignals_17 σ R B pk i4 s4), .int (nI (i4 + 1)), xx_d]) ⟨.inr rfl, .inr rfl, .inr rfl, .inl rfl, trivial⟩ ?_
          exact kk4
        · exact absurd ((nI_leI (a := (pk i4)) (b := 1 + (pk i4 - 1)) (by omega) (by omega)).mpr (by omega)) q2
  · show SW Y _ _ (setM z σ h) 4 [.ref 5000, .int (x_Msignals_4 σ R B pk 0), .int (nI B), xx_d] []
    refine sw_iload_n O (xx_dt dd_X14_signals 4 rfl) rfl ?_
    refine sw_aload_n O (xx_dt dd_X14_signals 5 rfl) rfl ?_
    refine sw_get (v := .ref 5002) O (xx_dt dd_X14_signals 6 rfl) cl_X14 fl_X14_27 (lm_mod (σ := σ)) (by decide) rfl ?_
    refine sw_callVL (ci := 6) (as := []) (st := [.int (nI B)]) (st2 := [.int (nI B), .int (nI B)]) O (ct_AL_size hl (lm_5002 (σ := σ) (B := B) hB (by omega))) ce_Jx4a65c_size_8abf5 ml_X14_57 iv_Jx4a65c_size_8abf5 cl_Jx4a65c rfl (lm_5002 (σ := σ) (B := B) hB (by omega)) (xx_dt dd_X14_signals 7 rfl) (by decide) rfl rfl (Nat.le_of_ble_eq_true rfl) rfl ?_
    refine sw_icmp_ge (tgt := 64) O (xx_dt dd_X14_signals 8 rfl) (by decide) (fun q1 => ?_) (fun q1 => ?_)
    · refine sw_iload_n O (xx_dt dd_X14_signals 34 rfl) rfl ?_
      exact sw_iret O (xx_dt dd_X14_signals 35 rfl) rfl rfl (by rw [hQ]; exact ⟨by unfold f_Msignals; rfl, rfl⟩)
    · exact absurd (Int32.le_refl _) q1
def f_MareDisturbing (σ : XS9) (i j : Nat) (rg : Nat → Nat) : Int32 := (if (nI (rg i)) = (nI (rg j)) then 1 else (if (((σ (5010 + rg i) 3) >>> ((nI (rg j)) &&& 31)) &&& 1) = 1 then 1 else 0))
theorem ct_X14_areDisturbing {l : Launch} {h : XH} (hl : l.stackTraces = false) {z : Int64} {σ : XS9} (hbs : xx_bs h) {R : Nat} (hR : σ 5001 900 = nI R) (hR5 : R ≤ 5) {C : Nat} (hS : σ 5004 900 = nI (2 * C)) (hC10 : C ≤ 10) {rg : Nat → Nat} (hrg : ∀ q, q < C → σ 5004 (2 * q) = nI (rg q) ∧ rg q < R) {i j : Nat} (hi : i < C) (hj : j < C)  : XEx l m_X14_areDisturbing 3 0 0 [.ref 5000, .int (nI i), .int (nI j)] (setM z σ h) (some (.int (f_MareDisturbing σ i j rg))) (setM z σ h) := by
  refine XMet.of hl rfl rfl (Nat.le_of_ble_eq_true rfl) (fun Y O hh hQ => ?_)
  show SW Y 0 0 (setM z σ h) 0 [.ref 5000, .int (nI i), .int (nI j), xx_d, xx_d] []
  refine sw_aload_n O (xx_dt dd_X14_areDisturbing 0 rfl) rfl ?_
  refine sw_get (v := .ref 5004) O (xx_dt dd_X14_areDisturbing 1 rfl) cl_X14 fl_X14_33 (lm_mod (σ := σ)) (by decide) rfl ?_
  refine sw_iconst (x := 2) O (xx_dt dd_X14_areDisturbing 2 rfl) (by decide) ?_
  refine sw_iload_n O (xx_dt dd_X14_areDisturbing 3 rfl) rfl ?_
  refine sw_imul O (xx_dt dd_X14_areDisturbing 4 rfl) ?_
  have hx6 := trivial
  rw [nI_dbl]
  refine sw_callVL (ci := 6) (as := [.int (nI (2 * i))]) (st := []) (st2 := [.ref (xx_box (σ 5004 (2 * i)) (nmS σ (2 * i)))]) O (ct_get hl hbs (lm_5004 (σ := σ) (S := 2 * C) hS (by omega)) (by omega) (i := 2 * i) (x := xx_box (σ 5004 (2 * i)) (nmS σ (2 * i))) (by omega) (by omega) rfl) ce_Jx4a65c_get_915e3 ml_X14_61 iv_Jx4a65c_get_915e3 cl_Jx4a65c rfl (lm_5004 (σ := σ) (S := 2 * C) hS (by omega)) (xx_dt dd_X14_areDisturbing 5 rfl) (by decide) rfl rfl (Nat.le_of_ble_eq_true rfl) rfl ?_
  refine sw_castO O (xx_dt dd_X14_areDisturbing 6 rfl) cl_J6 (lm_sbox (σ := σ) hbs (S := 2 * C) hS (by omega) (k := 2 * i) (by omega)) cw_X14_113 ?_
  have hz13 := (hrg i (by omega)).2
  refine sw_callVx (as := []) (st := []) (st2 := [.int (nI (rg i))]) O (ct_intValue hl (lm_sbox (σ := σ) hbs (S := 2 * C) hS (by omega) (k := 2 * i) (by omega)) (congrArg Value.int (hrg i (by omega)).1)) ce_J6_intValue_8abf5 ml_X14_265 iv_J6_intValue_8abf5 cl_J6 rfl (lm_sbox (σ := σ) hbs (S := 2 * C) hS (by omega) (k := 2 * i) (by omega)) (xx_dt dd_X14_areDisturbing 7 rfl) (by decide) rfl rfl (Nat.le_of_ble_eq_true rfl) rfl ?_
  refine sw_istore_n (ls2 := [.ref 5000, .int (nI i), .int (nI j), .int (nI (rg i)), xx_d]) O (xx_dt dd_X14_areDisturbing 8 rfl) (by decide) rfl ?_
  refine sw_aload_n O (xx_dt dd_X14_areDisturbing 9 rfl) rfl ?_
  refine sw_get (v := .ref 5004) O (xx_dt dd_X14_areDisturbing 10 rfl) cl_X14 fl_X14_33 (lm_mod (σ := σ)) (by decide) rfl ?_
  refine sw_iconst (x := 2) O (xx_dt dd_X14_areDisturbing 11 rfl) (by decide) ?_
  refine sw_iload_n O (xx_dt dd_X14_areDisturbing 12 rfl) rfl ?_
  refine sw_imul O (xx_dt dd_X14_areDisturbing 13 rfl) ?_
  have hx23 := trivial
  rw [nI_dbl]
  refine sw_callVL (ci := 6) (as := [.int (nI (2 * j))]) (st := []) (st2 := [.ref (xx_box (σ 5004 (2 * j)) (nmS σ (2 * j)))]) O (ct_get hl hbs (lm_5004 (σ := σ) (S := 2 * C) hS (by omega)) (by omega) (i := 2 * j) (x := xx_box (σ 5004 (2 * j)) (nmS σ (2 * j))) (by omega) (by omega) rfl) ce_Jx4a65c_get_915e3 ml_X14_61 iv_Jx4a65c_get_915e3 cl_Jx4a65c rfl (lm_5004 (σ := σ) (S := 2 * C) hS (by omega)) (xx_dt dd_X14_areDisturbing 14 rfl) (by decide) rfl rfl (Nat.le_of_ble_eq_true rfl) rfl ?_
  refine sw_castO O (xx_dt dd_X14_areDisturbing 15 rfl) cl_J6 (lm_sbox (σ := σ) hbs (S := 2 * C) hS (by omega) (k := 2 * j) (by omega)) cw_X14_113 ?_
  have hz30 := (hrg j (by omega)).2
  refine sw_callVx (as := []) (st := []) (st2 := [.int (nI (rg j))]) O (ct_intValue hl (lm_sbox (σ := σ) hbs (S := 2 * C) hS (by omega) (k := 2 * j) (by omega)) (congrArg Value.int (hrg j (by omega)).1)) ce_J6_intValue_8abf5 ml_X14_265 iv_J6_intValue_8abf5 cl_J6 rfl (lm_sbox (σ := σ) hbs (S := 2 * C) hS (by omega) (k := 2 * j) (by omega)) (xx_dt dd_X14_areDisturbing 16 rfl) (by decide) rfl rfl (Nat.le_of_ble_eq_true rfl) rfl ?_
  refine sw_istore (ls2 := [.ref 5000, .int (nI i), .int (nI j), .int (nI (rg i)), .int (nI (rg j))]) O (xx_dt dd_X14_areDisturbing 17 rfl) (by decide) rfl ?_
  refine sw_iload_n O (xx_dt dd_X14_areDisturbing 18 rfl) rfl ?_
  refine sw_iload O (xx_dt dd_X14_areDisturbing 19 rfl) rfl ?_
  refine sw_icmp_eq (tgt := 64) O (xx_dt dd_X14_areDisturbing 20 rfl) (by decide) (fun q1 => ?_) (fun q1 => ?_)
  · refine sw_iconst (x := 1) O (xx_dt dd_X14_areDisturbing 33 rfl) (by decide) ?_
    refine sw_goto (tgt := 69) O (xx_dt dd_X14_areDisturbing 34 rfl) (by decide) ?_
    exact sw_iret O (xx_dt dd_X14_areDisturbing 36 rfl) rfl rfl (by rw [hQ]; exact ⟨by unfold f_MareDisturbing; simp only [if_pos q1], rfl⟩)
  · refine sw_aload_n O (xx_dt dd_X14_areDisturbing 21 rfl) rfl ?_
    refine sw_get (v := .ref 5001) O (xx_dt dd_X14_areDisturbing 22 rfl) cl_X14 fl_X14_23 (lm_mod (σ := σ)) (by decide) rfl ?_
    refine sw_iload_n O (xx_dt dd_X14_areDisturbing 23 rfl) rfl ?_
    refine sw_callVL (ci := 6) (as := [.int (nI (rg i))]) (st := []) (st2 := [.ref (5010 + rg i)]) O (ct_get hl hbs (lm_5001 (σ := σ) (R := R) hR (by omega)) (by omega) (i := rg i) (x := 5010 + rg i) (by omega) (by omega) rfl) ce_Jx4a65c_get_915e3 ml_X14_61 iv_Jx4a65c_get_915e3 cl_Jx4a65c rfl (lm_5001 (σ := σ) (R := R) hR (by omega)) (xx_dt dd_X14_areDisturbing 24 rfl) (by decide) rfl rfl (Nat.le_of_ble_eq_true rfl) rfl ?_
    refine sw_castO O (xx_dt dd_X14_areDisturbing 25 rfl) cl_X12 (lm_reg (σ := σ) (R := R) hR (by omega) (j := rg i) (by omega)) cw_X14_65 ?_
    refine sw_get (v := .int (σ (5010 + rg i) 3)) O (xx_dt dd_X14_areDisturbing 26 rfl) cl_X12 fl_X14_95 (lm_reg (σ := σ) (R := R) hR (by omega) (j := rg i) (by omega)) (by decide) rfl ?_
    refine sw_iload O (xx_dt dd_X14_areDisturbing 27 rfl) rfl ?_
    refine sw_ishr O (xx_dt dd_X14_areDisturbing 28 rfl) ?_
    refine sw_iconst (x := 1) O (xx_dt dd_X14_areDisturbing 29 rfl) (by decide) ?_
    refine sw_iand O (xx_dt dd_X14_areDisturbing 30 rfl) ?_
    refine sw_iconst (x := 1) O (xx_dt dd_X14_areDisturbing 31 rfl) (by decide) ?_
    refine sw_icmp_ne (tgt := 68) O (xx_dt dd_X14_areDisturbing 32 rfl) (by decide) (fun q2 => ?_) (fun q2 => ?_)
    · refine sw_iconst (x := 0) O (xx_dt dd_X14_areDisturbing 35 rfl) (by decide) ?_
      exact sw_iret O (xx_dt dd_X14_areDisturbing 36 rfl) rfl rfl (by rw [hQ]; exact ⟨by unfold f_MareDisturbing; simp only [if_neg q1, if_neg q2], rfl⟩)
    · refine sw_iconst (x := 1) O (xx_dt dd_X14_areDisturbing 33 rfl) (by decide) ?_
      refine sw_goto (tgt := 69) O (xx_dt dd_X14_areDisturbing 34 rfl) (by decide) ?_
      exact sw_iret O (xx_dt dd_X14_areDisturbing 36 rfl) rfl rfl (by rw [hQ]; exact ⟨by unfold f_MareDisturbing; simp only [if_neg q1, if_pos q2], rfl⟩)
def x_MisFree_2 (σ : XS9) (x : Int32) (j : Nat) (rg : Nat → Nat) (s0 : Unit) : Unit ⊕ Int32 := xitR (fun i2 s2 => (if ((x >>> ((nI i2) &&& 31)) &&& 1) = 1 then (if (f_MareDisturbing σ i2 j rg) = 0 then .inl () else .inr 0) else .inl ())) j 0 s0
def f_MisFree (σ : XS9) (x : Int32) (j : Nat) (rg : Nat → Nat) : Int32 := (match (x_MisFree_2 σ x j rg ()) with | .inl s2 => 1 | .inr r2 => r2)
theorem ct_X14_isFree {l : Launch} {h : XH} (hl : l.stackTraces = false) {z : Int64} {σ : XS9} (hbs : xx_bs h) {R : Nat} (hR : σ 5001 900 = nI R) (hR5 : R ≤ 5) {C : Nat} (hS : σ 5004 900 = nI (2 * C)) (hC10 : C ≤ 10) {rg : Nat → Nat} (hrg : ∀ q, q < C → σ 5004 (2 * q) = nI (rg q) ∧ rg q < R) {x : Int32} {j : Nat} (hj : j < C)  : XEx l m_X14_isFree 4 0 0 [.ref 5000, .int x, .int (nI j)] (setM z σ h) (some (.int (f_MisFree σ x j rg))) (setM z σ h) := by
  refine XMet.of hl rfl rfl (Nat.le_of_ble_eq_true rfl) (fun Y O hh hQ => ?_)
  show SW Y 0 0 (setM z σ h) 0 [.ref 5000, .int x, .int (nI j), xx_d] []
  refine sw_iconst (x := 0) O (xx_dt dd_X14_isFree 0 rfl) (by decide) ?_
  refine sw_istore_n (ls2 := [.ref 5000, .int x, .int (nI j), .int 0]) O (xx_dt dd_X14_isFree 1 rfl) (by decide) rfl ?_
  refine sw_forR (S := Unit) (R := Int32) (fun i2 s2 => (if ((x >>> ((nI i2) &&& 31)) &&& 1) = 1 then (if (f_MareDisturbing σ i2 j rg) = 0 then .inl () else .inr 0) else .inl ())) (fun _ _ => True) (FR := fun r9 => f_MisFree σ x j rg = r9) (hp := fun _ => setM z σ h) (hd := 2) (lc := fun i2 s2 => [.ref 5000, .int x, .int (nI j), .int (nI i2)]) (N := j) (fun i2 s2 hi2 hP2 => ⟨fun _ _ => trivial, fun kk2 kr2 => ?_⟩) j 0 () (by omega) (trivial) (fun sN2 eN2 hP2 => ?_) (fun r2 eN2 => ?_)
  · refine sw_iload_n O (xx_dt dd_X14_isFree 2 rfl) rfl ?_
    refine sw_iload_n O (xx_dt dd_X14_isFree 3 rfl) rfl ?_
    refine sw_icmp_ge (tgt := 33) O (xx_dt dd_X14_isFree 4 rfl) (by decide) (fun q1 => ?_) (fun q1 => ?_)
    · exact absurd q1 (nI_ge (b := j) hi2 (by omega))
    · refine sw_iload_n O (xx_dt dd_X14_isFree 5 rfl) rfl ?_
      refine sw_iload_n O (xx_dt dd_X14_isFree 6 rfl) rfl ?_
      refine sw_ishr O (xx_dt dd_X14_isFree 7 rfl) ?_
      refine sw_iconst (x := 1) O (xx_dt dd_X14_isFree 8 rfl) (by decide) ?_
      refine sw_iand O (xx_dt dd_X14_isFree 9 rfl) ?_
      refine sw_iconst (x := 1) O (xx_dt dd_X14_isFree 10 rfl) (by decide) ?_
      refine sw_icmp_ne (tgt := 27) O (xx_dt dd_X14_isFree 11 rfl) (by decide) (fun q2 => ?_) (fun q2 => ?_)
      · refine sw_iinc (y := nI (i2 + 1)) (ls2 := [.ref 5000, .int x, .int (nI j), .int (nI (i2 + 1))]) O (xx_dt dd_X14_isFree 19 rfl) rfl (nI_1 _) (by decide) rfl ?_
        refine sw_goto (tgt := 2) O (xx_dt dd_X14_isFree 20 rfl) (by decide) ?_
        exact kk2 () (by simp only [if_neg q2])
      · refine sw_aload_n O (xx_dt dd_X14_isFree 12 rfl) rfl ?_
        refine sw_iload_n O (xx_dt dd_X14_isFree 13 rfl) rfl ?_
        refine sw_iload_n O (xx_dt dd_X14_isFree 14 rfl) rfl ?_
        refine sw_callVx (as := [.int (nI i2), .int (nI j)]) (st := []) (st2 := [.int (f_MareDisturbing σ i2 j rg)]) O (ct_X14_areDisturbing hl (z := z) (σ := σ) hbs (R := R) hR (by omega) (C := C) hS (by omega) (rg := rg) hrg (i := i2) (j := j) (by omega) (by omega)) ce_X14_areDisturbing ml_X14_276 iv_X14_areDisturbing cl_X14 rfl (lm_mod (σ := σ)) (xx_dt dd_X14_isFree 15 rfl) (by decide) rfl rfl (Nat.le_of_ble_eq_true rfl) rfl ?_
        refine sw_if_eq (tgt := 27) O (xx_dt dd_X14_isFree 16 rfl) (by decide) (fun q3 => ?_) (fun q3 => ?_)
        · refine sw_iinc (y := nI (i2 + 1)) (ls2 := [.ref 5000, .int x, .int (nI j), .int (nI (i2 + 1))]) O (xx_dt dd_X14_isFree 19 rfl) rfl (nI_1 _) (by decide) rfl ?_
          refine sw_goto (tgt := 2) O (xx_dt dd_X14_isFree 20 rfl) (by decide) ?_
          exact kk2 () (by simp only [if_pos q2, if_pos q3])
        · refine sw_iconst (x := 0) O (xx_dt dd_X14_isFree 17 rfl) (by decide) ?_
          exact sw_iret O (xx_dt dd_X14_isFree 18 rfl) rfl rfl (by rw [hQ, kr2 0 (by simp only [if_pos q2, if_neg q3])]; exact ⟨rfl, rfl⟩)
  · show SW Y _ _ (setM z σ h) 2 [.ref 5000, .int x, .int (nI j), .int (nI j)] []
    refine sw_iload_n O (xx_dt dd_X14_isFree 2 rfl) rfl ?_
    refine sw_iload_n O (xx_dt dd_X14_isFree 3 rfl) rfl ?_
    refine sw_icmp_ge (tgt := 33) O (xx_dt dd_X14_isFree 4 rfl) (by decide) (fun q1 => ?_) (fun q1 => ?_)
    · refine sw_iconst (x := 1) O (xx_dt dd_X14_isFree 21 rfl) (by decide) ?_
      exact sw_iret O (xx_dt dd_X14_isFree 22 rfl) rfl rfl (by rw [hQ]; exact ⟨by unfold f_MisFree; simp only [x_MisFree_2, eN2], rfl⟩)
    · exact absurd (Int32.le_refl _) q1
  · unfold f_MisFree; simp only [x_MisFree_2, eN2]
end
section
/-! ===== the reference packs stations ===== -/
theorem u2_s {σ : XS9} {r i j : Nat} {x : Int32} (h : j ≠ i) : u2 σ r i x r j = σ r j := u2_oi h
def x_MpkStep_3 (x : Int32) (fr C : Nat) (s0 : Nat) : Nat := xitB (fun i3 s3 => (if (nI C) ≤ (nI s3) then .inr s3 else (if ((x >>> ((nI s3) &&& 31)) &&& 1) = 0 then .inl (s3 + 1) else .inr s3))) (C - fr) 0 s0
def x_MpkStep_51 (σ : XS9) (f_rec : XS9 → Nat → Int32) (g_rec : XS9 → Nat → XS9) (x : Int32) (fr C : Nat) (rg : Nat → Nat) (qa ch : Nat) (s0 : XS9) : XS9 ⊕ (XS9 × Int32) := xitR (fun i51 s51 => (if (f_MisFree s51 (s51 qa i51) (x_MpkStep_3 x fr C fr) rg) = 0 then .inl s51 else (if (f_rec (u2 s51 qa i51 ((s51 qa i51) ||| (1 <<< ((nI ((x_MpkStep_3 x fr C fr))) &&& 31)))) ((x_MpkStep_3 x fr C fr) + 1)) = 0 then (if (((g_rec (u2 s51 qa i51 ((s51 qa i51) ||| (1 <<< ((nI ((x_MpkStep_3 x fr C fr))) &&& 31)))) ((x_MpkStep_3 x fr C fr) + 1)) qa i51) &&& ((1 <<< ((nI ((x_MpkStep_3 x fr C fr))) &&& 31)) ^^^ (-1))) = 0 then .inr (u2 (g_rec (u2 s51 qa i51 ((s51 qa i51) ||| (1 <<< ((nI ((x_MpkStep_3 x fr C fr))) &&& 31)))) ((x_MpkStep_3 x fr C fr) + 1)) qa i51 (((g_rec (u2 s51 qa i51 ((s51 qa i51) ||| (1 <<< ((nI ((x_MpkStep_3 x fr C fr))) &&& 31)))) ((x_MpkStep_3 x fr C fr) + 1)) qa i51) &&& ((1 <<< ((nI ((x_MpkStep_3 x fr C fr))) &&& 31)) ^^^ (-1))), 0) else .inl (u2 (g_rec (u2 s51 qa i51 ((s51 qa i51) ||| (1 <<< ((nI ((x_MpkStep_3 x fr C fr))) &&& 31)))) ((x_MpkStep_3 x fr C fr) + 1)) qa i51 (((g_rec (u2 s51 qa i51 ((s51 qa i51) ||| (1 <<< ((nI ((x_MpkStep_3 x fr C fr))) &&& 31)))) ((x_MpkStep_3 x fr C fr) + 1)) qa i51) &&& ((1 <<< ((nI ((x_MpkStep_3 x fr C fr))) &&& 31)) ^^^ (-1))))) else .inr (u2 (g_rec (u2 s51 qa i51 ((s51 qa i51) ||| (1 <<< ((nI ((x_MpkStep_3 x fr C fr))) &&& 31)))) ((x_MpkStep_3 x fr C fr) + 1)) qa i51 (((g_rec (u2 s51 qa i51 ((s51 qa i51) ||| (1 <<< ((nI ((x_MpkStep_3 x fr C fr))) &&& 31)))) ((x_MpkStep_3 x fr C fr) + 1)) qa i51) &&& ((1 <<< ((nI ((x_MpkStep_3 x fr C fr))) &&& 31)) ^^^ (-1))), 1)))) ch 0 s0
def f_MpkStep (σ : XS9) (f_rec : XS9 → Nat → Int32) (g_rec : XS9 → Nat → XS9) (x : Int32) (fr C : Nat) (rg : Nat → Nat) (qa ch : Nat) : Int32 := (if (nI ((x_MpkStep_3 x fr C fr))) = (nI C) then 1 else (match (x_MpkStep_51 σ f_rec g_rec x fr C rg qa ch σ) with | .inl s51 => 0 | .inr r51 => r51.2))
def g_MpkStep (σ : XS9) (f_rec : XS9 → Nat → Int32) (g_rec : XS9 → Nat → XS9) (x : Int32) (fr C : Nat) (rg : Nat → Nat) (qa ch : Nat) : XS9 := (if (nI ((x_MpkStep_3 x fr C fr))) = (nI C) then σ else (match (x_MpkStep_51 σ f_rec g_rec x fr C rg qa ch σ) with | .inl s51 => s51 | .inr r51 => r51.1))
theorem ct_MpkStep {l : Launch} {h : XH} (hl : l.stackTraces = false) {z : Int64} {σ : XS9} (hbs : xx_bs h) {R : Nat} (hR : σ 5001 900 = nI R) (hR5 : R ≤ 5) {C : Nat} (hS : σ 5004 900 = nI (2 * C)) (hC10 : C ≤ 10) {rg : Nat → Nat} (hrg : ∀ q, q < C → σ 5004 (2 * q) = nI (rg q) ∧ rg q < R) {qa ch : Nat} (hqa : 20000 ≤ qa ∧ qa < 20010) (hqf : σ qa 20 = nI 1) (hqn : σ qa 21 = nI ch) (hch : ch ≤ 6) {f_rec : XS9 → Nat → Int32} {g_rec : XS9 → Nat → XS9} (fr_rec : ∀ {σ : XS9} {fr q : Nat}, q ≠ qa → g_rec σ fr q = σ q) (fr_rec20 : ∀ {σ : XS9} {fr : Nat}, (g_rec σ fr qa 20 = σ qa 20) ∧ g_rec σ fr qa 21 = σ qa 21) {x : Int32} {fr : Nat} (hfr2 : fr ≤ C) {d0 : Nat} (hd0 : 6 ≤ d0) (ih : ∀ (σ : XS9) (fr1 : Nat), fr < fr1 → fr1 ≤ C → σ qa 20 = nI 1 → σ qa 21 = nI ch → σ 5001 900 = nI R → σ 5004 900 = nI (2 * C) → (∀ q, q < C → σ 5004 (2 * q) = nI (rg q) ∧ rg q < R) → XEx l m_X14_canPack d0 0 0 [.ref 5000, .int x, .int (nI fr1), .ref qa] (setM z σ h) (some (.int (f_rec σ fr1))) (setM z (g_rec σ fr1) h))  : XEx l m_X14_canPack (d0 + 1) 0 0 [.ref 5000, .int x, .int (nI fr), .ref qa] (setM z σ h) (some (.int (f_MpkStep σ f_rec g_rec x fr C rg qa ch))) (setM z (g_MpkStep σ f_rec g_rec x fr C rg qa ch) h) := by
  refine XMet.of hl rfl rfl (Nat.le_of_ble_eq_true rfl) (fun Y O hh hQ => ?_)
  show SW Y 0 0 (setM z σ h) 0 [.ref 5000, .int x, .int (nI fr), .ref qa, xx_d, xx_d, xx_d] []
  refine sw_iload_n O (xx_dt dd_X14_canPack 0 rfl) rfl ?_
  refine sw_istore (ls2 := [.ref 5000, .int x, .int (nI fr), .ref qa, .int (nI fr), xx_d, xx_d]) O (xx_dt dd_X14_canPack 1 rfl) (by decide) rfl ?_
  refine sw_forB (S := Nat) (fun i3 s3 => (if (nI C) ≤ (nI s3) then .inr s3 else (if ((x >>> ((nI s3) &&& 31)) &&& 1) = 0 then .inl (s3 + 1) else .inr s3))) (fun i s => s = fr + i) (fun (s : Nat) => fr ≤ s ∧ s ≤ C) (hp := fun _ => setM z σ h) (hd := 3) (lc := fun i3 s3 => [.ref 5000, .int x, .int (nI fr), .ref qa, .int (nI s3), xx_d, xx_d]) (ex := 32) (lx := fun s3 => [.ref 5000, .int x, .int (nI fr), .ref qa, .int (nI s3), xx_d, xx_d]) (N := (C - fr)) (fun i3 s3 hi3 hP3 => ⟨⟨(by intro s' e'; revert e'; (try dsimp only); (repeat' split) <;> intro e' <;> first | (cases e'; done) | (have e9 := Sum.inl.inj e'; subst e9; have h9 : s3 = fr + i3 := hP3; show s3 + 1 = fr + (i3 + 1); omega)), (by intro s' e'; revert e'; (try dsimp only); (repeat' split) <;> intro e' <;> first | (cases e'; done) | (have e9 := Sum.inr.inj e'; subst e9; have h9 : s3 = fr + i3 := hP3; exact ⟨by omega, by omega⟩))⟩, fun kk3 kb3 => ?_⟩) (fun s3 hP3 => ⟨(show fr ≤ s3 ∧ s3 ≤ C from by have h9 : s3 = fr + (C - fr) := hP3; omega), fun kx3 => ?_⟩) (C - fr) 0 fr (by omega) (rfl) (fun hP3 => ?_)
  · refine sw_iload O (xx_dt dd_X14_canPack 2 rfl) rfl ?_
    refine sw_aload_n O (xx_dt dd_X14_canPack 3 rfl) rfl ?_
    refine sw_get (v := .ref 5004) O (xx_dt dd_X14_canPack 4 rfl) cl_X14 fl_X14_33 (lm_mod (σ := σ)) (by decide) rfl ?_
    refine sw_callVL (ci := 6) (as := []) (st := [.int (nI s3)]) (st2 := [.int (nI (2 * C)), .int (nI s3)]) O (ct_AL_size hl (lm_5004 (σ := σ) (S := 2 * C) hS (by omega))) ce_Jx4a65c_size_8abf5 ml_X14_57 iv_Jx4a65c_size_8abf5 cl_Jx4a65c rfl (lm_5004 (σ := σ) (S := 2 * C) hS (by omega)) (xx_dt dd_X14_canPack 5 rfl) (by omega) rfl rfl (Nat.le_of_ble_eq_true rfl) rfl ?_
    refine sw_iconst (x := 2) O (xx_dt dd_X14_canPack 6 rfl) (by decide) ?_
    refine sw_idiv O (xx_dt dd_X14_canPack 7 rfl) (by first | decide | assumption) ?_
    have hx13 := trivial
    rw [nI_half (by omega)]
    have h9 : s3 = fr + i3 := hP3
    refine sw_icmp_ge (tgt := 32) O (xx_dt dd_X14_canPack 8 rfl) (by decide) (fun q2 => ?_) (fun q2 => ?_)
    · have hfq2 : C ≤ s3 := (nI_leI (a := C) (b := s3) (by omega) (by omega)).mp q2
      exact kb3 s3 (by simp only [if_pos q2])
    · have hfq2 : ¬ C ≤ s3 := fun e => q2 ((nI_leI (a := C) (b := s3) (by omega) (by omega)).mpr e)
      refine sw_iload_n O (xx_dt dd_X14_canPack 9 rfl) rfl ?_
      refine sw_iload O (xx_dt dd_X14_canPack 10 rfl) rfl ?_
      refine sw_ishr O (xx_dt dd_X14_canPack 11 rfl) ?_
      refine sw_iconst (x := 1) O (xx_dt dd_X14_canPack 12 rfl) (by decide) ?_
      refine sw_iand O (xx_dt dd_X14_canPack 13 rfl) ?_
      refine sw_if_ne (tgt := 32) O (xx_dt dd_X14_canPack 14 rfl) (by decide) (fun q3 => ?_) (fun q3 => ?_)
      · exact kb3 s3 (by simp only [if_neg q2, if_neg q3])
      · refine sw_iinc (y := nI (s3 + 1)) (ls2 := [.ref 5000, .int x, .int (nI fr), .ref qa, .int (nI (s3 + 1)), xx_d, xx_d]) O (xx_dt dd_X14_canPack 15 rfl) rfl (nI_1 _) (by decide) rfl ?_
        refine sw_goto (tgt := 3) O (xx_dt dd_X14_canPack 16 rfl) (by decide) ?_
        exact kk3 (s3 + 1) (by simp only [if_neg q2, if_pos q3])
  · show SW Y _ _ (setM z σ h) 3 [.ref 5000, .int x, .int (nI fr), .ref qa, .int (nI s3), xx_d, xx_d] []
    have hZ3 := hP3
    refine sw_iload O (xx_dt dd_X14_canPack 2 rfl) rfl ?_
    refine sw_aload_n O (xx_dt dd_X14_canPack 3 rfl) rfl ?_
    refine sw_get (v := .ref 5004) O (xx_dt dd_X14_canPack 4 rfl) cl_X14 fl_X14_33 (lm_mod (σ := σ)) (by decide) rfl ?_
    refine sw_callVL (ci := 6) (as := []) (st := [.int (nI s3)]) (st2 := [.int (nI (2 * C)), .int (nI s3)]) O (ct_AL_size hl (lm_5004 (σ := σ) (S := 2 * C) hS (by omega))) ce_Jx4a65c_size_8abf5 ml_X14_57 iv_Jx4a65c_size_8abf5 cl_Jx4a65c rfl (lm_5004 (σ := σ) (S := 2 * C) hS (by omega)) (xx_dt dd_X14_canPack 5 rfl) (by omega) rfl rfl (Nat.le_of_ble_eq_true rfl) rfl ?_
    refine sw_iconst (x := 2) O (xx_dt dd_X14_canPack 6 rfl) (by decide) ?_
    refine sw_idiv O (xx_dt dd_X14_canPack 7 rfl) (by first | decide | assumption) ?_
    have hx13 := trivial
    rw [nI_half (by omega)]
    refine sw_icmp_ge (tgt := 32) O (xx_dt dd_X14_canPack 8 rfl) (by decide) (fun q1 => ?_) (fun q1 => ?_)
    · exact kx3
    · exact absurd ((nI_leI (a := C) (b := s3) (by omega) (by have h9 : s3 = fr + (C - fr) := hP3; omega)).mpr (by have h9 : s3 = fr + (C - fr) := hP3; omega)) q1
  · show SW Y _ _ (setM z σ h) 32 [.ref 5000, .int x, .int (nI fr), .ref qa, .int (nI ((x_MpkStep_3 x fr C fr))), xx_d, xx_d] []
    refine sw_iload O (xx_dt dd_X14_canPack 17 rfl) rfl ?_
    refine sw_aload_n O (xx_dt dd_X14_canPack 18 rfl) rfl ?_
    refine sw_get (v := .ref 5004) O (xx_dt dd_X14_canPack 19 rfl) cl_X14 fl_X14_33 (lm_mod (σ := σ)) (by decide) rfl ?_
    refine sw_callVL (ci := 6) (as := []) (st := [.int (nI ((x_MpkStep_3 x fr C fr)))]) (st2 := [.int (nI (2 * C)), .int (nI ((x_MpkStep_3 x fr C fr)))]) O (ct_AL_size hl (lm_5004 (σ := σ) (S := 2 * C) hS (by omega))) ce_Jx4a65c_size_8abf5 ml_X14_57 iv_Jx4a65c_size_8abf5 cl_Jx4a65c rfl (lm_5004 (σ := σ) (S := 2 * C) hS (by omega)) (xx_dt dd_X14_canPack 20 rfl) (by omega) rfl rfl (Nat.le_of_ble_eq_true rfl) rfl ?_
    refine sw_iconst (x := 2) O (xx_dt dd_X14_canPack 21 rfl) (by decide) ?_
    refine sw_idiv O (xx_dt dd_X14_canPack 22 rfl) (by first | decide | assumption) ?_
    have hx42 := trivial
    rw [nI_half (by omega)]
    refine sw_icmp_ne (tgt := 48) O (xx_dt dd_X14_canPack 23 rfl) (by decide) (fun q4 => ?_) (fun q4 => ?_)
    · have hs9 : (x_MpkStep_3 x fr C fr) < C := by
        have h8 : (x_MpkStep_3 x fr C fr) ≤ C := hP3.2
        rcases Nat.lt_or_ge (x_MpkStep_3 x fr C fr) C with h7 | h7
        · exact h7
        · exact absurd (congrArg nI (Nat.le_antisymm h8 h7)) q4
      have hs8 : fr ≤ (x_MpkStep_3 x fr C fr) := hP3.1
      refine sw_iconst (x := 0) O (xx_dt dd_X14_canPack 26 rfl) (by decide) ?_
      refine sw_istore (ls2 := [.ref 5000, .int x, .int (nI fr), .ref qa, .int (nI ((x_MpkStep_3 x fr C fr))), .int 0, xx_d]) O (xx_dt dd_X14_canPack 27 rfl) (by decide) rfl ?_
      refine sw_forR (S := XS9) (R := (XS9 × Int32)) (fun i51 s51 => (if (f_MisFree s51 (s51 qa i51) (x_MpkStep_3 x fr C fr) rg) = 0 then .inl s51 else (if (f_rec (u2 s51 qa i51 ((s51 qa i51) ||| (1 <<< ((nI ((x_MpkStep_3 x fr C fr))) &&& 31)))) ((x_MpkStep_3 x fr C fr) + 1)) = 0 then (if (((g_rec (u2 s51 qa i51 ((s51 qa i51) ||| (1 <<< ((nI ((x_MpkStep_3 x fr C fr))) &&& 31)))) ((x_MpkStep_3 x fr C fr) + 1)) qa i51) &&& ((1 <<< ((nI ((x_MpkStep_3 x fr C fr))) &&& 31)) ^^^ (-1))) = 0 then .inr (u2 (g_rec (u2 s51 qa i51 ((s51 qa i51) ||| (1 <<< ((nI ((x_MpkStep_3 x fr C fr))) &&& 31)))) ((x_MpkStep_3 x fr C fr) + 1)) qa i51 (((g_rec (u2 s51 qa i51 ((s51 qa i51) ||| (1 <<< ((nI ((x_MpkStep_3 x fr C fr))) &&& 31)))) ((x_MpkStep_3 x fr C fr) + 1)) qa i51) &&& ((1 <<< ((nI ((x_MpkStep_3 x fr C fr))) &&& 31)) ^^^ (-1))), 0) else .inl (u2 (g_rec (u2 s51 qa i51 ((s51 qa i51) ||| (1 <<< ((nI ((x_MpkStep_3 x fr C fr))) &&& 31)))) ((x_MpkStep_3 x fr C fr) + 1)) qa i51 (((g_rec (u2 s51 qa i51 ((s51 qa i51) ||| (1 <<< ((nI ((x_MpkStep_3 x fr C fr))) &&& 31)))) ((x_MpkStep_3 x fr C fr) + 1)) qa i51) &&& ((1 <<< ((nI ((x_MpkStep_3 x fr C fr))) &&& 31)) ^^^ (-1))))) else .inr (u2 (g_rec (u2 s51 qa i51 ((s51 qa i51) ||| (1 <<< ((nI ((x_MpkStep_3 x fr C fr))) &&& 31)))) ((x_MpkStep_3 x fr C fr) + 1)) qa i51 (((g_rec (u2 s51 qa i51 ((s51 qa i51) ||| (1 <<< ((nI ((x_MpkStep_3 x fr C fr))) &&& 31)))) ((x_MpkStep_3 x fr C fr) + 1)) qa i51) &&& ((1 <<< ((nI ((x_MpkStep_3 x fr C fr))) &&& 31)) ^^^ (-1))), 1)))) (fun _ s51 => s51 qa 20 = nI 1 ∧ s51 qa 21 = nI ch ∧ (∀ q, q ≠ qa → s51 q = σ q)) (FR := fun r9 => f_MpkStep σ f_rec g_rec x fr C rg qa ch = r9.2 ∧ g_MpkStep σ f_rec g_rec x fr C rg qa ch = r9.1) (hp := fun s51 => setM z s51 h) (hd := 51) (lc := fun i51 s51 => [.ref 5000, .int x, .int (nI fr), .ref qa, .int (nI ((x_MpkStep_3 x fr C fr))), .int (nI i51), xx_d]) (N := ch) (fun i51 s51 hi51 hP51 => ⟨(by intro s' e'; revert e'; (try dsimp only); (repeat' split) <;> intro e' <;> first | (cases e'; done) | (have e9 := Sum.inl.inj e'; subst e9; (refine ⟨?_, ?_, ?_⟩ <;> (first | exact hP51.1 | exact hP51.2.1 | exact hP51.2.2 | exact (by rw [u2_oi (by omega)]; first | exact hP51.1 | exact hP51.2.1) | exact (by first | (simp (disch := omega) only [fr_rec20.1, fr_rec20.2, u2_s]; first | exact hP51.1 | exact hP51.2.1)) | exact (fun q9 hq9 => by (simp (disch := omega) only [u2_ne, uR_ne, fr_fill, fr_Ctake, fr_rec]); exact hP51.2.2 q9 hq9) | exact hi51 | exact .inl rfl | exact .inr rfl | (simp (disch := omega) only [u2_ne, uR_ne, fr_fill, fr_Ctake, fr_rec]; first | exact hP51.1 | exact hP51.2.1 | exact hP51.2.2 | exact (by rw [u2_oi (by omega)]; first | exact hP51.1 | exact hP51.2.1) | exact (by first | (simp (disch := omega) only [fr_rec20.1, fr_rec20.2, u2_s]; first | exact hP51.1 | exact hP51.2.1)) | exact (fun q9 hq9 => by (simp (disch := omega) only [u2_ne, uR_ne, fr_fill, fr_Ctake, fr_rec]); exact hP51.2.2 q9 hq9))))) | (have e9 := Sum.inr.inj e'; subst e9; (refine ⟨?_, ?_, ?_⟩ <;> (first | exact hP51.1 | exact hP51.2.1 | exact hP51.2.2 | exact (by rw [u2_oi (by omega)]; first | exact hP51.1 | exact hP51.2.1) | exact (by first | (simp (disch := omega) only [fr_rec20.1, fr_rec20.2, u2_s]; first | exact hP51.1 | exact hP51.2.1)) | exact (fun q9 hq9 => by (simp (disch := omega) only [u2_ne, uR_ne, fr_fill, fr_Ctake, fr_rec]); exact hP51.2.2 q9 hq9) | exact hi51 | exact .inl rfl | exact .inr rfl | (simp (disch := omega) only [u2_ne, uR_ne, fr_fill, fr_Ctake, fr_rec]; first | exact hP51.1 | exact hP51.2.1 | exact hP51.2.2 | exact (by rw [u2_oi (by omega)]; first | exact hP51.1 | exact hP51.2.1) | exact (by first | (simp (disch := omega) only [fr_rec20.1, fr_rec20.2, u2_s]; first | exact hP51.1 | exact hP51.2.1)) | exact (fun q9 hq9 => by (simp (disch := omega) only [u2_ne, uR_ne, fr_fill, fr_Ctake, fr_rec]); exact hP51.2.2 q9 hq9)))))), fun kk51 kr51 => ?_⟩) ch 0 σ (by omega) (⟨(show σ qa 20 = nI 1 from hqf), (show σ qa 21 = nI ch from hqn), (fun _ _ => rfl)⟩) (fun sN51 eN51 hP51 => ?_) (fun r51 eN51 => ?_)
      · refine sw_iload O (xx_dt dd_X14_canPack 28 rfl) rfl ?_
        refine sw_aload_n O (xx_dt dd_X14_canPack 29 rfl) rfl ?_
        refine sw_alen O (xx_dt dd_X14_canPack 30 rfl) (by omega) (by omega) ((lm_tmp (z := z) (σ := s51) (h := h) (q := qa) (by omega) (fl1 hP51.1) hP51.2.1 (by omega)).get _) ?_
        refine sw_icmp_ge (tgt := 132) O (xx_dt dd_X14_canPack 31 rfl) (by decide) (fun q5 => ?_) (fun q5 => ?_)
        · exact absurd q5 (nI_ge (b := ch) hi51 (by omega))
        · refine sw_aload_n O (xx_dt dd_X14_canPack 32 rfl) rfl ?_
          refine sw_aload_n O (xx_dt dd_X14_canPack 33 rfl) rfl ?_
          refine sw_iload O (xx_dt dd_X14_canPack 34 rfl) rfl ?_
          refine sw_iaload (v := .int (s51 qa i51)) O (xx_dt dd_X14_canPack 35 rfl) ((lm_tmp (z := z) (σ := s51) (h := h) (q := qa) (by omega) (fl1 hP51.1) hP51.2.1 (by omega)).get _) (pk_in i51 _ (by omega)) (by rw [nI_clamp (by omega)]; try exact rfl) ?_
          refine sw_iload O (xx_dt dd_X14_canPack 36 rfl) rfl ?_
          refine sw_callVx (as := [.int (s51 qa i51), .int (nI ((x_MpkStep_3 x fr C fr)))]) (st := []) (st2 := [.int (f_MisFree s51 (s51 qa i51) (x_MpkStep_3 x fr C fr) rg)]) O (ct_X14_isFree hl (z := z) (σ := s51) hbs (R := R) ((congrFun (hP51.2.2 _ (by omega)) 900).trans hR) (by omega) (C := C) ((congrFun (hP51.2.2 _ (by omega)) 900).trans hS) (by omega) (rg := rg) (fun j9 hj9 => by rw [show s51 5004 = σ 5004 from (hP51.2.2 _ (by omega))]; exact hrg j9 hj9) (x := s51 qa i51) (j := (x_MpkStep_3 x fr C fr)) (by omega)) ce_X14_isFree ml_X14_268 iv_X14_isFree cl_X14 rfl (lm_mod (σ := s51)) (xx_dt dd_X14_canPack 37 rfl) (by omega) rfl rfl (Nat.le_of_ble_eq_true rfl) rfl ?_
          refine sw_if_ne (tgt := 74) O (xx_dt dd_X14_canPack 38 rfl) (by decide) (fun q6 => ?_) (fun q6 => ?_)
          · refine sw_aload_n O (xx_dt dd_X14_canPack 40 rfl) rfl ?_
            refine sw_iload O (xx_dt dd_X14_canPack 41 rfl) rfl ?_
            refine sw_dup2 O (xx_dt dd_X14_canPack 42 rfl) rfl rfl ?_
            refine sw_iaload (v := .int (s51 qa i51)) O (xx_dt dd_X14_canPack 43 rfl) ((lm_tmp (z := z) (σ := s51) (h := h) (q := qa) (by omega) (fl1 hP51.1) hP51.2.1 (by omega)).get _) (pk_in i51 _ (by omega)) (by rw [nI_clamp (by omega)]; try exact rfl) ?_
            refine sw_iconst (x := 1) O (xx_dt dd_X14_canPack 44 rfl) (by decide) ?_
            refine sw_iload O (xx_dt dd_X14_canPack 45 rfl) rfl ?_
            refine sw_ishl O (xx_dt dd_X14_canPack 46 rfl) ?_
            refine sw_ior O (xx_dt dd_X14_canPack 47 rfl) ?_
            refine sw_iastore (h2 := setM z (u2 s51 qa i51 ((s51 qa i51) ||| (1 <<< ((nI ((x_MpkStep_3 x fr C fr))) &&& 31)))) h) O (xx_dt dd_X14_canPack 48 rfl) ((lm_tmp (z := z) (σ := s51) (h := h) (q := qa) (by omega) (fl1 hP51.1) hP51.2.1 (by omega)).get _) (pk_in i51 _ (by omega)) (by omega) (by rw [nI_clamp (by omega)]; exact ((lm_tmp (z := z) (σ := s51) (h := h) (q := qa) (by omega) (fl1 hP51.1) hP51.2.1 (by omega)).put (by omega))) ?_
            refine sw_aload_n O (xx_dt dd_X14_canPack 49 rfl) rfl ?_
            refine sw_iload_n O (xx_dt dd_X14_canPack 50 rfl) rfl ?_
            refine sw_iload O (xx_dt dd_X14_canPack 51 rfl) rfl ?_
            refine sw_iconst (x := 1) O (xx_dt dd_X14_canPack 52 rfl) (by decide) ?_
            refine sw_iadd O (xx_dt dd_X14_canPack 53 rfl) ?_
            rw [nI_a1 (x_MpkStep_3 x fr C fr)]
            refine sw_aload_n O (xx_dt dd_X14_canPack 54 rfl) rfl ?_
            refine sw_callVx (as := [.int x, .int (nI ((x_MpkStep_3 x fr C fr) + 1)), .ref qa]) (st := []) (st2 := [.int (f_rec (u2 s51 qa i51 ((s51 qa i51) ||| (1 <<< ((nI ((x_MpkStep_3 x fr C fr))) &&& 31)))) ((x_MpkStep_3 x fr C fr) + 1))]) O (ih (u2 s51 qa i51 ((s51 qa i51) ||| (1 <<< ((nI ((x_MpkStep_3 x fr C fr))) &&& 31)))) ((x_MpkStep_3 x fr C fr) + 1) (by omega) (by omega) ((u2_oi (by omega)).trans hP51.1) ((u2_oi (by omega)).trans hP51.2.1) (((congrFun (u2_ne (by omega)) 900).trans (congrFun (hP51.2.2 _ (by omega)) 900)).trans hR) (((congrFun (u2_ne (by omega)) 900).trans (congrFun (hP51.2.2 _ (by omega)) 900)).trans hS) (fun j9 hj9 => by rw [show (u2 s51 qa i51 ((s51 qa i51) ||| (1 <<< ((nI ((x_MpkStep_3 x fr C fr))) &&& 31)))) 5004 = σ 5004 from ((u2_ne (by omega)).trans (hP51.2.2 _ (by omega)))]; exact hrg j9 hj9)) ce_X14_canPack ml_X14_272 iv_X14_canPack cl_X14 rfl (lm_mod (σ := u2 s51 qa i51 ((s51 qa i51) ||| (1 <<< ((nI ((x_MpkStep_3 x fr C fr))) &&& 31))))) (xx_dt dd_X14_canPack 55 rfl) (by omega) rfl rfl (Nat.le_of_ble_eq_true rfl) rfl ?_
            refine sw_istore (ls2 := [.ref 5000, .int x, .int (nI fr), .ref qa, .int (nI ((x_MpkStep_3 x fr C fr))), .int (nI i51), .int (f_rec (u2 s51 qa i51 ((s51 qa i51) ||| (1 <<< ((nI ((x_MpkStep_3 x fr C fr))) &&& 31)))) ((x_MpkStep_3 x fr C fr) + 1))]) O (xx_dt dd_X14_canPack 56 rfl) (by decide) rfl ?_
            refine sw_aload_n O (xx_dt dd_X14_canPack 57 rfl) rfl ?_
            refine sw_iload O (xx_dt dd_X14_canPack 58 rfl) rfl ?_
            refine sw_dup2 O (xx_dt dd_X14_canPack 59 rfl) rfl rfl ?_
            refine sw_iaload (v := .int ((g_rec (u2 s51 qa i51 ((s51 qa i51) ||| (1 <<< ((nI ((x_MpkStep_3 x fr C fr))) &&& 31)))) ((x_MpkStep_3 x fr C fr) + 1)) qa i51)) O (xx_dt dd_X14_canPack 60 rfl) ((lm_tmp (z := z) (σ := g_rec (u2 s51 qa i51 ((s51 qa i51) ||| (1 <<< ((nI ((x_MpkStep_3 x fr C fr))) &&& 31)))) ((x_MpkStep_3 x fr C fr) + 1)) (h := h) (q := qa) (by omega) (fl1 (((fr_rec20.1).trans (u2_oi (by omega))).trans hP51.1)) (((fr_rec20.2).trans (u2_oi (by omega))).trans hP51.2.1) (by omega)).get _) (pk_in i51 _ (by omega)) (by rw [nI_clamp (by omega)]; try exact rfl) ?_
            refine sw_iconst (x := 1) O (xx_dt dd_X14_canPack 61 rfl) (by decide) ?_
            refine sw_iload O (xx_dt dd_X14_canPack 62 rfl) rfl ?_
            refine sw_ishl O (xx_dt dd_X14_canPack 63 rfl) ?_
            refine sw_iconst (x := (-1)) O (xx_dt dd_X14_canPack 64 rfl) (by decide) ?_
            refine sw_ixor O (xx_dt dd_X14_canPack 65 rfl) ?_
            refine sw_iand O (xx_dt dd_X14_canPack 66 rfl) ?_
            refine sw_iastore (h2 := setM z (u2 (g_rec (u2 s51 qa i51 ((s51 qa i51) ||| (1 <<< ((nI ((x_MpkStep_3 x fr C fr))) &&& 31)))) ((x_MpkStep_3 x fr C fr) + 1)) qa i51 (((g_rec (u2 s51 qa i51 ((s51 qa i51) ||| (1 <<< ((nI ((x_MpkStep_3 x fr C fr))) &&& 31)))) ((x_MpkStep_3 x fr C fr) + 1)) qa i51) &&& ((1 <<< ((nI ((x_MpkStep_3 x fr C fr))) &&& 31)) ^^^ (-1)))) h) O (xx_dt dd_X14_canPack 67 rfl) ((lm_tmp (z := z) (σ := g_rec (u2 s51 qa i51 ((s51 qa i51) ||| (1 <<< ((nI ((x_MpkStep_3 x fr C fr))) &&& 31)))) ((x_MpkStep_3 x fr C fr) + 1)) (h := h) (q := qa) (by omega) (fl1 (((fr_rec20.1).trans (u2_oi (by omega))).trans hP51.1)) (((fr_rec20.2).trans (u2_oi (by omega))).trans hP51.2.1) (by omega)).get _) (pk_in i51 _ (by omega)) (by omega) (by rw [nI_clamp (by omega)]; exact ((lm_tmp (z := z) (σ := g_rec (u2 s51 qa i51 ((s51 qa i51) ||| (1 <<< ((nI ((x_MpkStep_3 x fr C fr))) &&& 31)))) ((x_MpkStep_3 x fr C fr) + 1)) (h := h) (q := qa) (by omega) (fl1 (((fr_rec20.1).trans (u2_oi (by omega))).trans hP51.1)) (((fr_rec20.2).trans (u2_oi (by omega))).trans hP51.2.1) (by omega)).put (by omega))) ?_
            refine sw_iload O (xx_dt dd_X14_canPack 68 rfl) rfl ?_
            refine sw_if_eq (tgt := 117) O (xx_dt dd_X14_canPack 69 rfl) (by decide) (fun q7 => ?_) (fun q7 => ?_)
            · refine sw_aload_n O (xx_dt dd_X14_canPack 72 rfl) rfl ?_
              refine sw_iload O (xx_dt dd_X14_canPack 73 rfl) rfl ?_
              refine sw_iaload (v := .int (((g_rec (u2 s51 qa i51 ((s51 qa i51) ||| (1 <<< ((nI ((x_MpkStep_3 x fr C fr))) &&& 31)))) ((x_MpkStep_3 x fr C fr) + 1)) qa i51) &&& ((1 <<< ((nI ((x_MpkStep_3 x fr C fr))) &&& 31)) ^^^ (-1)))) O (xx_dt dd_X14_canPack 74 rfl) ((lm_tmp (z := z) (σ := u2 (g_rec (u2 s51 qa i51 ((s51 qa i51) ||| (1 <<< ((nI ((x_MpkStep_3 x fr C fr))) &&& 31)))) ((x_MpkStep_3 x fr C fr) + 1)) qa i51 (((g_rec (u2 s51 qa i51 ((s51 qa i51) ||| (1 <<< ((nI ((x_MpkStep_3 x fr C fr))) &&& 31)))) ((x_MpkStep_3 x fr C fr) + 1)) qa i51) &&& ((1 <<< ((nI ((x_MpkStep_3 x fr C fr))) &&& 31)) ^^^ (-1)))) (h := h) (q := qa) (by omega) (fl1 ((((u2_oi (by omega)).trans (fr_rec20.1)).trans (u2_oi (by omega))).trans hP51.1)) ((((u2_oi (by omega)).trans (fr_rec20.2)).trans (u2_oi (by omega))).trans hP51.2.1) (by omega)).get _) (pk_in i51 _ (by omega)) (by rw [nI_clamp (by omega)]; exact (congrArg Value.int u2_at)) ?_
              refine sw_if_ne (tgt := 126) O (xx_dt dd_X14_canPack 75 rfl) (by decide) (fun q8 => ?_) (fun q8 => ?_)
              · refine sw_iinc (y := nI (i51 + 1)) (ls2 := [.ref 5000, .int x, .int (nI fr), .ref qa, .int (nI ((x_MpkStep_3 x fr C fr))), .int (nI (i51 + 1)), .int (f_rec (u2 s51 qa i51 ((s51 qa i51) ||| (1 <<< ((nI ((x_MpkStep_3 x fr C fr))) &&& 31)))) ((x_MpkStep_3 x fr C fr) + 1))]) O (xx_dt dd_X14_canPack 78 rfl) rfl (nI_1 _) (by decide) rfl ?_
                refine sw_goto (tgt := 51) O (xx_dt dd_X14_canPack 79 rfl) (by decide) ?_
                refine sw_dum (ls2 := [.ref 5000, .int x, .int (nI fr), .ref qa, .int (nI ((x_MpkStep_3 x fr C fr))), .int (nI (i51 + 1)), xx_d]) ⟨.inr rfl, .inr rfl, .inr rfl, .inr rfl, .inr rfl, .inr rfl, .inl rfl, trivial⟩ ?_
                exact kk51 (u2 (g_rec (u2 s51 qa i51 ((s51 qa i51) ||| (1 <<< ((nI ((x_MpkStep_3 x fr C fr))) &&& 31)))) ((x_MpkStep_3 x fr C fr) + 1)) qa i51 (((g_rec (u2 s51 qa i51 ((s51 qa i51) ||| (1 <<< ((nI ((x_MpkStep_3 x fr C fr))) &&& 31)))) ((x_MpkStep_3 x fr C fr) + 1)) qa i51) &&& ((1 <<< ((nI ((x_MpkStep_3 x fr C fr))) &&& 31)) ^^^ (-1)))) (by simp only [if_neg q6, if_pos q7, if_neg q8])
              · refine sw_iconst (x := 0) O (xx_dt dd_X14_canPack 76 rfl) (by decide) ?_
                have kz := kr51 (u2 (g_rec (u2 s51 qa i51 ((s51 qa i51) ||| (1 <<< ((nI ((x_MpkStep_3 x fr C fr))) &&& 31)))) ((x_MpkStep_3 x fr C fr) + 1)) qa i51 (((g_rec (u2 s51 qa i51 ((s51 qa i51) ||| (1 <<< ((nI ((x_MpkStep_3 x fr C fr))) &&& 31)))) ((x_MpkStep_3 x fr C fr) + 1)) qa i51) &&& ((1 <<< ((nI ((x_MpkStep_3 x fr C fr))) &&& 31)) ^^^ (-1))), 0) (by simp only [if_neg q6, if_pos q7, if_pos q8])
                exact sw_iret O (xx_dt dd_X14_canPack 77 rfl) rfl rfl (by rw [hQ, kz.1, kz.2]; exact ⟨rfl, rfl⟩)
            · refine sw_iconst (x := 1) O (xx_dt dd_X14_canPack 70 rfl) (by decide) ?_
              have kz := kr51 (u2 (g_rec (u2 s51 qa i51 ((s51 qa i51) ||| (1 <<< ((nI ((x_MpkStep_3 x fr C fr))) &&& 31)))) ((x_MpkStep_3 x fr C fr) + 1)) qa i51 (((g_rec (u2 s51 qa i51 ((s51 qa i51) ||| (1 <<< ((nI ((x_MpkStep_3 x fr C fr))) &&& 31)))) ((x_MpkStep_3 x fr C fr) + 1)) qa i51) &&& ((1 <<< ((nI ((x_MpkStep_3 x fr C fr))) &&& 31)) ^^^ (-1))), 1) (by simp only [if_neg q6, if_neg q7])
              exact sw_iret O (xx_dt dd_X14_canPack 71 rfl) rfl rfl (by rw [hQ, kz.1, kz.2]; exact ⟨rfl, rfl⟩)
          · refine sw_goto (tgt := 126) O (xx_dt dd_X14_canPack 39 rfl) (by decide) ?_
            refine sw_iinc (y := nI (i51 + 1)) (ls2 := [.ref 5000, .int x, .int (nI fr), .ref qa, .int (nI ((x_MpkStep_3 x fr C fr))), .int (nI (i51 + 1)), xx_d]) O (xx_dt dd_X14_canPack 78 rfl) rfl (nI_1 _) (by decide) rfl ?_
            refine sw_goto (tgt := 51) O (xx_dt dd_X14_canPack 79 rfl) (by decide) ?_
            exact kk51 s51 (by simp only [if_pos q6])
      · show SW Y _ _ (setM z sN51 h) 51 [.ref 5000, .int x, .int (nI fr), .ref qa, .int (nI ((x_MpkStep_3 x fr C fr))), .int (nI ch), xx_d] []
        refine sw_iload O (xx_dt dd_X14_canPack 28 rfl) rfl ?_
        refine sw_aload_n O (xx_dt dd_X14_canPack 29 rfl) rfl ?_
        refine sw_alen O (xx_dt dd_X14_canPack 30 rfl) (by omega) (by omega) ((lm_tmp (z := z) (σ := sN51) (h := h) (q := qa) (by omega) (fl1 hP51.1) hP51.2.1 (by omega)).get _) ?_
        refine sw_icmp_ge (tgt := 132) O (xx_dt dd_X14_canPack 31 rfl) (by decide) (fun q5 => ?_) (fun q5 => ?_)
        · refine sw_iconst (x := 0) O (xx_dt dd_X14_canPack 80 rfl) (by decide) ?_
          exact sw_iret O (xx_dt dd_X14_canPack 81 rfl) rfl rfl (by rw [hQ]; exact ⟨by unfold f_MpkStep; simp only [if_neg q4, x_MpkStep_51, eN51], by unfold g_MpkStep; simp only [if_neg q4, x_MpkStep_51, eN51]⟩)
        · exact absurd (Int32.le_refl _) q5
      · exact ⟨by unfold f_MpkStep; simp only [if_neg q4, x_MpkStep_51, eN51], by unfold g_MpkStep; simp only [if_neg q4, x_MpkStep_51, eN51]⟩
    · refine sw_iconst (x := 1) O (xx_dt dd_X14_canPack 24 rfl) (by decide) ?_
      exact sw_iret O (xx_dt dd_X14_canPack 25 rfl) rfl rfl (by rw [hQ]; exact ⟨by unfold f_MpkStep; simp only [if_pos q4], by unfold g_MpkStep; simp only [if_pos q4]⟩)
theorem xitR_keepN {S R : Type} {step : Nat → S → S ⊕ R} {A : Type} (π : S → A) (πR : R → A) {N : Nat} (h : ∀ i s, i < N → (∀ s', step i s = .inl s' → π s' = π s) ∧ ∀ r, step i s = .inr r → πR r = π s) : ∀ (f i : Nat) (s : S), i + f = N → (∀ s', xitR step f i s = .inl s' → π s' = π s) ∧ ∀ r, xitR step f i s = .inr r → πR r = π s
  | 0, _, _, _ => ⟨fun s' e => by rw [← Sum.inl.inj e], fun r e => by cases e⟩
  | f + 1, i, s, hN => by
    unfold xitR
    cases e : step i s with
    | inl s' =>
      have := xitR_keepN π πR h f (i + 1) s' (by omega)
      exact ⟨fun t q => (this.1 t q).trans ((h i s (by omega)).1 s' e), fun r q => (this.2 r q).trans ((h i s (by omega)).1 s' e)⟩
    | inr r => exact ⟨fun t q => (by cases q), fun t q => by rw [← Sum.inr.inj q]; exact (h i s (by omega)).2 r e⟩
theorem fr_MpkStep {σ : XS9} {f_rec : XS9 → Nat → Int32} {g_rec : XS9 → Nat → XS9} {x : Int32} {fr C : Nat} {rg : Nat → Nat} {qa ch : Nat} (fr_rec : ∀ {σ : XS9} {fr q : Nat}, q ≠ qa → g_rec σ fr q = σ q) (fr_rec20 : ∀ {σ : XS9} {fr : Nat}, (g_rec σ fr qa 20 = σ qa 20) ∧ g_rec σ fr qa 21 = σ qa 21) (hch : ch ≤ 6) : (∀ q, q ≠ qa → g_MpkStep σ f_rec g_rec x fr C rg qa ch q = σ q) ∧ (g_MpkStep σ f_rec g_rec x fr C rg qa ch qa 20 = σ qa 20) ∧ g_MpkStep σ f_rec g_rec x fr C rg qa ch qa 21 = σ qa 21 := by
  have K : ∀ {A : Type} (π : XS9 → A), (∀ s i x, i < 6 → π (u2 s qa i x) = π s) → (∀ s fr, π (g_rec s fr) = π s) → π (g_MpkStep σ f_rec g_rec x fr C rg qa ch) = π σ := by
    intro A π h1 h2
    have H := xitR_keepN (step := (fun i51 s51 => (if (f_MisFree s51 (s51 qa i51) (x_MpkStep_3 x fr C fr) rg) = 0 then .inl s51 else (if (f_rec (u2 s51 qa i51 ((s51 qa i51) ||| (1 <<< ((nI ((x_MpkStep_3 x fr C fr))) &&& 31)))) ((x_MpkStep_3 x fr C fr) + 1)) = 0 then (if (((g_rec (u2 s51 qa i51 ((s51 qa i51) ||| (1 <<< ((nI ((x_MpkStep_3 x fr C fr))) &&& 31)))) ((x_MpkStep_3 x fr C fr) + 1)) qa i51) &&& ((1 <<< ((nI ((x_MpkStep_3 x fr C fr))) &&& 31)) ^^^ (-1))) = 0 then .inr (u2 (g_rec (u2 s51 qa i51 ((s51 qa i51) ||| (1 <<< ((nI ((x_MpkStep_3 x fr C fr))) &&& 31)))) ((x_MpkStep_3 x fr C fr) + 1)) qa i51 (((g_rec (u2 s51 qa i51 ((s51 qa i51) ||| (1 <<< ((nI ((x_MpkStep_3 x fr C fr))) &&& 31)))) ((x_MpkStep_3 x fr C fr) + 1)) qa i51) &&& ((1 <<< ((nI ((x_MpkStep_3 x fr C fr))) &&& 31)) ^^^ (-1))), 0) else .inl (u2 (g_rec (u2 s51 qa i51 ((s51 qa i51) ||| (1 <<< ((nI ((x_MpkStep_3 x fr C fr))) &&& 31)))) ((x_MpkStep_3 x fr C fr) + 1)) qa i51 (((g_rec (u2 s51 qa i51 ((s51 qa i51) ||| (1 <<< ((nI ((x_MpkStep_3 x fr C fr))) &&& 31)))) ((x_MpkStep_3 x fr C fr) + 1)) qa i51) &&& ((1 <<< ((nI ((x_MpkStep_3 x fr C fr))) &&& 31)) ^^^ (-1))))) else .inr (u2 (g_rec (u2 s51 qa i51 ((s51 qa i51) ||| (1 <<< ((nI ((x_MpkStep_3 x fr C fr))) &&& 31)))) ((x_MpkStep_3 x fr C fr) + 1)) qa i51 (((g_rec (u2 s51 qa i51 ((s51 qa i51) ||| (1 <<< ((nI ((x_MpkStep_3 x fr C fr))) &&& 31)))) ((x_MpkStep_3 x fr C fr) + 1)) qa i51) &&& ((1 <<< ((nI ((x_MpkStep_3 x fr C fr))) &&& 31)) ^^^ (-1))), 1))) : Nat → XS9 → XS9 ⊕ (XS9 × Int32))) π (fun r : XS9 × Int32 => π r.1) (N := ch) (fun i s hi => by
      refine ⟨fun s' e2 => ?_, fun r e2 => ?_⟩ <;> revert e2 <;> (try dsimp only) <;> (repeat' split) <;> intro e2 <;> first | (cases e2; done) | (have e9 := Sum.inl.inj e2; subst e9; first | rfl | (rw [h1 _ _ _ (by omega), h2, h1 _ _ _ (by omega)])) | (have e9 := Sum.inr.inj e2; subst e9; (try dsimp only); first | rfl | (rw [h1 _ _ _ (by omega), h2, h1 _ _ _ (by omega)])))
    unfold g_MpkStep
    split
    · rfl
    · have := H ch 0 σ (by omega)
      unfold x_MpkStep_51
      split
      · rename_i s e
        exact this.1 s e
      · rename_i r e
        exact this.2 r e
  refine ⟨fun q hq => K (fun s => s q) (fun s i x _ => u2_ne hq) (fun s fr => fr_rec hq), K (fun s => s qa 20) (fun s i x hi => u2_oi (by omega)) (fun s fr => fr_rec20.1), K (fun s => s qa 21) (fun s i x hi => u2_oi (by omega)) (fun s fr => fr_rec20.2)⟩
def fg_Mpk (x : Int32) (C : Nat) (rg : Nat → Nat) (qa ch : Nat) : Nat → (XS9 → Nat → Int32) × (XS9 → Nat → XS9)
  | 0 => (fun σ fr => f_MpkStep σ (fun _ _ => 0) (fun σ _ => σ) x fr C rg qa ch, fun σ fr => g_MpkStep σ (fun _ _ => 0) (fun σ _ => σ) x fr C rg qa ch)
  | f + 1 => (fun σ fr => f_MpkStep σ (fg_Mpk x C rg qa ch f).1 (fg_Mpk x C rg qa ch f).2 x fr C rg qa ch, fun σ fr => g_MpkStep σ (fg_Mpk x C rg qa ch f).1 (fg_Mpk x C rg qa ch f).2 x fr C rg qa ch)
theorem fr_Mpk {x : Int32} {C : Nat} {rg : Nat → Nat} {qa ch : Nat} (hch : ch ≤ 6) : ∀ (f : Nat) {σ : XS9} {fr : Nat}, (∀ q, q ≠ qa → (fg_Mpk x C rg qa ch f).2 σ fr q = σ q) ∧ ((fg_Mpk x C rg qa ch f).2 σ fr qa 20 = σ qa 20) ∧ (fg_Mpk x C rg qa ch f).2 σ fr qa 21 = σ qa 21
  | 0, σ, fr => fr_MpkStep (fun _ => rfl) ⟨rfl, rfl⟩ hch
  | f + 1, σ, fr => fr_MpkStep (fun h => (fr_Mpk hch f).1 _ h) (fr_Mpk hch f).2 hch
theorem bo_MpkStep {σ : XS9} {f_rec : XS9 → Nat → Int32} {g_rec : XS9 → Nat → XS9} {x : Int32} {fr C : Nat} {rg : Nat → Nat} {qa ch : Nat} : f_MpkStep σ f_rec g_rec x fr C rg qa ch = 0 ∨ f_MpkStep σ f_rec g_rec x fr C rg qa ch = 1 := by
  unfold f_MpkStep
  split
  · exact .inr rfl
  · split
    · exact .inl rfl
    · rename_i r e
      unfold x_MpkStep_51 at e
      refine xitR_all (P := fun r : XS9 × Int32 => r.2 = 0 ∨ r.2 = 1) (fun i s r e => ?_) _ _ _ _ e
      revert e
      (try dsimp only)
      (repeat' split) <;> intro e <;> first | (have e9 := Sum.inr.inj e; rw [← e9]; first | exact .inl rfl | exact .inr rfl) | (cases e; done)
theorem bo_Mpk {x : Int32} {C : Nat} {rg : Nat → Nat} {qa ch : Nat} : ∀ (f : Nat) (σ : XS9) (fr : Nat), (fg_Mpk x C rg qa ch f).1 σ fr = 0 ∨ (fg_Mpk x C rg qa ch f).1 σ fr = 1
  | 0, σ, fr => bo_MpkStep
  | f + 1, σ, fr => bo_MpkStep
theorem ct_Mpk {l : Launch} {h : XH} (hl : l.stackTraces = false) {z : Int64} (hbs : xx_bs h) {R : Nat} {C : Nat} {rg : Nat → Nat} {qa ch : Nat} {x : Int32} (hR5 : R ≤ 5) (hC10 : C ≤ 10) (hqa : 20000 ≤ qa ∧ qa < 20010) (hch : ch ≤ 6) : ∀ (f : Nat), ∀ (σ : XS9) (fr1 : Nat), C - fr1 ≤ f → fr1 ≤ C → σ qa 20 = nI 1 → σ qa 21 = nI ch → σ 5001 900 = nI R → σ 5004 900 = nI (2 * C) → (∀ q, q < C → σ 5004 (2 * q) = nI (rg q) ∧ rg q < R) → XEx l m_X14_canPack (f + 7) 0 0 [.ref 5000, .int x, .int (nI fr1), .ref qa] (setM z σ h) (some (.int ((fg_Mpk x C rg qa ch f).1 σ fr1))) (setM z ((fg_Mpk x C rg qa ch f).2 σ fr1) h)
  | 0, σ, fr, e, hfr, e1, e2, e3, e4, e5 => ct_MpkStep hl hbs e3 hR5 e4 hC10 e5 hqa e1 e2 hch (fun _ => rfl) ⟨rfl, rfl⟩ hfr (d0 := 6) (by omega) (fun σ fr1 h1 h2 _ _ _ _ _ => absurd h1 (by omega))
  | f + 1, σ, fr, e, hfr, e1, e2, e3, e4, e5 => ct_MpkStep hl hbs e3 hR5 e4 hC10 e5 hqa e1 e2 hch (fun h => (fr_Mpk hch f).1 _ h) (fr_Mpk hch f).2 hfr (d0 := f + 7) (by omega) (fun σ fr1 h1 h2 a1 a2 a3 a4 a5 => ct_Mpk hl hbs hR5 hC10 hqa hch f σ fr1 (by omega) h2 a1 a2 a3 a4 a5)
end
section
/-! ===== the reference packs stations: packs, clear ===== -/
def f_Mcp (σ : XS9) (x : Int32) (fr C : Nat) (rg : Nat → Nat) (qa ch : Nat) : Int32 := (fg_Mpk x C rg qa ch C).1 σ fr
def g_Mcp (σ : XS9) (x : Int32) (fr C : Nat) (rg : Nat → Nat) (qa ch : Nat) : XS9 := (fg_Mpk x C rg qa ch C).2 σ fr
theorem fr_Mcp {σ : XS9} {x : Int32} {fr C : Nat} {rg : Nat → Nat} {qa ch q : Nat} (h : q ≠ qa ∧ ch ≤ 6) : g_Mcp σ x fr C rg qa ch q = σ q := (fr_Mpk h.2 C).1 q h.1
theorem fl_Mcp {σ : XS9} {x : Int32} {fr C : Nat} {rg : Nat → Nat} {qa ch : Nat} (h : ch ≤ 6) : g_Mcp σ x fr C rg qa ch qa 20 = σ qa 20 ∧ g_Mcp σ x fr C rg qa ch qa 21 = σ qa 21 := (fr_Mpk h C).2
theorem ct_X14_canPack {l : Launch} {h : XH} (hl : l.stackTraces = false) {z : Int64} {σ : XS9} (hbs : xx_bs h) {R : Nat} (hR : σ 5001 900 = nI R) (hR5 : R ≤ 5) {C : Nat} (hS : σ 5004 900 = nI (2 * C)) (hC10 : C ≤ 10) {rg : Nat → Nat} (hrg : ∀ q, q < C → σ 5004 (2 * q) = nI (rg q) ∧ rg q < R) {qa ch : Nat} (hqa : 20000 ≤ qa ∧ qa < 20010) (hqf : σ qa 20 = nI 1) (hqn : σ qa 21 = nI ch) (hch : ch ≤ 6) {x : Int32} {fr : Nat} (hfr2 : fr ≤ C) : XEx l m_X14_canPack (C + 7) 0 0 [.ref 5000, .int x, .int (nI fr), .ref qa] (setM z σ h) (some (.int (f_Mcp σ x fr C rg qa ch))) (setM z (g_Mcp σ x fr C rg qa ch) h) := ct_Mpk hl hbs hR5 hC10 hqa hch C σ fr (by omega) hfr2 hqf hqn hR hS hrg
def f_Mpacks (σ : XS9) (x y : Int32) (R C : Nat) (rg : Nat → Nat) : Int32 := (if n_lt x (2 ^ C) then (if n_bt y 1 6 then (if (f_Mcp (uR (u2 σ 5000 0 0) 20000 (rowN (cn y))) (nI (cn x)) 0 C rg 20000 (cn y)) = 0 then 0 else 1) else 0) else 0)
def g_Mpacks (σ : XS9) (x y : Int32) (R C : Nat) (rg : Nat → Nat) : XS9 := (if n_lt x (2 ^ C) then (if n_bt y 1 6 then u2 (g_Mcp (uR (u2 σ 5000 0 0) 20000 (rowN (cn y))) (nI (cn x)) 0 C rg 20000 (cn y)) 20000 20 0 else u2 σ 5000 0 1) else u2 σ 5000 0 1)
theorem ct_X14_packs {l : Launch} {h : XH} (hl : l.stackTraces = false) {z : Int64} {σ : XS9} (hbs : xx_bs h) (hfr : ∀ r, 5000 ≤ r → r < 20010 → h r = none) (hme : mem_eq σ σ) {R : Nat} (hR : σ 5001 900 = nI R) (hR5 : R ≤ 5) {C : Nat} (hS : σ 5004 900 = nI (2 * C)) (hC10 : C ≤ 10) {rg : Nat → Nat} (hrg : ∀ q, q < C → σ 5004 (2 * q) = nI (rg q) ∧ rg q < R) {x y : Int32}  : XEx l m_X14_packs 18 1 6 [.ref 5000, .int x, .int y] (setM z σ h) (some (.int (f_Mpacks σ x y R C rg))) (setM z (g_Mpacks σ x y R C rg) h) := by
  refine XMet.of hl rfl rfl (Nat.le_of_ble_eq_true rfl) (fun Y O hh hQ => ?_)
  refine sw_cls (fun hcl => ?_)
  show SW Y 1 6 (setM z σ h) 0 [.ref 5000, .int x, .int y] []
  refine sw_aload_n O (xx_dt dd_X14_packs 0 rfl) rfl ?_
  refine sw_aload_n O (xx_dt dd_X14_packs 1 rfl) rfl ?_
  refine sw_iload_n O (xx_dt dd_X14_packs 2 rfl) rfl ?_
  refine sw_callVx (as := [.int x]) (st := [.ref 5000]) (st2 := [.int (bZ (n_lt x (2 ^ C))), .ref 5000]) O (ct_X14_areStations hl (z := z) (σ := σ) hbs (C := C) hS hC10 (x := x)) ce_X14_areStations ml_X14_279 iv_X14_areStations cl_X14 rfl (lm_mod (σ := σ)) (xx_dt dd_X14_packs 3 rfl) (by omega) rfl rfl (Nat.le_of_ble_eq_true rfl) rfl ?_
  refine sw_if_eqB (tgt := 23) O (xx_dt dd_X14_packs 4 rfl) (by decide) (fun q1 => ?_) (fun q1 => ?_)
  · refine sw_iconst (x := 1) O (xx_dt dd_X14_packs 12 rfl) (by decide) ?_
    refine sw_put (h2 := setM z (u2 σ 5000 0 1) h) O (xx_dt dd_X14_packs 13 rfl) cl_X14 fl_X14_46 (lm_mod (σ := σ)) (by decide) (by omega) rfl (fun _ => ⟨rfl, rfl⟩) (pm_mod (σ := σ) (by omega)) ?_
    refine sw_aload_n O (xx_dt dd_X14_packs 14 rfl) rfl ?_
    refine sw_get (v := .int 1) O (xx_dt dd_X14_packs 15 rfl) cl_X14 fl_X14_46 (lm_mod (σ := u2 σ 5000 0 1)) (by decide) rfl ?_
    refine sw_if_ne (tgt := 50) O (xx_dt dd_X14_packs 16 rfl) (by decide) (fun q2 => ?_) (fun q2 => ?_)
    · refine sw_iconst (x := 0) O (xx_dt dd_X14_packs 26 rfl) (by decide) ?_
      exact sw_iret O (xx_dt dd_X14_packs 27 rfl) rfl rfl (by rw [hQ]; exact ⟨by unfold f_Mpacks; simp only [if_neg q1], by unfold g_Mpacks; simp only [if_neg q1]⟩)
    · exact absurd q2 (by decide)
  · have hc6 := q1
    refine sw_lsE (ls2 := [.ref 5000, .int (nI (cn x)), .int y]) (by rw [← hc6.1]) ?_
    have hd6 := hc6.2
    refine sw_iload_n O (xx_dt dd_X14_packs 5 rfl) rfl ?_
    refine sw_iconst (x := 1) O (xx_dt dd_X14_packs 6 rfl) (by decide) ?_
    refine sw_bipush (x := 6) O (xx_dt dd_X14_packs 7 rfl) (by decide) ?_
    refine sw_callSx (as := [.int y, .int 1, .int 6]) (st := [.ref 5000]) (st2 := [.int (bZ (n_bt y 1 6)), .ref 5000]) O (ct_X14_is hl) ce_X14_is ml_X14_70 st_X14_is (xx_dt dd_X14_packs 8 rfl) (by omega) rfl rfl (Nat.le_of_ble_eq_true rfl) rfl ?_
    refine sw_if_eqB (tgt := 23) O (xx_dt dd_X14_packs 9 rfl) (by decide) (fun q3 => ?_) (fun q3 => ?_)
    · refine sw_iconst (x := 1) O (xx_dt dd_X14_packs 12 rfl) (by decide) ?_
      refine sw_put (h2 := setM z (u2 σ 5000 0 1) h) O (xx_dt dd_X14_packs 13 rfl) cl_X14 fl_X14_46 (lm_mod (σ := σ)) (by decide) (by omega) rfl (fun _ => ⟨rfl, rfl⟩) (pm_mod (σ := σ) (by omega)) ?_
      refine sw_aload_n O (xx_dt dd_X14_packs 14 rfl) rfl ?_
      refine sw_get (v := .int 1) O (xx_dt dd_X14_packs 15 rfl) cl_X14 fl_X14_46 (lm_mod (σ := u2 σ 5000 0 1)) (by decide) rfl ?_
      refine sw_if_ne (tgt := 50) O (xx_dt dd_X14_packs 16 rfl) (by decide) (fun q4 => ?_) (fun q4 => ?_)
      · refine sw_iconst (x := 0) O (xx_dt dd_X14_packs 26 rfl) (by decide) ?_
        exact sw_iret O (xx_dt dd_X14_packs 27 rfl) rfl rfl (by rw [hQ]; exact ⟨by unfold f_Mpacks; simp only [if_pos q1, if_neg q3], by unfold g_Mpacks; simp only [if_pos q1, if_neg q3]⟩)
      · exact absurd q4 (by decide)
    · have hc16 := (bt_nat 6 q3 (by decide) rfl (by decide))
      refine sw_lsE (ls2 := [.ref 5000, .int (nI (cn x)), .int (nI (cn y))]) (by rw [← hc16.1]) ?_
      have hd16 := hc16.2
      refine sw_iconst (x := 0) O (xx_dt dd_X14_packs 10 rfl) (by decide) ?_
      refine sw_goto (tgt := 24) O (xx_dt dd_X14_packs 11 rfl) (by decide) ?_
      refine sw_put (h2 := setM z (u2 σ 5000 0 0) h) O (xx_dt dd_X14_packs 13 rfl) cl_X14 fl_X14_46 (lm_mod (σ := σ)) (by decide) (by omega) rfl (fun _ => ⟨rfl, rfl⟩) (pm_mod (σ := σ) (by omega)) ?_
      refine sw_aload_n O (xx_dt dd_X14_packs 14 rfl) rfl ?_
      refine sw_get (v := .int 0) O (xx_dt dd_X14_packs 15 rfl) cl_X14 fl_X14_46 (lm_mod (σ := u2 σ 5000 0 0)) (by decide) rfl ?_
      refine sw_if_ne (tgt := 50) O (xx_dt dd_X14_packs 16 rfl) (by decide) (fun q5 => ?_) (fun q5 => ?_)
      · exact absurd q5 (by decide)
      · refine sw_aload_n O (xx_dt dd_X14_packs 17 rfl) rfl ?_
        refine sw_iload_n O (xx_dt dd_X14_packs 18 rfl) rfl ?_
        refine sw_iconst (x := 0) O (xx_dt dd_X14_packs 19 rfl) (by decide) ?_
        refine sw_iload_n O (xx_dt dd_X14_packs 20 rfl) rfl ?_
        refine xx_wid (k' := 0 + 1) (n' := 0 + (cn y)) (by omega) (by omega) (sw_newarray (k := 0) (n := 0) (t := 100) (N := cn y) (r := 20000) O (xx_dt dd_X14_packs 21 rfl) ⟨⟨by omega, by omega⟩, rfl⟩ ac_int (by first | decide | (have h9 := xx_nlt0 (cn y) (by omega); exact h9)) (by first | rfl | exact nI_clamp (by omega)) (by show (cn y) * 4 ≤ _; omega) ((setM_tn (z := z) (σ := u2 σ 5000 0 0) (q := 20000) (by omega) (hme.2.2 20000 (by omega) (by omega)).2).trans (hfr 20000 (by omega) (by omega))) (by omega) ?_)
        rw [xx_blk_up]
        refine sw_alter (F2 := fun k => .int (rowN (cn y) k)) (xx_up_eq _ _ _) (fun j9 hj9 => (rowN_lt (by omega)).symm) ?_
        rw [xx_up_up]
        rw [new_tmp (σ := u2 σ 5000 0 0) (q := 20000) (n := cn y) (by omega) (by omega)]
        refine sw_callVx (as := [.int (nI (cn x)), .int 0, .ref 20000]) (st := []) (st2 := [.int (f_Mcp (uR (u2 σ 5000 0 0) 20000 (rowN (cn y))) (nI (cn x)) 0 C rg 20000 (cn y))]) O (ct_X14_canPack hl (z := z) (σ := uR (u2 σ 5000 0 0) 20000 (rowN (cn y))) hbs (R := R) hR (by omega) (C := C) hS (by omega) (rg := rg) hrg (qa := 20000) (ch := cn y) (by omega) tmp20 tmp21 (by omega) (x := nI (cn x)) (fr := 0) (by omega)) ce_X14_canPack ml_X14_272 iv_X14_canPack cl_X14 rfl (lm_mod (σ := uR (u2 σ 5000 0 0) 20000 (rowN (cn y)))) (xx_dt dd_X14_packs 22 rfl) (by omega) rfl rfl (Nat.le_of_ble_eq_true rfl) rfl ?_
        refine sw_if_eq (tgt := 50) O (xx_dt dd_X14_packs 23 rfl) (by decide) (fun q6 => ?_) (fun q6 => ?_)
        · refine sw_iconst (x := 0) O (xx_dt dd_X14_packs 26 rfl) (by decide) ?_
          have me9 : mem_eq σ (u2 (g_Mcp (uR (u2 σ 5000 0 0) 20000 (rowN (cn y))) (nI (cn x)) 0 C rg 20000 (cn y)) 20000 20 0) := (mem_eq.frame (τ0 := u2 σ 5000 0 0) (mem_eq.int (r := 5000) (i := 0) (x := 0) hme rfl) (fun q h1 h2 h3 => by simp (disch := omega) only [u2_ne, uR_ne, fr_Cinit, fr_Cpay1, fr_Cpay2, fr_Mcp]) (by (simp (disch := omega) only [u2_ne, uR_ne, fr_Cinit, fr_Cpay1, fr_Cpay2, fr_Mcp]); exact hme.2.1.1.1) (fun q h1 h2 => by by_cases e0 : q = 20000; (subst e0; rfl); ((simp (disch := omega) only [u2_ne, uR_ne, fr_Cinit, fr_Cpay1, fr_Cpay2, fr_Mcp]; exact (hme.2.2 q h1 h2).1))))
          exact sw_iretD (h' := setM z (u2 (g_Mcp (uR (u2 σ 5000 0 0) 20000 (rowN (cn y))) (nI (cn x)) 0 C rg 20000 (cn y)) 20000 20 0) h) O (xx_dt dd_X14_packs 27 rfl) rfl rfl (dropT (by omega) hfr) (me9.cls hcl) (by rw [hh]; exact fun r hr => me9.dom hr) (by rw [hQ]; exact ⟨by unfold f_Mpacks; simp only [if_pos q1, if_pos q3, if_pos q6], by unfold g_Mpacks; simp only [if_pos q1, if_pos q3, if_pos q6]⟩)
        · refine sw_iconst (x := 1) O (xx_dt dd_X14_packs 24 rfl) (by decide) ?_
          refine sw_goto (tgt := 51) O (xx_dt dd_X14_packs 25 rfl) (by decide) ?_
          have me9 : mem_eq σ (u2 (g_Mcp (uR (u2 σ 5000 0 0) 20000 (rowN (cn y))) (nI (cn x)) 0 C rg 20000 (cn y)) 20000 20 0) := (mem_eq.frame (τ0 := u2 σ 5000 0 0) (mem_eq.int (r := 5000) (i := 0) (x := 0) hme rfl) (fun q h1 h2 h3 => by simp (disch := omega) only [u2_ne, uR_ne, fr_Cinit, fr_Cpay1, fr_Cpay2, fr_Mcp]) (by (simp (disch := omega) only [u2_ne, uR_ne, fr_Cinit, fr_Cpay1, fr_Cpay2, fr_Mcp]); exact hme.2.1.1.1) (fun q h1 h2 => by by_cases e0 : q = 20000; (subst e0; rfl); ((simp (disch := omega) only [u2_ne, uR_ne, fr_Cinit, fr_Cpay1, fr_Cpay2, fr_Mcp]; exact (hme.2.2 q h1 h2).1))))
          exact sw_iretD (h' := setM z (u2 (g_Mcp (uR (u2 σ 5000 0 0) 20000 (rowN (cn y))) (nI (cn x)) 0 C rg 20000 (cn y)) 20000 20 0) h) O (xx_dt dd_X14_packs 27 rfl) rfl rfl (dropT (by omega) hfr) (me9.cls hcl) (by rw [hh]; exact fun r hr => me9.dom hr) (by rw [hQ]; exact ⟨by unfold f_Mpacks; simp only [if_pos q1, if_pos q3, if_neg q6], by unfold g_Mpacks; simp only [if_pos q1, if_pos q3, if_neg q6]⟩)
theorem pow_le10 {C : Nat} (hC : C ≤ 10) : 2 ^ C ≤ 1024 ∧ 0 < 2 ^ C := by
  have : ∀ a : Fin 11, 2 ^ a.1 ≤ 1024 ∧ 0 < 2 ^ a.1 := by decide
  exact this ⟨C, by omega⟩
def x_MclearNow_41 (σ : XS9) (C : Nat) (s29 : XS9 × Int32 × Int32) (i29 : Nat) (s0 : Int32) : Int32 := xit (fun i41 s41 => s41 + ((((nI i29) >>> ((nI i41) &&& 31)) &&& 1) * (σ 5004 (2 * i41 + 1)))) C 0 s0
def x_MclearNow_29 (σ : XS9) (ch C : Nat) (rg : Nat → Nat) (s0 : XS9 × Int32 × Int32) : XS9 × Int32 × Int32 := xit (fun i29 s29 => (if s29.2.2 ≤ (x_MclearNow_41 σ C s29 i29 0) then (s29.1, s29.2.1, s29.2.2) else (if (f_Mcp s29.1 ((nI (2 ^ C - 1)) &&& ((nI i29) ^^^ (-1))) 0 C rg 20000 ch) = 0 then (g_Mcp s29.1 ((nI (2 ^ C - 1)) &&& ((nI i29) ^^^ (-1))) 0 C rg 20000 ch, s29.2.1, s29.2.2) else (g_Mcp s29.1 ((nI (2 ^ C - 1)) &&& ((nI i29) ^^^ (-1))) 0 C rg 20000 ch, nI i29, (x_MclearNow_41 σ C s29 i29 0))))) (2 ^ C) 0 s0
theorem fr_McN {σ : XS9} {ch C : Nat} {rg : Nat → Nat} {s0 : XS9 × Int32 × Int32} {q : Nat} (h : q ≠ 20000 ∧ ch ≤ 6) : (x_MclearNow_29 σ ch C rg s0).1 q = s0.1 q := xit_keep (fun s : XS9 × Int32 × Int32 => s.1 q) (fun i s => by (try dsimp only); (repeat' split) <;> first | rfl | simp (disch := omega) only [fr_Mcp]) _ _ _
def f_MclearNow (σ : XS9) (ch R C : Nat) (rg : Nat → Nat) : Int32 := (x_MclearNow_29 σ ch C rg (uR σ 20000 (rowN ch), nI (2 ^ C - 1), 2147483647)).2.1
def g_MclearNow (σ : XS9) (ch R C : Nat) (rg : Nat → Nat) : XS9 := u2 ((x_MclearNow_29 σ ch C rg (uR σ 20000 (rowN ch), nI (2 ^ C - 1), 2147483647)).1) 20000 20 0
theorem ct_X14_clearNow {l : Launch} {h : XH} (hl : l.stackTraces = false) {z : Int64} {σ : XS9} (hbs : xx_bs h) (hfr : ∀ r, 5000 ≤ r → r < 20010 → h r = none) (hme : mem_eq σ σ) {R : Nat} (hR : σ 5001 900 = nI R) (hR5 : R ≤ 5) {C : Nat} (hS : σ 5004 900 = nI (2 * C)) (hC10 : C ≤ 10) {rg : Nat → Nat} (hrg : ∀ q, q < C → σ 5004 (2 * q) = nI (rg q) ∧ rg q < R) {ch : Nat} (hch : ch ≤ 6)  : XEx l m_X14_clearNow 18 1 6 [.ref 5000, .int (nI ch)] (setM z σ h) (some (.int (f_MclearNow σ ch R C rg))) (setM z (g_MclearNow σ ch R C rg) h) := by
  refine XMet.of hl rfl rfl (Nat.le_of_ble_eq_true rfl) (fun Y O hh hQ => ?_)
  refine sw_cls (fun hcl => ?_)
  show SW Y 1 6 (setM z σ h) 0 [.ref 5000, .int (nI ch), xx_d, xx_d, xx_d, xx_d, xx_d, xx_d, xx_d] []
  refine sw_iconst (x := 1) O (xx_dt dd_X14_clearNow 0 rfl) (by decide) ?_
  refine sw_aload_n O (xx_dt dd_X14_clearNow 1 rfl) rfl ?_
  refine sw_get (v := .ref 5004) O (xx_dt dd_X14_clearNow 2 rfl) cl_X14 fl_X14_33 (lm_mod (σ := σ)) (by decide) rfl ?_
  refine sw_callVL (ci := 6) (as := []) (st := [.int 1]) (st2 := [.int (nI (2 * C)), .int 1]) O (ct_AL_size hl (lm_5004 (σ := σ) (S := 2 * C) hS (by omega))) ce_Jx4a65c_size_8abf5 ml_X14_57 iv_Jx4a65c_size_8abf5 cl_Jx4a65c rfl (lm_5004 (σ := σ) (S := 2 * C) hS (by omega)) (xx_dt dd_X14_clearNow 3 rfl) (by omega) rfl rfl (Nat.le_of_ble_eq_true rfl) rfl ?_
  refine sw_iconst (x := 2) O (xx_dt dd_X14_clearNow 4 rfl) (by decide) ?_
  refine sw_idiv O (xx_dt dd_X14_clearNow 5 rfl) (by first | decide | assumption) ?_
  have hx9 := trivial
  rw [nI_half (by omega)]
  refine sw_ishl O (xx_dt dd_X14_clearNow 6 rfl) ?_
  refine sw_iconst (x := 1) O (xx_dt dd_X14_clearNow 7 rfl) (by decide) ?_
  refine sw_isub O (xx_dt dd_X14_clearNow 8 rfl) ?_
  have hx12 := pow_le10 hC10
  rw [all_nat (C := C) (by omega)]
  refine sw_istore_n (ls2 := [.ref 5000, .int (nI ch), .int (nI (2 ^ C - 1)), xx_d, xx_d, xx_d, xx_d, xx_d, xx_d]) O (xx_dt dd_X14_clearNow 9 rfl) (by decide) rfl ?_
  refine sw_iload_n O (xx_dt dd_X14_clearNow 10 rfl) rfl ?_
  refine xx_wid (k' := 0 + 1) (n' := 0 + ch) (by omega) (by omega) (sw_newarray (k := 0) (n := 0) (t := 100) (N := ch) (r := 20000) O (xx_dt dd_X14_clearNow 11 rfl) ⟨⟨by omega, by omega⟩, rfl⟩ ac_int (by first | decide | (have h9 := xx_nlt0 ch (by omega); exact h9)) (by first | rfl | exact nI_clamp (by omega)) (by show ch * 4 ≤ _; omega) ((setM_tn (z := z) (σ := σ) (q := 20000) (by omega) (hme.2.2 20000 (by omega) (by omega)).2).trans (hfr 20000 (by omega) (by omega))) (by omega) ?_)
  rw [xx_blk_up]
  refine sw_alter (F2 := fun k => .int (rowN ch k)) (xx_up_eq _ _ _) (fun j9 hj9 => (rowN_lt (by omega)).symm) ?_
  rw [xx_up_up]
  rw [new_tmp (σ := σ) (q := 20000) (n := ch) (by omega) (by omega)]
  refine sw_astore_n (ls2 := [.ref 5000, .int (nI ch), .int (nI (2 ^ C - 1)), .ref 20000, xx_d, xx_d, xx_d, xx_d, xx_d]) O (xx_dt dd_X14_clearNow 12 rfl) (by decide) rfl ?_
  refine sw_iload_n O (xx_dt dd_X14_clearNow 13 rfl) rfl ?_
  refine sw_istore (ls2 := [.ref 5000, .int (nI ch), .int (nI (2 ^ C - 1)), .ref 20000, .int (nI (2 ^ C - 1)), xx_d, xx_d, xx_d, xx_d]) O (xx_dt dd_X14_clearNow 14 rfl) (by decide) rfl ?_
  refine sw_ldcw O ct_X14_286 (xx_dt dd_X14_clearNow 15 rfl) ?_
  refine sw_istore (ls2 := [.ref 5000, .int (nI ch), .int (nI (2 ^ C - 1)), .ref 20000, .int (nI (2 ^ C - 1)), .int 2147483647, xx_d, xx_d, xx_d]) O (xx_dt dd_X14_clearNow 16 rfl) (by decide) rfl ?_
  refine sw_iconst (x := 0) O (xx_dt dd_X14_clearNow 17 rfl) (by decide) ?_
  refine sw_istore (ls2 := [.ref 5000, .int (nI ch), .int (nI (2 ^ C - 1)), .ref 20000, .int (nI (2 ^ C - 1)), .int 2147483647, .int 0, xx_d, xx_d]) O (xx_dt dd_X14_clearNow 18 rfl) (by decide) rfl ?_
  refine sw_for (S := XS9 × Int32 × Int32) (fun i29 s29 => (if s29.2.2 ≤ (x_MclearNow_41 σ C s29 i29 0) then (s29.1, s29.2.1, s29.2.2) else (if (f_Mcp s29.1 ((nI (2 ^ C - 1)) &&& ((nI i29) ^^^ (-1))) 0 C rg 20000 ch) = 0 then (g_Mcp s29.1 ((nI (2 ^ C - 1)) &&& ((nI i29) ^^^ (-1))) 0 C rg 20000 ch, s29.2.1, s29.2.2) else (g_Mcp s29.1 ((nI (2 ^ C - 1)) &&& ((nI i29) ^^^ (-1))) 0 C rg 20000 ch, nI i29, (x_MclearNow_41 σ C s29 i29 0))))) (fun _ s29 => s29.1 20000 20 = nI 1 ∧ s29.1 20000 21 = nI ch ∧ (∀ q, q ≠ 20000 → s29.1 q = (uR σ 20000 (rowN ch)) q)) (hp := fun s29 => setM z s29.1 h) (hd := 29) (lc := fun i29 s29 => [.ref 5000, .int (nI ch), .int (nI (2 ^ C - 1)), .ref 20000, .int s29.2.1, .int s29.2.2, .int (nI i29), xx_d, xx_d]) (N := (2 ^ C)) (fun i29 s29 hi29 hP29 => ⟨(by (try dsimp only); (repeat' split) <;> (refine ⟨?_, ?_, ?_⟩ <;> (first | exact hP29.1 | exact hP29.2.1 | exact hP29.2.2 | exact (by (try dsimp only); rw [(fl_Mcp (by omega)).1]; exact hP29.1) | exact (by (try dsimp only); rw [(fl_Mcp (by omega)).2]; exact hP29.2.1) | exact (fun q9 hq9 => by (try dsimp only); rw [fr_Mcp ⟨hq9, by omega⟩]; exact hP29.2.2 q9 hq9) | exact (fun q9 hq9 => by (simp (disch := omega) only [u2_ne, uR_ne, fr_fill, fr_Ctake]); exact hP29.2.2 q9 hq9) | exact hi29 | exact .inl rfl | exact .inr rfl | (simp (disch := omega) only [u2_ne, uR_ne, fr_fill, fr_Ctake]; first | exact hP29.1 | exact hP29.2.1 | exact hP29.2.2 | exact (by (try dsimp only); rw [(fl_Mcp (by omega)).1]; exact hP29.1) | exact (by (try dsimp only); rw [(fl_Mcp (by omega)).2]; exact hP29.2.1) | exact (fun q9 hq9 => by (try dsimp only); rw [fr_Mcp ⟨hq9, by omega⟩]; exact hP29.2.2 q9 hq9) | exact (fun q9 hq9 => by (simp (disch := omega) only [u2_ne, uR_ne, fr_fill, fr_Ctake]); exact hP29.2.2 q9 hq9))))), fun kk29 => ?_⟩) (2 ^ C) 0 (uR σ 20000 (rowN ch), nI (2 ^ C - 1), 2147483647) (by omega) (⟨(show (uR σ 20000 (rowN ch)) 20000 20 = nI 1 from tmp20), (show (uR σ 20000 (rowN ch)) 20000 21 = nI ch from tmp21), (fun _ _ => rfl)⟩) (fun hP29 => ?_)
  · refine sw_iload O (xx_dt dd_X14_clearNow 19 rfl) rfl ?_
    refine sw_iload_n O (xx_dt dd_X14_clearNow 20 rfl) rfl ?_
    refine sw_icmp_gt (tgt := 132) O (xx_dt dd_X14_clearNow 21 rfl) (by decide) (fun q1 => ?_) (fun q1 => ?_)
    · exact absurd ((nI_ltI (a := (2 ^ C - 1)) (b := i29) (by omega) (by omega)).mp q1) (by omega)
    · refine sw_iconst (x := 0) O (xx_dt dd_X14_clearNow 22 rfl) (by decide) ?_
      refine sw_istore (ls2 := [.ref 5000, .int (nI ch), .int (nI (2 ^ C - 1)), .ref 20000, .int s29.2.1, .int s29.2.2, .int (nI i29), .int 0, xx_d]) O (xx_dt dd_X14_clearNow 23 rfl) (by decide) rfl ?_
      refine sw_iconst (x := 0) O (xx_dt dd_X14_clearNow 24 rfl) (by decide) ?_
      refine sw_istore (ls2 := [.ref 5000, .int (nI ch), .int (nI (2 ^ C - 1)), .ref 20000, .int s29.2.1, .int s29.2.2, .int (nI i29), .int 0, .int 0]) O (xx_dt dd_X14_clearNow 25 rfl) (by decide) rfl ?_
      refine sw_for (S := Int32) (fun i41 s41 => s41 + ((((nI i29) >>> ((nI i41) &&& 31)) &&& 1) * (σ 5004 (2 * i41 + 1)))) (fun _ _ => True) (hp := fun _ => setM z s29.1 h) (hd := 41) (lc := fun i41 s41 => [.ref 5000, .int (nI ch), .int (nI (2 ^ C - 1)), .ref 20000, .int s29.2.1, .int s29.2.2, .int (nI i29), .int s41, .int (nI i41)]) (N := C) (fun i41 s41 hi41 hP41 => ⟨trivial, fun kk41 => ?_⟩) C 0 0 (by omega) (trivial) (fun hP41 => ?_)
      · refine sw_iload O (xx_dt dd_X14_clearNow 26 rfl) rfl ?_
        refine sw_aload_n O (xx_dt dd_X14_clearNow 27 rfl) rfl ?_
        refine sw_get (v := .ref 5004) O (xx_dt dd_X14_clearNow 28 rfl) cl_X14 fl_X14_33 (lm_mod (σ := s29.1)) (by decide) rfl ?_
        refine sw_callVL (ci := 6) (as := []) (st := [.int (nI i41)]) (st2 := [.int (nI (2 * C)), .int (nI i41)]) O (ct_AL_size hl (lm_5004 (σ := s29.1) (S := 2 * C) ((congrFun (hP29.2.2 _ (by omega)) 900).trans hS) (by omega))) ce_Jx4a65c_size_8abf5 ml_X14_57 iv_Jx4a65c_size_8abf5 cl_Jx4a65c rfl (lm_5004 (σ := s29.1) (S := 2 * C) ((congrFun (hP29.2.2 _ (by omega)) 900).trans hS) (by omega)) (xx_dt dd_X14_clearNow 29 rfl) (by omega) rfl rfl (Nat.le_of_ble_eq_true rfl) rfl ?_
        refine sw_iconst (x := 2) O (xx_dt dd_X14_clearNow 30 rfl) (by decide) ?_
        refine sw_idiv O (xx_dt dd_X14_clearNow 31 rfl) (by first | decide | assumption) ?_
        have hx51 := trivial
        rw [nI_half (by omega)]
        refine sw_icmp_ge (tgt := 93) O (xx_dt dd_X14_clearNow 32 rfl) (by decide) (fun q2 => ?_) (fun q2 => ?_)
        · exact absurd q2 (nI_ge (b := C) hi41 (by omega))
        · refine sw_iload O (xx_dt dd_X14_clearNow 33 rfl) rfl ?_
          refine sw_iload O (xx_dt dd_X14_clearNow 34 rfl) rfl ?_
          refine sw_iload O (xx_dt dd_X14_clearNow 35 rfl) rfl ?_
          refine sw_ishr O (xx_dt dd_X14_clearNow 36 rfl) ?_
          refine sw_iconst (x := 1) O (xx_dt dd_X14_clearNow 37 rfl) (by decide) ?_
          refine sw_iand O (xx_dt dd_X14_clearNow 38 rfl) ?_
          refine sw_aload_n O (xx_dt dd_X14_clearNow 39 rfl) rfl ?_
          refine sw_get (v := .ref 5004) O (xx_dt dd_X14_clearNow 40 rfl) cl_X14 fl_X14_33 (lm_mod (σ := s29.1)) (by decide) rfl ?_
          refine sw_iconst (x := 2) O (xx_dt dd_X14_clearNow 41 rfl) (by decide) ?_
          refine sw_iload O (xx_dt dd_X14_clearNow 42 rfl) rfl ?_
          refine sw_imul O (xx_dt dd_X14_clearNow 43 rfl) ?_
          have hx71 := trivial
          rw [nI_dbl]
          refine sw_iconst (x := 1) O (xx_dt dd_X14_clearNow 44 rfl) (by decide) ?_
          refine sw_iadd O (xx_dt dd_X14_clearNow 45 rfl) ?_
          rw [nI_a1 (2 * i41)]
          refine sw_callVL (ci := 6) (as := [.int (nI (2 * i41 + 1))]) (st := [.int (((nI i29) >>> ((nI i41) &&& 31)) &&& 1), .int s41]) (st2 := [.ref (xx_box (s29.1 5004 (2 * i41 + 1)) (nmS s29.1 (2 * i41 + 1))), .int (((nI i29) >>> ((nI i41) &&& 31)) &&& 1), .int s41]) O (ct_get hl hbs (lm_5004 (σ := s29.1) (S := 2 * C) ((congrFun (hP29.2.2 _ (by omega)) 900).trans hS) (by omega)) (by omega) (i := 2 * i41 + 1) (x := xx_box (s29.1 5004 (2 * i41 + 1)) (nmS s29.1 (2 * i41 + 1))) (by omega) (by omega) rfl) ce_Jx4a65c_get_915e3 ml_X14_61 iv_Jx4a65c_get_915e3 cl_Jx4a65c rfl (lm_5004 (σ := s29.1) (S := 2 * C) ((congrFun (hP29.2.2 _ (by omega)) 900).trans hS) (by omega)) (xx_dt dd_X14_clearNow 46 rfl) (by omega) rfl rfl (Nat.le_of_ble_eq_true rfl) rfl ?_
          refine sw_castO O (xx_dt dd_X14_clearNow 47 rfl) cl_J6 (lm_sbox (σ := s29.1) hbs (S := 2 * C) ((congrFun (hP29.2.2 _ (by omega)) 900).trans hS) (by omega) (k := 2 * i41 + 1) (by omega)) cw_X14_113 ?_
          refine sw_callVx (as := []) (st := [.int (((nI i29) >>> ((nI i41) &&& 31)) &&& 1), .int s41]) (st2 := [.int (σ 5004 (2 * i41 + 1)), .int (((nI i29) >>> ((nI i41) &&& 31)) &&& 1), .int s41]) O (ct_intValue hl (lm_sbox (σ := s29.1) hbs (S := 2 * C) ((congrFun (hP29.2.2 _ (by omega)) 900).trans hS) (by omega) (k := 2 * i41 + 1) (by omega)) (congrArg Value.int (congrFun (hP29.2.2 _ (by omega)) (2 * i41 + 1)))) ce_J6_intValue_8abf5 ml_X14_265 iv_J6_intValue_8abf5 cl_J6 rfl (lm_sbox (σ := s29.1) hbs (S := 2 * C) ((congrFun (hP29.2.2 _ (by omega)) 900).trans hS) (by omega) (k := 2 * i41 + 1) (by omega)) (xx_dt dd_X14_clearNow 48 rfl) (by omega) rfl rfl (Nat.le_of_ble_eq_true rfl) rfl ?_
          refine sw_imul O (xx_dt dd_X14_clearNow 49 rfl) ?_
          refine sw_iadd O (xx_dt dd_X14_clearNow 50 rfl) ?_
          refine sw_istore (ls2 := [.ref 5000, .int (nI ch), .int (nI (2 ^ C - 1)), .ref 20000, .int s29.2.1, .int s29.2.2, .int (nI i29), .int (s41 + ((((nI i29) >>> ((nI i41) &&& 31)) &&& 1) * (σ 5004 (2 * i41 + 1)))), .int (nI i41)]) O (xx_dt dd_X14_clearNow 51 rfl) (by decide) rfl ?_
          refine sw_iinc (y := nI (i41 + 1)) (ls2 := [.ref 5000, .int (nI ch), .int (nI (2 ^ C - 1)), .ref 20000, .int s29.2.1, .int s29.2.2, .int (nI i29), .int (s41 + ((((nI i29) >>> ((nI i41) &&& 31)) &&& 1) * (σ 5004 (2 * i41 + 1)))), .int (nI (i41 + 1))]) O (xx_dt dd_X14_clearNow 52 rfl) rfl (nI_1 _) (by decide) rfl ?_
          refine sw_goto (tgt := 41) O (xx_dt dd_X14_clearNow 53 rfl) (by decide) ?_
          exact kk41
      · show SW Y _ _ (setM z s29.1 h) 41 [.ref 5000, .int (nI ch), .int (nI (2 ^ C - 1)), .ref 20000, .int s29.2.1, .int s29.2.2, .int (nI i29), .int (x_MclearNow_41 σ C s29 i29 0), .int (nI C)] []
        refine sw_iload O (xx_dt dd_X14_clearNow 26 rfl) rfl ?_
        refine sw_aload_n O (xx_dt dd_X14_clearNow 27 rfl) rfl ?_
        refine sw_get (v := .ref 5004) O (xx_dt dd_X14_clearNow 28 rfl) cl_X14 fl_X14_33 (lm_mod (σ := s29.1)) (by decide) rfl ?_
        refine sw_callVL (ci := 6) (as := []) (st := [.int (nI C)]) (st2 := [.int (nI (2 * C)), .int (nI C)]) O (ct_AL_size hl (lm_5004 (σ := s29.1) (S := 2 * C) ((congrFun (hP29.2.2 _ (by omega)) 900).trans hS) (by omega))) ce_Jx4a65c_size_8abf5 ml_X14_57 iv_Jx4a65c_size_8abf5 cl_Jx4a65c rfl (lm_5004 (σ := s29.1) (S := 2 * C) ((congrFun (hP29.2.2 _ (by omega)) 900).trans hS) (by omega)) (xx_dt dd_X14_clearNow 29 rfl) (by omega) rfl rfl (Nat.le_of_ble_eq_true rfl) rfl ?_
        refine sw_iconst (x := 2) O (xx_dt dd_X14_clearNow 30 rfl) (by decide) ?_
        refine sw_idiv O (xx_dt dd_X14_clearNow 31 rfl) (by first | decide | assumption) ?_
        have hx51 := trivial
        rw [nI_half (by omega)]
        refine sw_icmp_ge (tgt := 93) O (xx_dt dd_X14_clearNow 32 rfl) (by decide) (fun q2 => ?_) (fun q2 => ?_)
        · refine sw_iload O (xx_dt dd_X14_clearNow 54 rfl) rfl ?_
          refine sw_iload O (xx_dt dd_X14_clearNow 55 rfl) rfl ?_
          refine sw_icmp_ge (tgt := 126) O (xx_dt dd_X14_clearNow 56 rfl) (by decide) (fun q3 => ?_) (fun q3 => ?_)
          · refine sw_iinc (y := nI (i29 + 1)) (ls2 := [.ref 5000, .int (nI ch), .int (nI (2 ^ C - 1)), .ref 20000, .int s29.2.1, .int s29.2.2, .int (nI (i29 + 1)), .int (x_MclearNow_41 σ C s29 i29 0), .int (nI C)]) O (xx_dt dd_X14_clearNow 72 rfl) rfl (nI_1 _) (by decide) rfl ?_
            refine sw_goto (tgt := 29) O (xx_dt dd_X14_clearNow 73 rfl) (by decide) ?_
            refine sw_dum (ls2 := [.ref 5000, .int (nI ch), .int (nI (2 ^ C - 1)), .ref 20000, .int s29.2.1, .int s29.2.2, .int (nI (i29 + 1)), xx_d, xx_d]) ⟨.inr rfl, .inr rfl, .inr rfl, .inr rfl, .inr rfl, .inr rfl, .inr rfl, .inl rfl, .inl rfl, trivial⟩ ?_
            simp only [if_pos q3] at kk29
            exact kk29
          · refine sw_aload_n O (xx_dt dd_X14_clearNow 57 rfl) rfl ?_
            refine sw_iload_n O (xx_dt dd_X14_clearNow 58 rfl) rfl ?_
            refine sw_iload O (xx_dt dd_X14_clearNow 59 rfl) rfl ?_
            refine sw_iconst (x := (-1)) O (xx_dt dd_X14_clearNow 60 rfl) (by decide) ?_
            refine sw_ixor O (xx_dt dd_X14_clearNow 61 rfl) ?_
            refine sw_iand O (xx_dt dd_X14_clearNow 62 rfl) ?_
            refine sw_iconst (x := 0) O (xx_dt dd_X14_clearNow 63 rfl) (by decide) ?_
            refine sw_aload_n O (xx_dt dd_X14_clearNow 64 rfl) rfl ?_
            refine sw_callVx (as := [.int ((nI (2 ^ C - 1)) &&& ((nI i29) ^^^ (-1))), .int 0, .ref 20000]) (st := []) (st2 := [.int (f_Mcp s29.1 ((nI (2 ^ C - 1)) &&& ((nI i29) ^^^ (-1))) 0 C rg 20000 ch)]) O (ct_X14_canPack hl (z := z) (σ := s29.1) hbs (R := R) ((congrFun (hP29.2.2 _ (by omega)) 900).trans hR) (by omega) (C := C) ((congrFun (hP29.2.2 _ (by omega)) 900).trans hS) (by omega) (rg := rg) (fun j9 hj9 => by rw [show s29.1 5004 = σ 5004 from (hP29.2.2 _ (by omega))]; exact hrg j9 hj9) (qa := 20000) (ch := ch) (by omega) hP29.1 hP29.2.1 (by omega) (x := (nI (2 ^ C - 1)) &&& ((nI i29) ^^^ (-1))) (fr := 0) (by omega)) ce_X14_canPack ml_X14_272 iv_X14_canPack cl_X14 rfl (lm_mod (σ := s29.1)) (xx_dt dd_X14_clearNow 65 rfl) (by omega) rfl rfl (Nat.le_of_ble_eq_true rfl) rfl ?_
            refine sw_if_ne (tgt := 118) O (xx_dt dd_X14_clearNow 66 rfl) (by decide) (fun q4 => ?_) (fun q4 => ?_)
            · refine sw_iload O (xx_dt dd_X14_clearNow 68 rfl) rfl ?_
              refine sw_istore (ls2 := [.ref 5000, .int (nI ch), .int (nI (2 ^ C - 1)), .ref 20000, .int (nI i29), .int s29.2.2, .int (nI i29), .int (x_MclearNow_41 σ C s29 i29 0), .int (nI C)]) O (xx_dt dd_X14_clearNow 69 rfl) (by decide) rfl ?_
              refine sw_iload O (xx_dt dd_X14_clearNow 70 rfl) rfl ?_
              refine sw_istore (ls2 := [.ref 5000, .int (nI ch), .int (nI (2 ^ C - 1)), .ref 20000, .int (nI i29), .int (x_MclearNow_41 σ C s29 i29 0), .int (nI i29), .int (x_MclearNow_41 σ C s29 i29 0), .int (nI C)]) O (xx_dt dd_X14_clearNow 71 rfl) (by decide) rfl ?_
              refine sw_iinc (y := nI (i29 + 1)) (ls2 := [.ref 5000, .int (nI ch), .int (nI (2 ^ C - 1)), .ref 20000, .int (nI i29), .int (x_MclearNow_41 σ C s29 i29 0), .int (nI (i29 + 1)), .int (x_MclearNow_41 σ C s29 i29 0), .int (nI C)]) O (xx_dt dd_X14_clearNow 72 rfl) rfl (nI_1 _) (by decide) rfl ?_
              refine sw_goto (tgt := 29) O (xx_dt dd_X14_clearNow 73 rfl) (by decide) ?_
              refine sw_dum (ls2 := [.ref 5000, .int (nI ch), .int (nI (2 ^ C - 1)), .ref 20000, .int (nI i29), .int (x_MclearNow_41 σ C s29 i29 0), .int (nI (i29 + 1)), xx_d, xx_d]) ⟨.inr rfl, .inr rfl, .inr rfl, .inr rfl, .inr rfl, .inr rfl, .inr rfl, .inl rfl, .inl rfl, trivial⟩ ?_
              simp only [if_neg q3, if_neg q4] at kk29
              exact kk29
            · refine sw_goto (tgt := 126) O (xx_dt dd_X14_clearNow 67 rfl) (by decide) ?_
              refine sw_iinc (y := nI (i29 + 1)) (ls2 := [.ref 5000, .int (nI ch), .int (nI (2 ^ C - 1)), .ref 20000, .int s29.2.1, .int s29.2.2, .int (nI (i29 + 1)), .int (x_MclearNow_41 σ C s29 i29 0), .int (nI C)]) O (xx_dt dd_X14_clearNow 72 rfl) rfl (nI_1 _) (by decide) rfl ?_
              refine sw_goto (tgt := 29) O (xx_dt dd_X14_clearNow 73 rfl) (by decide) ?_
              refine sw_dum (ls2 := [.ref 5000, .int (nI ch), .int (nI (2 ^ C - 1)), .ref 20000, .int s29.2.1, .int s29.2.2, .int (nI (i29 + 1)), xx_d, xx_d]) ⟨.inr rfl, .inr rfl, .inr rfl, .inr rfl, .inr rfl, .inr rfl, .inr rfl, .inl rfl, .inl rfl, trivial⟩ ?_
              simp only [if_neg q3, if_pos q4] at kk29
              exact kk29
        · exact absurd (Int32.le_refl _) q2
  · show SW Y _ _ (setM z ((x_MclearNow_29 σ ch C rg (uR σ 20000 (rowN ch), nI (2 ^ C - 1), 2147483647)).1) h) 29 [.ref 5000, .int (nI ch), .int (nI (2 ^ C - 1)), .ref 20000, .int ((x_MclearNow_29 σ ch C rg (uR σ 20000 (rowN ch), nI (2 ^ C - 1), 2147483647)).2.1), .int ((x_MclearNow_29 σ ch C rg (uR σ 20000 (rowN ch), nI (2 ^ C - 1), 2147483647)).2.2), .int (nI ((2 ^ C))), xx_d, xx_d] []
    have hP29 : ((x_MclearNow_29 σ ch C rg (uR σ 20000 (rowN ch), nI (2 ^ C - 1), 2147483647)).1) 20000 20 = nI 1 ∧ ((x_MclearNow_29 σ ch C rg (uR σ 20000 (rowN ch), nI (2 ^ C - 1), 2147483647)).1) 20000 21 = nI ch ∧ (∀ q, q ≠ 20000 → (x_MclearNow_29 σ ch C rg (uR σ 20000 (rowN ch), nI (2 ^ C - 1), 2147483647)).1 q = (uR σ 20000 (rowN ch)) q) := hP29
    refine sw_iload O (xx_dt dd_X14_clearNow 19 rfl) rfl ?_
    refine sw_iload_n O (xx_dt dd_X14_clearNow 20 rfl) rfl ?_
    refine sw_icmp_gt (tgt := 132) O (xx_dt dd_X14_clearNow 21 rfl) (by decide) (fun q1 => ?_) (fun q1 => ?_)
    · refine sw_iload O (xx_dt dd_X14_clearNow 74 rfl) rfl ?_
      have me9 : mem_eq σ (u2 ((x_MclearNow_29 σ ch C rg (uR σ 20000 (rowN ch), nI (2 ^ C - 1), 2147483647)).1) 20000 20 0) := (mem_eq.frame (τ0 := σ) hme (fun q h1 h2 h3 => by simp (disch := omega) only [u2_ne, uR_ne, fr_Cinit, fr_Cpay1, fr_Cpay2, fr_Mcp, fr_McN]) (by (simp (disch := omega) only [u2_ne, uR_ne, fr_Cinit, fr_Cpay1, fr_Cpay2, fr_Mcp, fr_McN]); exact hme.2.1.1.1) (fun q h1 h2 => by by_cases e0 : q = 20000; (subst e0; rfl); ((simp (disch := omega) only [u2_ne, uR_ne, fr_Cinit, fr_Cpay1, fr_Cpay2, fr_Mcp, fr_McN]; exact (hme.2.2 q h1 h2).1))))
      exact sw_iretD (h' := setM z (u2 ((x_MclearNow_29 σ ch C rg (uR σ 20000 (rowN ch), nI (2 ^ C - 1), 2147483647)).1) 20000 20 0) h) O (xx_dt dd_X14_clearNow 75 rfl) rfl rfl (dropT (by omega) hfr) (me9.cls hcl) (by rw [hh]; exact fun r hr => me9.dom hr) (by rw [hQ]; exact ⟨by unfold f_MclearNow; rfl, by unfold g_MclearNow; rfl⟩)
    · exact absurd (nI_lt (a := (2 ^ C - 1)) (b := (2 ^ C)) (by omega) (by omega)) q1
theorem fr_MclearNow {σ : XS9} {ch R C : Nat} {rg : Nat → Nat} {q : Nat} (h : q ≠ 20000 ∧ ch ≤ 6) : g_MclearNow σ ch R C rg q = σ q := by
  unfold g_MclearNow
  simp (disch := omega) only [u2_ne, uR_ne, fr_McN]
theorem mem_eq.refl {σ τ : XS9} (h : mem_eq σ τ) : mem_eq τ τ := ⟨fun _ _ _ _ _ => rfl, ⟨⟨h.2.1.1.1, h.2.1.1.1⟩, h.2.1.2.1, h.2.1.2.1⟩, fun q h1 h2 => ⟨(h.2.2 q h1 h2).1, (h.2.2 q h1 h2).1⟩⟩
def f_Mclear (σ : XS9) (x : Int32) (R C : Nat) (rg : Nat → Nat) : Int32 := (if n_bt x 1 6 then f_MclearNow (u2 σ 5000 0 0) (cn x) R C rg else 0)
def g_Mclear (σ : XS9) (x : Int32) (R C : Nat) (rg : Nat → Nat) : XS9 := (if n_bt x 1 6 then g_MclearNow (u2 σ 5000 0 0) (cn x) R C rg else u2 (u2 σ 5000 0 0) 5000 0 1)
theorem ct_X14_clear {l : Launch} {h : XH} (hl : l.stackTraces = false) {z : Int64} {σ : XS9} (hbs : xx_bs h) (hfr : ∀ r, 5000 ≤ r → r < 20010 → h r = none) (hme : mem_eq σ σ) {R : Nat} (hR : σ 5001 900 = nI R) (hR5 : R ≤ 5) {C : Nat} (hS : σ 5004 900 = nI (2 * C)) (hC10 : C ≤ 10) {rg : Nat → Nat} (hrg : ∀ q, q < C → σ 5004 (2 * q) = nI (rg q) ∧ rg q < R) {x : Int32} : XEx l m_X14_clear 19 1 6 [.ref 5000, .int x] (setM z σ h) (some (.int (f_Mclear σ x R C rg))) (setM z (g_Mclear σ x R C rg) h) := by
  refine XMet.of hl rfl rfl (Nat.le_of_ble_eq_true rfl) (fun Y O hh hQ => ?_)
  show SW Y 1 6 (setM z σ h) 0 [.ref 5000, .int x] []
  refine sw_aload_n O (xx_dt dd_X14_clear 0 rfl) rfl ?_
  refine sw_iconst (x := 0) O (xx_dt dd_X14_clear 1 rfl) (by decide) ?_
  refine sw_put (h2 := setM z (u2 σ 5000 0 0) h) O (xx_dt dd_X14_clear 2 rfl) cl_X14 fl_X14_46 (lm_mod (σ := σ)) (by decide) (by omega) rfl (fun _ => ⟨rfl, rfl⟩) (pm_mod (σ := σ) (by omega)) ?_
  refine sw_iload_n O (xx_dt dd_X14_clear 3 rfl) rfl ?_
  refine sw_iconst (x := 1) O (xx_dt dd_X14_clear 4 rfl) (by decide) ?_
  refine sw_bipush (x := 6) O (xx_dt dd_X14_clear 5 rfl) (by decide) ?_
  refine sw_callSx (as := [.int x, .int 1, .int 6]) (st := []) (st2 := [.int (bZ (n_bt x 1 6))]) O (ct_X14_is hl) ce_X14_is ml_X14_70 st_X14_is (xx_dt dd_X14_clear 6 rfl) (by omega) rfl rfl (Nat.le_of_ble_eq_true rfl) rfl ?_
  refine sw_if_eqB (tgt := 23) O (xx_dt dd_X14_clear 7 rfl) (by decide) (fun q1 => ?_) (fun q1 => ?_)
  · refine sw_aload_n O (xx_dt dd_X14_clear 12 rfl) rfl ?_
    refine sw_iconst (x := 1) O (xx_dt dd_X14_clear 13 rfl) (by decide) ?_
    refine sw_callVx (as := [.int 1]) (st := []) (st2 := [.int 0]) O (ct_X14_refuse hl (z := z) (σ := u2 σ 5000 0 0) hbs (x := 1)) ce_X14_refuse ml_X14_74 iv_X14_refuse cl_X14 rfl (lm_mod (σ := u2 σ 5000 0 0)) (xx_dt dd_X14_clear 14 rfl) (by omega) rfl rfl (Nat.le_of_ble_eq_true rfl) rfl ?_
    exact sw_iret O (xx_dt dd_X14_clear 15 rfl) rfl rfl (by rw [hQ]; exact ⟨by unfold f_Mclear; simp only [if_neg q1], by unfold g_Mclear; simp only [if_neg q1]⟩)
  · have hc12 := (bt_nat 6 q1 (by decide) rfl (by decide))
    refine sw_lsE (ls2 := [.ref 5000, .int (nI (cn x))]) (by rw [← hc12.1]) ?_
    have hd12 := hc12.2
    refine sw_aload_n O (xx_dt dd_X14_clear 8 rfl) rfl ?_
    refine sw_iload_n O (xx_dt dd_X14_clear 9 rfl) rfl ?_
    refine sw_callVx (as := [.int (nI (cn x))]) (st := []) (st2 := [.int (f_MclearNow (u2 σ 5000 0 0) (cn x) R C rg)]) O (ct_X14_clearNow hl (z := z) (σ := u2 σ 5000 0 0) hbs hfr (mem_eq.refl (mem_eq.int (r := 5000) (i := 0) (x := 0) hme rfl)) (R := R) hR (by omega) (C := C) hS (by omega) (rg := rg) hrg (ch := cn x) (by omega)) ce_X14_clearNow ml_X14_287 iv_X14_clearNow cl_X14 rfl (lm_mod (σ := u2 σ 5000 0 0)) (xx_dt dd_X14_clear 10 rfl) (by omega) rfl rfl (Nat.le_of_ble_eq_true rfl) rfl ?_
    refine sw_goto (tgt := 28) O (xx_dt dd_X14_clear 11 rfl) (by decide) ?_
    exact sw_iret O (xx_dt dd_X14_clear 15 rfl) rfl rfl (by rw [hQ]; exact ⟨by unfold f_Mclear; simp only [if_pos q1], by unfold g_Mclear; simp only [if_pos q1]⟩)
end
