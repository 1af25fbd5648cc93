/-! ===== the reference: wishes, signals, stations ===== -/
def f_Mwish (σ : XS9) (x y v : Int32) (R B g : Nat) : Int32 := (if n_lt x B then (if n_lt y R then (if n_bt v 0 5 then (if (σ 5000 1) = 1 then (if (f_McanWish (u2 σ 5000 0 0) (cn x) (cn y) v R B g) = 0 then 0 else f_Mpoints (u2 (u2 σ 5000 0 0) (7000 + 500 + g) (cn x) (f_with (σ (7000 + 500 + g) (cn x)) (cn y) v)) (f_with (σ (7000 + 500 + g) (cn x)) (cn y) v) R) else 0) else 0) else 0) else 0)
def g_Mwish (σ : XS9) (x y v : Int32) (R B g : Nat) : XS9 := (if n_lt x B then (if n_lt y R then (if n_bt v 0 5 then (if (σ 5000 1) = 1 then (if (f_McanWish (u2 σ 5000 0 0) (cn x) (cn y) v R B g) = 0 then u2 (u2 σ 5000 0 0) 5000 0 3 else u2 (u2 σ 5000 0 0) (7000 + 500 + g) (cn x) (f_with (σ (7000 + 500 + g) (cn x)) (cn y) v)) else u2 (u2 σ 5000 0 0) 5000 0 3) else u2 (u2 σ 5000 0 0) 5000 0 2) else u2 (u2 σ 5000 0 0) 5000 0 1) else u2 (u2 σ 5000 0 0) 5000 0 1)
theorem ct_X14_wish {l : Launch} {h : XH} (hl : l.stackTraces = false) {z : Int64} {σ : XS9} (hbs : xx_bs h) {R : Nat} (hR : σ 5001 900 = nI R) (hR5 : R ≤ 5) {B : Nat} (hB : σ 5002 900 = nI B) (hB6 : B ≤ 6) (hst : σ 5000 1 = 1 → σ 7000 25 = nI 1 ∧ σ 7000 20 = nI 1) {g : Nat} (hg : σ 7000 23 = nI g) (hg1 : g < 200) {w : Nat} (hw : σ 7000 24 = nI w) (hw1 : w < 200) {x y v : Int32}  : XEx l m_X14_wish 5 0 0 [.ref 5000, .int x, .int y, .int v] (setM z σ h) (some (.int (f_Mwish σ x y v R B g))) (setM z (g_Mwish σ x y v R B g) h) := by
  refine XMet.of hl rfl rfl (Nat.le_of_ble_eq_true rfl) (fun Y O hh hQ => ?_)
  show SW Y 0 0 (setM z σ h) 0 [.ref 5000, .int x, .int y, .int v] []
  refine sw_aload_n O (xx_dt dd_X14_wish 0 rfl) rfl ?_
  refine sw_iconst (x := 0) O (xx_dt dd_X14_wish 1 rfl) (by decide) ?_
  refine sw_put (h2 := setM z (u2 σ 5000 0 0) h) O (xx_dt dd_X14_wish 2 rfl) cl_X14 fl_X14_46 (lm_mod (σ := σ)) (by decide) (by omega) rfl (fun _ => ⟨rfl, rfl⟩) (pm_mod (σ := σ) (by omega)) ?_
  refine sw_aload_n O (xx_dt dd_X14_wish 3 rfl) rfl ?_
  refine sw_iload_n O (xx_dt dd_X14_wish 4 rfl) rfl ?_
  refine sw_callVx (as := [.int x]) (st := []) (st2 := [.int (bZ (n_lt x B))]) O (ct_X14_isBidder hl (z := z) (σ := u2 σ 5000 0 0) hbs (B := B) hB (by omega) (x := x)) ce_X14_isBidder ml_X14_156 iv_X14_isBidder cl_X14 rfl (lm_mod (σ := u2 σ 5000 0 0)) (xx_dt dd_X14_wish 5 rfl) (by decide) rfl rfl (Nat.le_of_ble_eq_true rfl) rfl ?_
  refine sw_if_eqB (tgt := 21) O (xx_dt dd_X14_wish 6 rfl) (by decide) (fun q1 => ?_) (fun q1 => ?_)
  · refine sw_aload_n O (xx_dt dd_X14_wish 11 rfl) rfl ?_
    refine sw_iconst (x := 1) O (xx_dt dd_X14_wish 12 rfl) (by decide) ?_
    refine sw_callVx (as := [.int 1]) (st := []) (st2 := [.int 0]) O (ct_X14_refuse hl (z := z) (σ := u2 σ 5000 0 0) hbs (x := 1)) ce_X14_refuse ml_X14_74 iv_X14_refuse cl_X14 rfl (lm_mod (σ := u2 σ 5000 0 0)) (xx_dt dd_X14_wish 13 rfl) (by decide) rfl rfl (Nat.le_of_ble_eq_true rfl) rfl ?_
    exact sw_iret O (xx_dt dd_X14_wish 14 rfl) rfl rfl (by rw [hQ]; exact ⟨by unfold f_Mwish; simp only [if_neg q1], by unfold g_Mwish; simp only [if_neg q1]⟩)
  · have hc10 := q1
    refine sw_lsE (ls2 := [.ref 5000, .int (nI (cn x)), .int y, .int v]) (by rw [← hc10.1]) ?_
    have hd10 := hc10.2
    refine sw_aload_n O (xx_dt dd_X14_wish 7 rfl) rfl ?_
    refine sw_iload_n O (xx_dt dd_X14_wish 8 rfl) rfl ?_
    refine sw_callVx (as := [.int y]) (st := []) (st2 := [.int (bZ (n_lt y R))]) O (ct_X14_isRegion hl (z := z) (σ := u2 σ 5000 0 0) hbs (R := R) hR (by omega) (x := y)) ce_X14_isRegion ml_X14_91 iv_X14_isRegion cl_X14 rfl (lm_mod (σ := u2 σ 5000 0 0)) (xx_dt dd_X14_wish 9 rfl) (by decide) rfl rfl (Nat.le_of_ble_eq_true rfl) rfl ?_
    refine sw_if_neB (tgt := 27) O (xx_dt dd_X14_wish 10 rfl) (by decide) (fun q2 => ?_) (fun q2 => ?_)
    · have hc18 := q2
      refine sw_lsE (ls2 := [.ref 5000, .int (nI (cn x)), .int (nI (cn y)), .int v]) (by rw [← hc18.1]) ?_
      have hd18 := hc18.2
      refine sw_iload_n O (xx_dt dd_X14_wish 15 rfl) rfl ?_
      refine sw_iconst (x := 0) O (xx_dt dd_X14_wish 16 rfl) (by decide) ?_
      refine sw_iconst (x := 5) O (xx_dt dd_X14_wish 17 rfl) (by decide) ?_
      refine sw_callSx (as := [.int v, .int 0, .int 5]) (st := []) (st2 := [.int (bZ (n_bt v 0 5))]) O (ct_X14_is hl) ce_X14_is ml_X14_70 st_X14_is (xx_dt dd_X14_wish 18 rfl) (by decide) rfl rfl (Nat.le_of_ble_eq_true rfl) rfl ?_
      refine sw_if_neB (tgt := 42) O (xx_dt dd_X14_wish 19 rfl) (by decide) (fun q3 => ?_) (fun q3 => ?_)
      · refine sw_aload_n O (xx_dt dd_X14_wish 24 rfl) rfl ?_
        refine sw_get (v := .int (σ 5000 1)) O (xx_dt dd_X14_wish 25 rfl) cl_X14 fl_X14_77 (lm_mod (σ := u2 σ 5000 0 0)) (by decide) rfl ?_
        refine sw_iconst (x := 1) O (xx_dt dd_X14_wish 26 rfl) (by decide) ?_
        refine sw_icmp_ne (tgt := 60) O (xx_dt dd_X14_wish 27 rfl) (by decide) (fun q4 => ?_) (fun q4 => ?_)
        · refine sw_aload_n O (xx_dt dd_X14_wish 34 rfl) rfl ?_
          refine sw_iconst (x := 3) O (xx_dt dd_X14_wish 35 rfl) (by decide) ?_
          refine sw_callVx (as := [.int 3]) (st := []) (st2 := [.int 0]) O (ct_X14_refuse hl (z := z) (σ := u2 σ 5000 0 0) hbs (x := 3)) ce_X14_refuse ml_X14_74 iv_X14_refuse cl_X14 rfl (lm_mod (σ := u2 σ 5000 0 0)) (xx_dt dd_X14_wish 36 rfl) (by decide) rfl rfl (Nat.le_of_ble_eq_true rfl) rfl ?_
          exact sw_iret O (xx_dt dd_X14_wish 37 rfl) rfl rfl (by rw [hQ]; exact ⟨by unfold f_Mwish; simp only [if_pos q1, if_pos q2, if_pos q3, if_neg q4], by unfold g_Mwish; simp only [if_pos q1, if_pos q2, if_pos q3, if_neg q4]⟩)
        · refine sw_aload_n O (xx_dt dd_X14_wish 28 rfl) rfl ?_
          refine sw_iload_n O (xx_dt dd_X14_wish 29 rfl) rfl ?_
          refine sw_iload_n O (xx_dt dd_X14_wish 30 rfl) rfl ?_
          refine sw_iload_n O (xx_dt dd_X14_wish 31 rfl) rfl ?_
          refine sw_callVx (as := [.int (nI (cn x)), .int (nI (cn y)), .int v]) (st := []) (st2 := [.int (f_McanWish (u2 σ 5000 0 0) (cn x) (cn y) v R B g)]) O (ct_X14_canWish hl (z := z) (σ := u2 σ 5000 0 0) hbs (R := R) hR (by omega) (B := B) hB (by omega) (hst (by assumption)).2 (hst (by assumption)).1 (g := g) hg (by omega) (w := w) hw (by omega) (i := cn x) (r := cn y) (y := v) (by omega) (by omega)) ce_X14_canWish ml_X14_159 iv_X14_canWish cl_X14 rfl (lm_modC (σ := u2 σ 5000 0 0) (fl1 (hst (by assumption)).1)) (xx_dt dd_X14_wish 32 rfl) (by decide) rfl rfl (Nat.le_of_ble_eq_true rfl) rfl ?_
          refine sw_if_ne (tgt := 66) O (xx_dt dd_X14_wish 33 rfl) (by decide) (fun q5 => ?_) (fun q5 => ?_)
          · refine sw_aload_n O (xx_dt dd_X14_wish 38 rfl) rfl ?_
            refine sw_get (v := .ref 7000) O (xx_dt dd_X14_wish 39 rfl) cl_X14 fl_X14_141 (lm_modC (σ := u2 σ 5000 0 0) (fl1 (hst (by assumption)).1)) (by decide) rfl ?_
            refine sw_get (v := .ref (7000 + 500 + g)) O (xx_dt dd_X14_wish 40 rfl) cl_X11 fl_X14_145 (lm_clk (σ := u2 σ 5000 0 0) (b := 7000) (.inl rfl) (fl1 (hst (by assumption)).2) (g := g) hg (by omega) (w := w) hw (by omega)) (by decide) rfl ?_
            refine sw_iload_n O (xx_dt dd_X14_wish 41 rfl) rfl ?_
            refine sw_aload_n O (xx_dt dd_X14_wish 42 rfl) rfl ?_
            refine sw_get (v := .ref 7000) O (xx_dt dd_X14_wish 43 rfl) cl_X14 fl_X14_141 (lm_modC (σ := u2 σ 5000 0 0) (fl1 (hst (by assumption)).1)) (by decide) rfl ?_
            refine sw_get (v := .ref (7000 + 500 + g)) O (xx_dt dd_X14_wish 44 rfl) cl_X11 fl_X14_145 (lm_clk (σ := u2 σ 5000 0 0) (b := 7000) (.inl rfl) (fl1 (hst (by assumption)).2) (g := g) hg (by omega) (w := w) hw (by omega)) (by decide) rfl ?_
            refine sw_iload_n O (xx_dt dd_X14_wish 45 rfl) rfl ?_
            refine sw_iaload (v := .int (σ (7000 + 500 + g) (cn x))) O (xx_dt dd_X14_wish 46 rfl) ((im_wsh (z := z) (σ := u2 σ 5000 0 0) (b := 7000) (.inl rfl) (hst (by assumption)).2 (g := g) hg (by omega) (j := g) (by omega)).get _) (pk_in (cn x) _ (by omega)) (by rw [nI_clamp (by omega)]; exact (congrArg Value.int (congrFun (u2_ne (by omega)) (cn x)))) ?_
            refine sw_iload_n O (xx_dt dd_X14_wish 47 rfl) rfl ?_
            refine sw_iload_n O (xx_dt dd_X14_wish 48 rfl) rfl ?_
            refine sw_callSx (as := [.int (σ (7000 + 500 + g) (cn x)), .int (nI (cn y)), .int v]) (st := [.int (nI (cn x)), .ref (7000 + 500 + g)]) (st2 := [.int (f_with (σ (7000 + 500 + g) (cn x)) (cn y) v), .int (nI (cn x)), .ref (7000 + 500 + g)]) O (ct_X14_with hl (c := σ (7000 + 500 + g) (cn x)) (r := cn y) (m := v) (by omega)) ce_X14_with ml_X14_148 st_X14_with (xx_dt dd_X14_wish 49 rfl) (by decide) rfl rfl (Nat.le_of_ble_eq_true rfl) rfl ?_
            refine sw_iastore (h2 := setM z (u2 (u2 σ 5000 0 0) (7000 + 500 + g) (cn x) (f_with (σ (7000 + 500 + g) (cn x)) (cn y) v)) h) O (xx_dt dd_X14_wish 50 rfl) ((im_wsh (z := z) (σ := u2 σ 5000 0 0) (b := 7000) (.inl rfl) (hst (by assumption)).2 (g := g) hg (by omega) (j := g) (by omega)).get _) (pk_in (cn x) _ (by omega)) (by omega) (by rw [nI_clamp (by omega)]; exact ((im_wsh (z := z) (σ := u2 σ 5000 0 0) (b := 7000) (.inl rfl) (hst (by assumption)).2 (g := g) hg (by omega) (j := g) (by omega)).put (by omega))) ?_
            refine sw_aload_n O (xx_dt dd_X14_wish 51 rfl) rfl ?_
            refine sw_aload_n O (xx_dt dd_X14_wish 52 rfl) rfl ?_
            refine sw_get (v := .ref 7000) O (xx_dt dd_X14_wish 53 rfl) cl_X14 fl_X14_141 (lm_modC (σ := u2 (u2 σ 5000 0 0) (7000 + 500 + g) (cn x) (f_with (σ (7000 + 500 + g) (cn x)) (cn y) v)) (fl1 ((congrFun (u2_ne (by omega)) 25).trans (hst (by assumption)).1))) (by decide) rfl ?_
            refine sw_get (v := .ref (7000 + 500 + g)) O (xx_dt dd_X14_wish 54 rfl) cl_X11 fl_X14_145 (lm_clk (σ := u2 (u2 σ 5000 0 0) (7000 + 500 + g) (cn x) (f_with (σ (7000 + 500 + g) (cn x)) (cn y) v)) (b := 7000) (.inl rfl) (fl1 ((congrFun (u2_ne (by omega)) 20).trans (hst (by assumption)).2)) (g := g) ((congrFun (u2_ne (by omega)) 23).trans hg) (by omega) (w := w) ((congrFun (u2_ne (by omega)) 24).trans hw) (by omega)) (by decide) rfl ?_
            refine sw_iload_n O (xx_dt dd_X14_wish 55 rfl) rfl ?_
            refine sw_iaload (v := .int (f_with (σ (7000 + 500 + g) (cn x)) (cn y) v)) O (xx_dt dd_X14_wish 56 rfl) ((im_wsh (z := z) (σ := u2 (u2 σ 5000 0 0) (7000 + 500 + g) (cn x) (f_with (σ (7000 + 500 + g) (cn x)) (cn y) v)) (b := 7000) (.inl rfl) ((congrFun (u2_ne (by omega)) 20).trans (hst (by assumption)).2) (g := g) ((congrFun (u2_ne (by omega)) 23).trans hg) (by omega) (j := g) (by omega)).get _) (pk_in (cn x) _ (by omega)) (by rw [nI_clamp (by omega)]; exact (congrArg Value.int u2_at)) ?_
            refine sw_callVx (as := [.int (f_with (σ (7000 + 500 + g) (cn x)) (cn y) v)]) (st := []) (st2 := [.int (f_Mpoints (u2 (u2 σ 5000 0 0) (7000 + 500 + g) (cn x) (f_with (σ (7000 + 500 + g) (cn x)) (cn y) v)) (f_with (σ (7000 + 500 + g) (cn x)) (cn y) v) R)]) O (ct_X14_points hl (z := z) (σ := u2 (u2 σ 5000 0 0) (7000 + 500 + g) (cn x) (f_with (σ (7000 + 500 + g) (cn x)) (cn y) v)) hbs (R := R) ((congrFun (u2_ne (by omega)) 900).trans hR) (by omega) (c := f_with (σ (7000 + 500 + g) (cn x)) (cn y) v)) ce_X14_points ml_X14_152 iv_X14_points cl_X14 rfl (lm_modC (σ := u2 (u2 σ 5000 0 0) (7000 + 500 + g) (cn x) (f_with (σ (7000 + 500 + g) (cn x)) (cn y) v)) (fl1 ((congrFun (u2_ne (by omega)) 25).trans (hst (by assumption)).1))) (xx_dt dd_X14_wish 57 rfl) (by decide) rfl rfl (Nat.le_of_ble_eq_true rfl) rfl ?_
            exact sw_iret O (xx_dt dd_X14_wish 58 rfl) rfl rfl (by rw [hQ]; exact ⟨by unfold f_Mwish; simp only [if_pos q1, if_pos q2, if_pos q3, if_pos q4, if_neg q5], by unfold g_Mwish; simp only [if_pos q1, if_pos q2, if_pos q3, if_pos q4, if_neg q5]⟩)
          · refine sw_aload_n O (xx_dt dd_X14_wish 34 rfl) rfl ?_
            refine sw_iconst (x := 3) O (xx_dt dd_X14_wish 35 rfl) (by decide) ?_
            refine sw_callVx (as := [.int 3]) (st := []) (st2 := [.int 0]) O (ct_X14_refuse hl (z := z) (σ := u2 σ 5000 0 0) hbs (x := 3)) ce_X14_refuse ml_X14_74 iv_X14_refuse cl_X14 rfl (lm_mod (σ := u2 σ 5000 0 0)) (xx_dt dd_X14_wish 36 rfl) (by decide) rfl rfl (Nat.le_of_ble_eq_true rfl) rfl ?_
            exact sw_iret O (xx_dt dd_X14_wish 37 rfl) rfl rfl (by rw [hQ]; exact ⟨by unfold f_Mwish; simp only [if_pos q1, if_pos q2, if_pos q3, if_pos q4, if_pos q5], by unfold g_Mwish; simp only [if_pos q1, if_pos q2, if_pos q3, if_pos q4, if_pos q5]⟩)
      · refine sw_aload_n O (xx_dt dd_X14_wish 20 rfl) rfl ?_
        refine sw_iconst (x := 2) O (xx_dt dd_X14_wish 21 rfl) (by decide) ?_
        refine sw_callVx (as := [.int 2]) (st := []) (st2 := [.int 0]) O (ct_X14_refuse hl (z := z) (σ := u2 σ 5000 0 0) hbs (x := 2)) ce_X14_refuse ml_X14_74 iv_X14_refuse cl_X14 rfl (lm_mod (σ := u2 σ 5000 0 0)) (xx_dt dd_X14_wish 22 rfl) (by decide) rfl rfl (Nat.le_of_ble_eq_true rfl) rfl ?_
        exact sw_iret O (xx_dt dd_X14_wish 23 rfl) rfl rfl (by rw [hQ]; exact ⟨by unfold f_Mwish; simp only [if_pos q1, if_pos q2, if_neg q3], by unfold g_Mwish; simp only [if_pos q1, if_pos q2, if_neg q3]⟩)
    · refine sw_aload_n O (xx_dt dd_X14_wish 11 rfl) rfl ?_
      refine sw_iconst (x := 1) O (xx_dt dd_X14_wish 12 rfl) (by decide) ?_
      refine sw_callVx (as := [.int 1]) (st := []) (st2 := [.int 0]) O (ct_X14_refuse hl (z := z) (σ := u2 σ 5000 0 0) hbs (x := 1)) ce_X14_refuse ml_X14_74 iv_X14_refuse cl_X14 rfl (lm_mod (σ := u2 σ 5000 0 0)) (xx_dt dd_X14_wish 13 rfl) (by decide) rfl rfl (Nat.le_of_ble_eq_true rfl) rfl ?_
      exact sw_iret O (xx_dt dd_X14_wish 14 rfl) rfl rfl (by rw [hQ]; exact ⟨by unfold f_Mwish; simp only [if_pos q1, if_neg q2], by unfold g_Mwish; simp only [if_pos q1, if_neg q2]⟩)
def f_Mwaive (σ : XS9) (x : Int32) (B g w : Nat) : Int32 := (if n_lt x B then (if (σ 5000 1) = 1 then (if (σ (7000 + 4) (cn x)) = 0 then 0 else (if (σ (7000 + 700 + w) (cn x)) = 0 then (σ (7000 + 4) (cn x)) - 1 else 0)) else 0) else 0)
def g_Mwaive (σ : XS9) (x : Int32) (B g w : Nat) : XS9 := (if n_lt x B then (if (σ 5000 1) = 1 then (if (σ (7000 + 4) (cn x)) = 0 then u2 (u2 σ 5000 0 0) 5000 0 2 else (if (σ (7000 + 700 + w) (cn x)) = 0 then u2 (u2 (u2 σ 5000 0 0) (7000 + 4) (cn x) ((σ (7000 + 4) (cn x)) - 1)) (7000 + 700 + w) (cn x) 1 else u2 (u2 σ 5000 0 0) 5000 0 2)) else u2 (u2 σ 5000 0 0) 5000 0 2) else u2 (u2 σ 5000 0 0) 5000 0 1)
theorem ct_X14_waive {l : Launch} {h : XH} (hl : l.stackTraces = false) {z : Int64} {σ : XS9} (hbs : xx_bs h) {B : Nat} (hB : σ 5002 900 = nI B) (hB6 : B ≤ 6) (hst : σ 5000 1 = 1 → σ 7000 25 = nI 1 ∧ σ 7000 20 = nI 1) {g : Nat} (hg : σ 7000 23 = nI g) (hg1 : g < 200) {w : Nat} (hw : σ 7000 24 = nI w) (hw1 : w < 200) {x : Int32} : XEx l m_X14_waive 2 0 0 [.ref 5000, .int x] (setM z σ h) (some (.int (f_Mwaive σ x B g w))) (setM z (g_Mwaive σ x B g w) h) := by
  refine XMet.of hl rfl rfl (Nat.le_of_ble_eq_true rfl) (fun Y O hh hQ => ?_)
  show SW Y 0 0 (setM z σ h) 0 [.ref 5000, .int x] []
  refine sw_aload_n O (xx_dt dd_X14_waive 0 rfl) rfl ?_
  refine sw_iconst (x := 0) O (xx_dt dd_X14_waive 1 rfl) (by decide) ?_
  refine sw_put (h2 := setM z (u2 σ 5000 0 0) h) O (xx_dt dd_X14_waive 2 rfl) cl_X14 fl_X14_46 (lm_mod (σ := σ)) (by decide) (by omega) rfl (fun _ => ⟨rfl, rfl⟩) (pm_mod (σ := σ) (by omega)) ?_
  refine sw_aload_n O (xx_dt dd_X14_waive 3 rfl) rfl ?_
  refine sw_iload_n O (xx_dt dd_X14_waive 4 rfl) rfl ?_
  refine sw_callVx (as := [.int x]) (st := []) (st2 := [.int (bZ (n_lt x B))]) O (ct_X14_isBidder hl (z := z) (σ := u2 σ 5000 0 0) hbs (B := B) hB (by omega) (x := x)) ce_X14_isBidder ml_X14_156 iv_X14_isBidder cl_X14 rfl (lm_mod (σ := u2 σ 5000 0 0)) (xx_dt dd_X14_waive 5 rfl) (by decide) rfl rfl (Nat.le_of_ble_eq_true rfl) rfl ?_
  refine sw_if_neB (tgt := 19) O (xx_dt dd_X14_waive 6 rfl) (by decide) (fun q1 => ?_) (fun q1 => ?_)
  · have hc10 := q1
    refine sw_lsE (ls2 := [.ref 5000, .int (nI (cn x))]) (by rw [← hc10.1]) ?_
    have hd10 := hc10.2
    refine sw_aload_n O (xx_dt dd_X14_waive 11 rfl) rfl ?_
    refine sw_get (v := .int (σ 5000 1)) O (xx_dt dd_X14_waive 12 rfl) cl_X14 fl_X14_77 (lm_mod (σ := u2 σ 5000 0 0)) (by decide) rfl ?_
    refine sw_iconst (x := 1) O (xx_dt dd_X14_waive 13 rfl) (by decide) ?_
    refine sw_icmp_ne (tgt := 51) O (xx_dt dd_X14_waive 14 rfl) (by decide) (fun q2 => ?_) (fun q2 => ?_)
    · refine sw_aload_n O (xx_dt dd_X14_waive 27 rfl) rfl ?_
      refine sw_iconst (x := 2) O (xx_dt dd_X14_waive 28 rfl) (by decide) ?_
      refine sw_callVx (as := [.int 2]) (st := []) (st2 := [.int 0]) O (ct_X14_refuse hl (z := z) (σ := u2 σ 5000 0 0) hbs (x := 2)) ce_X14_refuse ml_X14_74 iv_X14_refuse cl_X14 rfl (lm_mod (σ := u2 σ 5000 0 0)) (xx_dt dd_X14_waive 29 rfl) (by decide) rfl rfl (Nat.le_of_ble_eq_true rfl) rfl ?_
      exact sw_iret O (xx_dt dd_X14_waive 30 rfl) rfl rfl (by rw [hQ]; exact ⟨by unfold f_Mwaive; simp only [if_pos q1, if_neg q2], by unfold g_Mwaive; simp only [if_pos q1, if_neg q2]⟩)
    · refine sw_aload_n O (xx_dt dd_X14_waive 15 rfl) rfl ?_
      refine sw_get (v := .ref 7000) O (xx_dt dd_X14_waive 16 rfl) cl_X14 fl_X14_141 (lm_modC (σ := u2 σ 5000 0 0) (fl1 (hst (by assumption)).1)) (by decide) rfl ?_
      refine sw_get (v := .ref (7000 + 4)) O (xx_dt dd_X14_waive 17 rfl) cl_X11 fl_X14_162 (lm_clk (σ := u2 σ 5000 0 0) (b := 7000) (.inl rfl) (fl1 (hst (by assumption)).2) (g := g) hg (by omega) (w := w) hw (by omega)) (by decide) rfl ?_
      refine sw_iload_n O (xx_dt dd_X14_waive 18 rfl) rfl ?_
      refine sw_iaload (v := .int (σ (7000 + 4) (cn x))) O (xx_dt dd_X14_waive 19 rfl) ((im_kwv (z := z) (σ := u2 σ 5000 0 0) (b := 7000) (.inl rfl) (hst (by assumption)).2).get _) (pk_in (cn x) _ (by omega)) (by rw [nI_clamp (by omega)]; exact (congrArg Value.int (congrFun (u2_ne (by omega)) (cn x)))) ?_
      refine sw_if_eq (tgt := 51) O (xx_dt dd_X14_waive 20 rfl) (by decide) (fun q3 => ?_) (fun q3 => ?_)
      · refine sw_aload_n O (xx_dt dd_X14_waive 27 rfl) rfl ?_
        refine sw_iconst (x := 2) O (xx_dt dd_X14_waive 28 rfl) (by decide) ?_
        refine sw_callVx (as := [.int 2]) (st := []) (st2 := [.int 0]) O (ct_X14_refuse hl (z := z) (σ := u2 σ 5000 0 0) hbs (x := 2)) ce_X14_refuse ml_X14_74 iv_X14_refuse cl_X14 rfl (lm_mod (σ := u2 σ 5000 0 0)) (xx_dt dd_X14_waive 29 rfl) (by decide) rfl rfl (Nat.le_of_ble_eq_true rfl) rfl ?_
        exact sw_iret O (xx_dt dd_X14_waive 30 rfl) rfl rfl (by rw [hQ]; exact ⟨by unfold f_Mwaive; simp only [if_pos q1, if_pos q2, if_pos q3], by unfold g_Mwaive; simp only [if_pos q1, if_pos q2, if_pos q3]⟩)
      · refine sw_aload_n O (xx_dt dd_X14_waive 21 rfl) rfl ?_
        refine sw_get (v := .ref 7000) O (xx_dt dd_X14_waive 22 rfl) cl_X14 fl_X14_141 (lm_modC (σ := u2 σ 5000 0 0) (fl1 (hst (by assumption)).1)) (by decide) rfl ?_
        refine sw_get (v := .ref (7000 + 700 + w)) O (xx_dt dd_X14_waive 23 rfl) cl_X11 fl_X14_165 (lm_clk (σ := u2 σ 5000 0 0) (b := 7000) (.inl rfl) (fl1 (hst (by assumption)).2) (g := g) hg (by omega) (w := w) hw (by omega)) (by decide) rfl ?_
        refine sw_iload_n O (xx_dt dd_X14_waive 24 rfl) rfl ?_
        refine sw_zaload (v := .int (σ (7000 + 700 + w) (cn x))) O (xx_dt dd_X14_waive 25 rfl) (lm_hwa (σ := u2 σ 5000 0 0) (b := 7000) (.inl rfl) (fl1 (hst (by assumption)).2) (w := w) hw (by omega) (j := w) (by omega)) (pk_in (cn x) _ (by omega)) (by rw [nI_clamp (by omega)]; exact (congrArg Value.int (congrFun (u2_ne (by omega)) (cn x)))) ?_
        refine sw_if_eq (tgt := 57) O (xx_dt dd_X14_waive 26 rfl) (by decide) (fun q4 => ?_) (fun q4 => ?_)
        · refine sw_aload_n O (xx_dt dd_X14_waive 31 rfl) rfl ?_
          refine sw_get (v := .ref 7000) O (xx_dt dd_X14_waive 32 rfl) cl_X14 fl_X14_141 (lm_modC (σ := u2 σ 5000 0 0) (fl1 (hst (by assumption)).1)) (by decide) rfl ?_
          refine sw_get (v := .ref (7000 + 4)) O (xx_dt dd_X14_waive 33 rfl) cl_X11 fl_X14_162 (lm_clk (σ := u2 σ 5000 0 0) (b := 7000) (.inl rfl) (fl1 (hst (by assumption)).2) (g := g) hg (by omega) (w := w) hw (by omega)) (by decide) rfl ?_
          refine sw_iload_n O (xx_dt dd_X14_waive 34 rfl) rfl ?_
          refine sw_dup2 O (xx_dt dd_X14_waive 35 rfl) rfl rfl ?_
          refine sw_iaload (v := .int (σ (7000 + 4) (cn x))) O (xx_dt dd_X14_waive 36 rfl) ((im_kwv (z := z) (σ := u2 σ 5000 0 0) (b := 7000) (.inl rfl) (hst (by assumption)).2).get _) (pk_in (cn x) _ (by omega)) (by rw [nI_clamp (by omega)]; exact (congrArg Value.int (congrFun (u2_ne (by omega)) (cn x)))) ?_
          refine sw_iconst (x := 1) O (xx_dt dd_X14_waive 37 rfl) (by decide) ?_
          refine sw_isub O (xx_dt dd_X14_waive 38 rfl) ?_
          refine sw_iastore (h2 := setM z (u2 (u2 σ 5000 0 0) (7000 + 4) (cn x) ((σ (7000 + 4) (cn x)) - 1)) h) O (xx_dt dd_X14_waive 39 rfl) ((im_kwv (z := z) (σ := u2 σ 5000 0 0) (b := 7000) (.inl rfl) (hst (by assumption)).2).get _) (pk_in (cn x) _ (by omega)) (by omega) (by rw [nI_clamp (by omega)]; exact ((im_kwv (z := z) (σ := u2 σ 5000 0 0) (b := 7000) (.inl rfl) (hst (by assumption)).2).put (by omega))) ?_
          refine sw_aload_n O (xx_dt dd_X14_waive 40 rfl) rfl ?_
          refine sw_get (v := .ref 7000) O (xx_dt dd_X14_waive 41 rfl) cl_X14 fl_X14_141 (lm_modC (σ := u2 (u2 σ 5000 0 0) (7000 + 4) (cn x) ((σ (7000 + 4) (cn x)) - 1)) (fl1 ((congrFun (u2_ne (by omega)) 25).trans (hst (by assumption)).1))) (by decide) rfl ?_
          refine sw_get (v := .ref (7000 + 700 + w)) O (xx_dt dd_X14_waive 42 rfl) cl_X11 fl_X14_165 (lm_clk (σ := u2 (u2 σ 5000 0 0) (7000 + 4) (cn x) ((σ (7000 + 4) (cn x)) - 1)) (b := 7000) (.inl rfl) (fl1 ((congrFun (u2_ne (by omega)) 20).trans (hst (by assumption)).2)) (g := g) ((congrFun (u2_ne (by omega)) 23).trans hg) (by omega) (w := w) ((congrFun (u2_ne (by omega)) 24).trans hw) (by omega)) (by decide) rfl ?_
          refine sw_iload_n O (xx_dt dd_X14_waive 43 rfl) rfl ?_
          refine sw_iconst (x := 1) O (xx_dt dd_X14_waive 44 rfl) (by decide) ?_
          refine sw_zastore (h2 := setM z (u2 (u2 (u2 σ 5000 0 0) (7000 + 4) (cn x) ((σ (7000 + 4) (cn x)) - 1)) (7000 + 700 + w) (cn x) 1) h) O (xx_dt dd_X14_waive 45 rfl) (lm_hwa (σ := u2 (u2 σ 5000 0 0) (7000 + 4) (cn x) ((σ (7000 + 4) (cn x)) - 1)) (b := 7000) (.inl rfl) (fl1 ((congrFun (u2_ne (by omega)) 20).trans (hst (by assumption)).2)) (w := w) ((congrFun (u2_ne (by omega)) 24).trans hw) (by omega) (j := w) (by omega)) (pk_in (cn x) _ (by omega)) (by omega) rfl (by rw [nI_clamp (by omega)]; exact (pm_hwa (σ := u2 (u2 σ 5000 0 0) (7000 + 4) (cn x) ((σ (7000 + 4) (cn x)) - 1)) (b := 7000) (.inl rfl) ((congrFun (u2_ne (by omega)) 20).trans (hst (by assumption)).2) (w := w) ((congrFun (u2_ne (by omega)) 24).trans hw) (by omega) (j := w) (by omega))) ?_
          refine sw_aload_n O (xx_dt dd_X14_waive 46 rfl) rfl ?_
          refine sw_get (v := .ref 7000) O (xx_dt dd_X14_waive 47 rfl) cl_X14 fl_X14_141 (lm_modC (σ := u2 (u2 (u2 σ 5000 0 0) (7000 + 4) (cn x) ((σ (7000 + 4) (cn x)) - 1)) (7000 + 700 + w) (cn x) 1) (fl1 (((congrFun (u2_ne (by omega)) 25).trans (congrFun (u2_ne (by omega)) 25)).trans (hst (by assumption)).1))) (by decide) rfl ?_
          refine sw_get (v := .ref (7000 + 4)) O (xx_dt dd_X14_waive 48 rfl) cl_X11 fl_X14_162 (lm_clk (σ := u2 (u2 (u2 σ 5000 0 0) (7000 + 4) (cn x) ((σ (7000 + 4) (cn x)) - 1)) (7000 + 700 + w) (cn x) 1) (b := 7000) (.inl rfl) (fl1 (((congrFun (u2_ne (by omega)) 20).trans (congrFun (u2_ne (by omega)) 20)).trans (hst (by assumption)).2)) (g := g) (((congrFun (u2_ne (by omega)) 23).trans (congrFun (u2_ne (by omega)) 23)).trans hg) (by omega) (w := w) (((congrFun (u2_ne (by omega)) 24).trans (congrFun (u2_ne (by omega)) 24)).trans hw) (by omega)) (by decide) rfl ?_
          refine sw_iload_n O (xx_dt dd_X14_waive 49 rfl) rfl ?_
          refine sw_iaload (v := .int ((σ (7000 + 4) (cn x)) - 1)) O (xx_dt dd_X14_waive 50 rfl) ((im_kwv (z := z) (σ := u2 (u2 (u2 σ 5000 0 0) (7000 + 4) (cn x) ((σ (7000 + 4) (cn x)) - 1)) (7000 + 700 + w) (cn x) 1) (b := 7000) (.inl rfl) (((congrFun (u2_ne (by omega)) 20).trans (congrFun (u2_ne (by omega)) 20)).trans (hst (by assumption)).2)).get _) (pk_in (cn x) _ (by omega)) (by rw [nI_clamp (by omega)]; exact (congrArg Value.int ((congrFun (u2_ne (by omega)) (cn x)).trans u2_at))) ?_
          exact sw_iret O (xx_dt dd_X14_waive 51 rfl) rfl rfl (by rw [hQ]; exact ⟨by unfold f_Mwaive; simp only [if_pos q1, if_pos q2, if_neg q3, if_pos q4], by unfold g_Mwaive; simp only [if_pos q1, if_pos q2, if_neg q3, if_pos q4]⟩)
        · refine sw_aload_n O (xx_dt dd_X14_waive 27 rfl) rfl ?_
          refine sw_iconst (x := 2) O (xx_dt dd_X14_waive 28 rfl) (by decide) ?_
          refine sw_callVx (as := [.int 2]) (st := []) (st2 := [.int 0]) O (ct_X14_refuse hl (z := z) (σ := u2 σ 5000 0 0) hbs (x := 2)) ce_X14_refuse ml_X14_74 iv_X14_refuse cl_X14 rfl (lm_mod (σ := u2 σ 5000 0 0)) (xx_dt dd_X14_waive 29 rfl) (by decide) rfl rfl (Nat.le_of_ble_eq_true rfl) rfl ?_
          exact sw_iret O (xx_dt dd_X14_waive 30 rfl) rfl rfl (by rw [hQ]; exact ⟨by unfold f_Mwaive; simp only [if_pos q1, if_pos q2, if_neg q3, if_neg q4], by unfold g_Mwaive; simp only [if_pos q1, if_pos q2, if_neg q3, if_neg q4]⟩)
  · refine sw_aload_n O (xx_dt dd_X14_waive 7 rfl) rfl ?_
    refine sw_iconst (x := 1) O (xx_dt dd_X14_waive 8 rfl) (by decide) ?_
    refine sw_callVx (as := [.int 1]) (st := []) (st2 := [.int 0]) O (ct_X14_refuse hl (z := z) (σ := u2 σ 5000 0 0) hbs (x := 1)) ce_X14_refuse ml_X14_74 iv_X14_refuse cl_X14 rfl (lm_mod (σ := u2 σ 5000 0 0)) (xx_dt dd_X14_waive 9 rfl) (by decide) rfl rfl (Nat.le_of_ble_eq_true rfl) rfl ?_
    exact sw_iret O (xx_dt dd_X14_waive 10 rfl) rfl rfl (by rw [hQ]; exact ⟨by unfold f_Mwaive; simp only [if_neg q1], by unfold g_Mwaive; simp only [if_neg q1]⟩)
def f_Mcontradicts (σ : XS9) (x : Int32) (R B g n : Nat) : Int32 := (if n_lt x B then (if (σ 5000 1) = 1 then f_Kcontradicts (u2 σ 5000 0 0) 7000 (cn x) R g n else (-1)) else 0)
def g_Mcontradicts (σ : XS9) (x : Int32) (R B g n : Nat) : XS9 := (if n_lt x B then u2 σ 5000 0 0 else u2 (u2 σ 5000 0 0) 5000 0 1)
theorem ct_X14_contradicts {l : Launch} {h : XH} (hl : l.stackTraces = false) {z : Int64} {σ : XS9} (hbs : xx_bs h) {R : Nat} (hR : σ 5001 900 = nI R) (hR5 : R ≤ 5) {B : Nat} (hB : σ 5002 900 = nI B) (hB6 : B ≤ 6) (hst : σ 5000 1 = 1 → σ 7000 25 = nI 1 ∧ σ 7000 20 = nI 1) {g : Nat} (hg : σ 7000 23 = nI g) (hg1 : g < 200) {w : Nat} (hw : σ 7000 24 = nI w) (hw1 : w < 200) {n : Nat} (hn : σ 7000 21 = nI n) (hn60 : n ≤ 60) (hn2 : σ 7000 22 = nI n) {x : Int32} : XEx l m_X14_contradicts 4 0 0 [.ref 5000, .int x] (setM z σ h) (some (.int (f_Mcontradicts σ x R B g n))) (setM z (g_Mcontradicts σ x R B g n) h) := by
  refine XMet.of hl rfl rfl (Nat.le_of_ble_eq_true rfl) (fun Y O hh hQ => ?_)
  show SW Y 0 0 (setM z σ h) 0 [.ref 5000, .int x] []
  refine sw_aload_n O (xx_dt dd_X14_contradicts 0 rfl) rfl ?_
  refine sw_iconst (x := 0) O (xx_dt dd_X14_contradicts 1 rfl) (by decide) ?_
  refine sw_put (h2 := setM z (u2 σ 5000 0 0) h) O (xx_dt dd_X14_contradicts 2 rfl) cl_X14 fl_X14_46 (lm_mod (σ := σ)) (by decide) (by omega) rfl (fun _ => ⟨rfl, rfl⟩) (pm_mod (σ := σ) (by omega)) ?_
  refine sw_aload_n O (xx_dt dd_X14_contradicts 3 rfl) rfl ?_
  refine sw_iload_n O (xx_dt dd_X14_contradicts 4 rfl) rfl ?_
  refine sw_callVx (as := [.int x]) (st := []) (st2 := [.int (bZ (n_lt x B))]) O (ct_X14_isBidder hl (z := z) (σ := u2 σ 5000 0 0) hbs (B := B) hB (by omega) (x := x)) ce_X14_isBidder ml_X14_156 iv_X14_isBidder cl_X14 rfl (lm_mod (σ := u2 σ 5000 0 0)) (xx_dt dd_X14_contradicts 5 rfl) (by decide) rfl rfl (Nat.le_of_ble_eq_true rfl) rfl ?_
  refine sw_if_neB (tgt := 19) O (xx_dt dd_X14_contradicts 6 rfl) (by decide) (fun q1 => ?_) (fun q1 => ?_)
  · have hc10 := q1
    refine sw_lsE (ls2 := [.ref 5000, .int (nI (cn x))]) (by rw [← hc10.1]) ?_
    have hd10 := hc10.2
    refine sw_aload_n O (xx_dt dd_X14_contradicts 11 rfl) rfl ?_
    refine sw_get (v := .int (σ 5000 1)) O (xx_dt dd_X14_contradicts 12 rfl) cl_X14 fl_X14_77 (lm_mod (σ := u2 σ 5000 0 0)) (by decide) rfl ?_
    refine sw_iconst (x := 1) O (xx_dt dd_X14_contradicts 13 rfl) (by decide) ?_
    refine sw_icmp_ne (tgt := 38) O (xx_dt dd_X14_contradicts 14 rfl) (by decide) (fun q2 => ?_) (fun q2 => ?_)
    · refine sw_iconst (x := (-1)) O (xx_dt dd_X14_contradicts 20 rfl) (by decide) ?_
      exact sw_iret O (xx_dt dd_X14_contradicts 21 rfl) rfl rfl (by rw [hQ]; exact ⟨by unfold f_Mcontradicts; simp only [if_pos q1, if_neg q2], by unfold g_Mcontradicts; simp only [if_pos q1, if_neg q2]⟩)
    · refine sw_aload_n O (xx_dt dd_X14_contradicts 15 rfl) rfl ?_
      refine sw_get (v := .ref 7000) O (xx_dt dd_X14_contradicts 16 rfl) cl_X14 fl_X14_141 (lm_modC (σ := u2 σ 5000 0 0) (fl1 (hst (by assumption)).1)) (by decide) rfl ?_
      refine sw_iload_n O (xx_dt dd_X14_contradicts 17 rfl) rfl ?_
      refine sw_callVx (as := [.int (nI (cn x))]) (st := []) (st2 := [.int (f_Kcontradicts (u2 σ 5000 0 0) 7000 (cn x) R g n)]) O (ct_X11_contradicts hl (z := z) (σ := u2 σ 5000 0 0) hbs (b := 7000) (.inl rfl) (hst (by assumption)).2 (g := g) hg (by omega) (w := w) hw (by omega) (R := R) hR (by omega) (n := n) hn (by omega) hn2 (i := cn x) (by omega)) ce_X11_contradicts ml_X14_387 iv_X11_contradicts cl_X11 rfl (lm_clk (σ := u2 σ 5000 0 0) (b := 7000) (.inl rfl) (fl1 (hst (by assumption)).2) (g := g) hg (by omega) (w := w) hw (by omega)) (xx_dt dd_X14_contradicts 18 rfl) (by decide) rfl rfl (Nat.le_of_ble_eq_true rfl) rfl ?_
      refine sw_goto (tgt := 39) O (xx_dt dd_X14_contradicts 19 rfl) (by decide) ?_
      exact sw_iret O (xx_dt dd_X14_contradicts 21 rfl) rfl rfl (by rw [hQ]; exact ⟨by unfold f_Mcontradicts; simp only [if_pos q1, if_pos q2], by unfold g_Mcontradicts; simp only [if_pos q1, if_pos q2]⟩)
  · refine sw_aload_n O (xx_dt dd_X14_contradicts 7 rfl) rfl ?_
    refine sw_iconst (x := 1) O (xx_dt dd_X14_contradicts 8 rfl) (by decide) ?_
    refine sw_callVx (as := [.int 1]) (st := []) (st2 := [.int 0]) O (ct_X14_refuse hl (z := z) (σ := u2 σ 5000 0 0) hbs (x := 1)) ce_X14_refuse ml_X14_74 iv_X14_refuse cl_X14 rfl (lm_mod (σ := u2 σ 5000 0 0)) (xx_dt dd_X14_contradicts 9 rfl) (by decide) rfl rfl (Nat.le_of_ble_eq_true rfl) rfl ?_
    exact sw_iret O (xx_dt dd_X14_contradicts 10 rfl) rfl rfl (by rw [hQ]; exact ⟨by unfold f_Mcontradicts; simp only [if_neg q1], by unfold g_Mcontradicts; simp only [if_neg q1]⟩)
def x_MisSignal_85 (σ : XS9) (i k R B : Nat) (pk : Nat → Nat) (i56 : Nat) (s0 : Unit) : Unit ⊕ Int32 := xitBR (fun i85 s85 => (if (nI i56) = (nI i) then .inr (.inl ()) else (if (σ (5020 + i56) 3) = (σ (5020 + i) 3) then (if (f_of (f_Bcode σ i56 i85) (cn ((f_Bamount σ i k) - (f_Bamount σ i k) / 10 * 10))) ≤ 0 then .inl () else .inr (.inr 1)) else .inr (.inl ())))) (pk i56) 0 s0
def x_MisSignal_56 (σ : XS9) (i k R B : Nat) (pk : Nat → Nat) (s0 : Unit) : Unit ⊕ Int32 := xitR (fun i56 s56 => (match (x_MisSignal_85 σ i k R B pk i56 ()) with | .inl s85 => .inl () | .inr r85 => .inr r85)) B 0 s0
def f_MisSignal (σ : XS9) (i k R B : Nat) (pk : Nat → Nat) : Int32 := (if n_lt ((f_Bamount σ i k) - (f_Bamount σ i k) / 10 * 10) R then (if 0 < (f_of (f_Bcode σ i k) (cn ((f_Bamount σ i k) - (f_Bamount σ i k) / 10 * 10))) then 0 else (if (σ (5020 + i) 3) = 0 then 0 else (match (x_MisSignal_56 σ i k R B pk ()) with | .inl s56 => 0 | .inr r56 => r56))) else 0)
theorem ct_X14_isSignal {l : Launch} {h : XH} (hl : l.stackTraces = false) {z : Int64} {σ : XS9} (hbs : xx_bs h) {R : Nat} (hR : σ 5001 900 = nI R) (hR5 : R ≤ 5) {B : Nat} (hB : σ 5002 900 = nI B) (hB6 : B ≤ 6) {pk : Nat → Nat} (hpk : ∀ j, j < B → σ (5030 + j) 900 = nI (2 * pk j) ∧ pk j ≤ 6) {i k : Nat} (hi : i < B) (hk : k < pk i)  : XEx l m_X14_isSignal 4 0 0 [.ref 5000, .int (nI i), .int (nI k)] (setM z σ h) (some (.int (f_MisSignal σ i k R B pk))) (setM z σ h) := by
  refine XMet.of hl rfl rfl (Nat.le_of_ble_eq_true rfl) (fun Y O hh hQ => ?_)
  show SW Y 0 0 (setM z σ h) 0 [.ref 5000, .int (nI i), .int (nI k), xx_d, xx_d, xx_d, xx_d, xx_d] []
  refine sw_aload_n O (xx_dt dd_X14_isSignal 0 rfl) rfl ?_
  refine sw_get (v := .ref 5002) O (xx_dt dd_X14_isSignal 1 rfl) cl_X14 fl_X14_27 (lm_mod (σ := σ)) (by decide) rfl ?_
  refine sw_iload_n O (xx_dt dd_X14_isSignal 2 rfl) rfl ?_
  refine sw_callVL (ci := 6) (as := [.int (nI i)]) (st := []) (st2 := [.ref (5020 + i)]) O (ct_get hl hbs (lm_5002 (σ := σ) (B := B) hB (by omega)) (by omega) (i := i) (x := 5020 + i) (by omega) (by omega) rfl) ce_Jx4a65c_get_915e3 ml_X14_61 iv_Jx4a65c_get_915e3 cl_Jx4a65c rfl (lm_5002 (σ := σ) (B := B) hB (by omega)) (xx_dt dd_X14_isSignal 3 rfl) (by decide) rfl rfl (Nat.le_of_ble_eq_true rfl) rfl ?_
  refine sw_castO O (xx_dt dd_X14_isSignal 4 rfl) cl_X9 (lm_bid (σ := σ) (B := B) hB (by omega) (j := i) (by omega)) cw_X14_118 ?_
  refine sw_astore_n (ls2 := [.ref 5000, .int (nI i), .int (nI k), .ref (5020 + i), xx_d, xx_d, xx_d, xx_d]) O (xx_dt dd_X14_isSignal 5 rfl) (by decide) rfl ?_
  refine sw_aload_n O (xx_dt dd_X14_isSignal 6 rfl) rfl ?_
  refine sw_iload_n O (xx_dt dd_X14_isSignal 7 rfl) rfl ?_
  refine sw_callVx (as := [.int (nI k)]) (st := []) (st2 := [.int (f_Bamount σ i k)]) O (ct_X9_amount hl (z := z) (σ := σ) hbs (B := B) hB (by omega) (j := i) (by omega) (p := pk i) (hpk i (by omega)).1 (by have h9 := (hpk i (by omega)).2; omega) (k := k) (by first | omega | (have h9 := (hpk i (by omega)).2; omega))) ce_X9_amount ml_X14_252 iv_X9_amount cl_X9 rfl (lm_bid (σ := σ) (B := B) hB (by omega) (j := i) (by omega)) (xx_dt dd_X14_isSignal 8 rfl) (by decide) rfl rfl (Nat.le_of_ble_eq_true rfl) rfl ?_
  refine sw_bipush (x := 10) O (xx_dt dd_X14_isSignal 9 rfl) (by decide) ?_
  refine sw_irem O (xx_dt dd_X14_isSignal 10 rfl) (by first | decide | assumption) ?_
  refine sw_istore (ls2 := [.ref 5000, .int (nI i), .int (nI k), .ref (5020 + i), .int ((f_Bamount σ i k) - (f_Bamount σ i k) / 10 * 10), xx_d, xx_d, xx_d]) O (xx_dt dd_X14_isSignal 11 rfl) (by decide) rfl ?_
  refine sw_aload_n O (xx_dt dd_X14_isSignal 12 rfl) rfl ?_
  refine sw_iload O (xx_dt dd_X14_isSignal 13 rfl) rfl ?_
  refine sw_callVx (as := [.int ((f_Bamount σ i k) - (f_Bamount σ i k) / 10 * 10)]) (st := []) (st2 := [.int (bZ (n_lt ((f_Bamount σ i k) - (f_Bamount σ i k) / 10 * 10) R))]) O (ct_X14_isRegion hl (z := z) (σ := σ) hbs (R := R) hR (by omega) (x := (f_Bamount σ i k) - (f_Bamount σ i k) / 10 * 10)) ce_X14_isRegion ml_X14_91 iv_X14_isRegion cl_X14 rfl (lm_mod (σ := σ)) (xx_dt dd_X14_isSignal 14 rfl) (by decide) rfl rfl (Nat.le_of_ble_eq_true rfl) rfl ?_
  refine sw_if_eqB (tgt := 51) O (xx_dt dd_X14_isSignal 15 rfl) (by decide) (fun q1 => ?_) (fun q1 => ?_)
  · refine sw_iconst (x := 0) O (xx_dt dd_X14_isSignal 25 rfl) (by decide) ?_
    exact sw_iret O (xx_dt dd_X14_isSignal 26 rfl) rfl rfl (by rw [hQ]; exact ⟨by unfold f_MisSignal; simp only [if_neg q1], rfl⟩)
  · have hc28 := q1
    refine sw_lsE (ls2 := [.ref 5000, .int (nI i), .int (nI k), .ref (5020 + i), .int (nI (cn ((f_Bamount σ i k) - (f_Bamount σ i k) / 10 * 10))), xx_d, xx_d, xx_d]) (by rw [← hc28.1]) ?_
    have hd28 := hc28.2
    refine sw_aload_n O (xx_dt dd_X14_isSignal 16 rfl) rfl ?_
    refine sw_iload_n O (xx_dt dd_X14_isSignal 17 rfl) rfl ?_
    refine sw_callVx (as := [.int (nI k)]) (st := []) (st2 := [.int (f_Bcode σ i k)]) O (ct_X9_code hl (z := z) (σ := σ) hbs (B := B) hB (by omega) (j := i) (by omega) (p := pk i) (hpk i (by omega)).1 (by have h9 := (hpk i (by omega)).2; omega) (k := k) (by first | omega | (have h9 := (hpk i (by omega)).2; omega))) ce_X9_code ml_X14_240 iv_X9_code cl_X9 rfl (lm_bid (σ := σ) (B := B) hB (by omega) (j := i) (by omega)) (xx_dt dd_X14_isSignal 18 rfl) (by decide) rfl rfl (Nat.le_of_ble_eq_true rfl) rfl ?_
    refine sw_iload O (xx_dt dd_X14_isSignal 19 rfl) rfl ?_
    refine sw_callSx (as := [.int (f_Bcode σ i k), .int (nI (cn ((f_Bamount σ i k) - (f_Bamount σ i k) / 10 * 10)))]) (st := []) (st2 := [.int (f_of (f_Bcode σ i k) (cn ((f_Bamount σ i k) - (f_Bamount σ i k) / 10 * 10)))]) O (ct_X14_of hl (c := f_Bcode σ i k) (r := cn ((f_Bamount σ i k) - (f_Bamount σ i k) / 10 * 10)) (by omega)) ce_X14_of ml_X14_53 st_X14_of (xx_dt dd_X14_isSignal 20 rfl) (by decide) rfl rfl (Nat.le_of_ble_eq_true rfl) rfl ?_
    refine sw_if_gt (tgt := 51) O (xx_dt dd_X14_isSignal 21 rfl) (by decide) (fun q2 => ?_) (fun q2 => ?_)
    · refine sw_iconst (x := 0) O (xx_dt dd_X14_isSignal 25 rfl) (by decide) ?_
      exact sw_iret O (xx_dt dd_X14_isSignal 26 rfl) rfl rfl (by rw [hQ]; exact ⟨by unfold f_MisSignal; simp only [if_pos q1, if_pos q2], rfl⟩)
    · refine sw_aload_n O (xx_dt dd_X14_isSignal 22 rfl) rfl ?_
      refine sw_get (v := .int (σ (5020 + i) 3)) O (xx_dt dd_X14_isSignal 23 rfl) cl_X9 fl_X14_130 (lm_bid (σ := σ) (B := B) hB (by omega) (j := i) (by omega)) (by decide) rfl ?_
      refine sw_if_ne (tgt := 53) O (xx_dt dd_X14_isSignal 24 rfl) (by decide) (fun q3 => ?_) (fun q3 => ?_)
      · refine sw_iconst (x := 0) O (xx_dt dd_X14_isSignal 27 rfl) (by decide) ?_
        refine sw_istore (ls2 := [.ref 5000, .int (nI i), .int (nI k), .ref (5020 + i), .int (nI (cn ((f_Bamount σ i k) - (f_Bamount σ i k) / 10 * 10))), .int 0, xx_d, xx_d]) O (xx_dt dd_X14_isSignal 28 rfl) (by decide) rfl ?_
        refine sw_forR (S := Unit) (R := Int32) (fun i56 s56 => (match (x_MisSignal_85 σ i k R B pk i56 ()) with | .inl s85 => .inl () | .inr r85 => .inr r85)) (fun _ _ => True) (FR := fun r9 => f_MisSignal σ i k R B pk = r9) (hp := fun _ => setM z σ h) (hd := 56) (lc := fun i56 s56 => [.ref 5000, .int (nI i), .int (nI k), .ref (5020 + i), .int (nI (cn ((f_Bamount σ i k) - (f_Bamount σ i k) / 10 * 10))), .int (nI i56), xx_d, xx_d]) (N := B) (fun i56 s56 hi56 hP56 => ⟨fun _ _ => trivial, fun kk56 kr56 => ?_⟩) B 0 () (by omega) (trivial) (fun sN56 eN56 hP56 => ?_) (fun r56 eN56 => ?_)
        · refine sw_iload O (xx_dt dd_X14_isSignal 29 rfl) rfl ?_
          refine sw_aload_n O (xx_dt dd_X14_isSignal 30 rfl) rfl ?_
          refine sw_get (v := .ref 5002) O (xx_dt dd_X14_isSignal 31 rfl) cl_X14 fl_X14_27 (lm_mod (σ := σ)) (by decide) rfl ?_
          refine sw_callVL (ci := 6) (as := []) (st := [.int (nI i56)]) (st2 := [.int (nI B), .int (nI i56)]) O (ct_AL_size hl (lm_5002 (σ := σ) (B := B) hB (by omega))) ce_Jx4a65c_size_8abf5 ml_X14_57 iv_Jx4a65c_size_8abf5 cl_Jx4a65c rfl (lm_5002 (σ := σ) (B := B) hB (by omega)) (xx_dt dd_X14_isSignal 32 rfl) (by decide) rfl rfl (Nat.le_of_ble_eq_true rfl) rfl ?_
          refine sw_icmp_ge (tgt := 142) O (xx_dt dd_X14_isSignal 33 rfl) (by decide) (fun q4 => ?_) (fun q4 => ?_)
          · exact absurd q4 (nI_ge (b := B) hi56 (by omega))
          · refine sw_aload_n O (xx_dt dd_X14_isSignal 34 rfl) rfl ?_
            refine sw_get (v := .ref 5002) O (xx_dt dd_X14_isSignal 35 rfl) cl_X14 fl_X14_27 (lm_mod (σ := σ)) (by decide) rfl ?_
            refine sw_iload O (xx_dt dd_X14_isSignal 36 rfl) rfl ?_
            refine sw_callVL (ci := 6) (as := [.int (nI i56)]) (st := []) (st2 := [.ref (5020 + i56)]) O (ct_get hl hbs (lm_5002 (σ := σ) (B := B) hB (by omega)) (by omega) (i := i56) (x := 5020 + i56) (by omega) (by omega) rfl) ce_Jx4a65c_get_915e3 ml_X14_61 iv_Jx4a65c_get_915e3 cl_Jx4a65c rfl (lm_5002 (σ := σ) (B := B) hB (by omega)) (xx_dt dd_X14_isSignal 37 rfl) (by decide) rfl rfl (Nat.le_of_ble_eq_true rfl) rfl ?_
            refine sw_castO O (xx_dt dd_X14_isSignal 38 rfl) cl_X9 (lm_bid (σ := σ) (B := B) hB (by omega) (j := i56) (by omega)) cw_X14_118 ?_
            refine sw_astore (ls2 := [.ref 5000, .int (nI i), .int (nI k), .ref (5020 + i), .int (nI (cn ((f_Bamount σ i k) - (f_Bamount σ i k) / 10 * 10))), .int (nI i56), .ref (5020 + i56), xx_d]) O (xx_dt dd_X14_isSignal 39 rfl) (by decide) rfl ?_
            refine sw_iconst (x := 0) O (xx_dt dd_X14_isSignal 40 rfl) (by decide) ?_
            refine sw_istore (ls2 := [.ref 5000, .int (nI i), .int (nI k), .ref (5020 + i), .int (nI (cn ((f_Bamount σ i k) - (f_Bamount σ i k) / 10 * 10))), .int (nI i56), .ref (5020 + i56), .int 0]) O (xx_dt dd_X14_isSignal 41 rfl) (by decide) rfl ?_
            refine sw_forBR (S := Unit) (R := Int32) (fun i85 s85 => (if (nI i56) = (nI i) then .inr (.inl ()) else (if (σ (5020 + i56) 3) = (σ (5020 + i) 3) then (if (f_of (f_Bcode σ i56 i85) (cn ((f_Bamount σ i k) - (f_Bamount σ i k) / 10 * 10))) ≤ 0 then .inl () else .inr (.inr 1)) else .inr (.inl ())))) (fun _ _ => True) (fun _ => True) (FR := fun r9 => f_MisSignal σ i k R B pk = r9) (hp := fun _ => setM z σ h) (hd := 85) (lc := fun i85 s85 => [.ref 5000, .int (nI i), .int (nI k), .ref (5020 + i), .int (nI (cn ((f_Bamount σ i k) - (f_Bamount σ i k) / 10 * 10))), .int (nI i56), .ref (5020 + i56), .int (nI i85)]) (ex := 136) (lx := fun s85 => [.ref 5000, .int (nI i), .int (nI k), .ref (5020 + i), .int (nI (cn ((f_Bamount σ i k) - (f_Bamount σ i k) / 10 * 10))), .int (nI i56), .ref (5020 + i56), xx_d]) (N := (pk i56)) (fun i85 s85 hi85 hP85 => ⟨⟨(fun _ _ => trivial), (fun _ _ => trivial)⟩, fun kk85 kb85 kr85 => ?_⟩) (fun s85 hP85 => ⟨hP85, fun kx85 => ?_⟩) (pk i56) 0 () (by omega) (trivial) (fun sN85 eN85 hP85 => ?_) (fun r85 eN85 => ?_)
            · refine sw_iload O (xx_dt dd_X14_isSignal 42 rfl) rfl ?_
              refine sw_aload O (xx_dt dd_X14_isSignal 43 rfl) rfl ?_
              have hq89 := (hpk i56 (by omega)).2
              refine sw_callVx (as := []) (st := [.int (nI i85)]) (st2 := [.int (nI (pk i56)), .int (nI i85)]) O ((show XEx _ _ _ _ _ _ _ (some (.int (nI (pk i56)))) _ from ct_X9_many hl (z := z) (σ := σ) hbs (B := B) hB (by omega) (j := i56) (by omega) (p := pk i56) (hpk i56 (by omega)).1 (by have h9 := (hpk i56 (by omega)).2; omega))) ce_X9_many ml_X14_210 iv_X9_many cl_X9 rfl (lm_bid (σ := σ) (B := B) hB (by omega) (j := i56) (by omega)) (xx_dt dd_X14_isSignal 44 rfl) (by decide) rfl rfl (Nat.le_of_ble_eq_true rfl) rfl ?_
              refine sw_icmp_ge (tgt := 136) O (xx_dt dd_X14_isSignal 45 rfl) (by decide) (fun q5 => ?_) (fun q5 => ?_)
              · exact absurd q5 (nI_ge (b := (pk i56)) hi85 (by omega))
              · refine sw_iload O (xx_dt dd_X14_isSignal 46 rfl) rfl ?_
                refine sw_iload_n O (xx_dt dd_X14_isSignal 47 rfl) rfl ?_
                refine sw_icmp_eq (tgt := 136) O (xx_dt dd_X14_isSignal 48 rfl) (by decide) (fun q6 => ?_) (fun q6 => ?_)
                · refine sw_dum (ls2 := [.ref 5000, .int (nI i), .int (nI k), .ref (5020 + i), .int (nI (cn ((f_Bamount σ i k) - (f_Bamount σ i k) / 10 * 10))), .int (nI i56), .ref (5020 + i56), xx_d]) ⟨.inr rfl, .inr rfl, .inr rfl, .inr rfl, .inr rfl, .inr rfl, .inr rfl, .inl rfl, trivial⟩ ?_
                  exact kb85 () (by simp only [if_pos q6])
                · refine sw_aload O (xx_dt dd_X14_isSignal 49 rfl) rfl ?_
                  refine sw_get (v := .int (σ (5020 + i56) 3)) O (xx_dt dd_X14_isSignal 50 rfl) cl_X9 fl_X14_130 (lm_bid (σ := σ) (B := B) hB (by omega) (j := i56) (by omega)) (by decide) rfl ?_
                  refine sw_aload_n O (xx_dt dd_X14_isSignal 51 rfl) rfl ?_
                  refine sw_get (v := .int (σ (5020 + i) 3)) O (xx_dt dd_X14_isSignal 52 rfl) cl_X9 fl_X14_130 (lm_bid (σ := σ) (B := B) hB (by omega) (j := i) (by omega)) (by decide) rfl ?_
                  refine sw_icmp_ne (tgt := 136) O (xx_dt dd_X14_isSignal 53 rfl) (by decide) (fun q7 => ?_) (fun q7 => ?_)
                  · refine sw_dum (ls2 := [.ref 5000, .int (nI i), .int (nI k), .ref (5020 + i), .int (nI (cn ((f_Bamount σ i k) - (f_Bamount σ i k) / 10 * 10))), .int (nI i56), .ref (5020 + i56), xx_d]) ⟨.inr rfl, .inr rfl, .inr rfl, .inr rfl, .inr rfl, .inr rfl, .inr rfl, .inl rfl, trivial⟩ ?_
                    exact kb85 () (by simp only [if_neg q6, if_neg q7])
                  · refine sw_aload O (xx_dt dd_X14_isSignal 54 rfl) rfl ?_
                    refine sw_iload O (xx_dt dd_X14_isSignal 55 rfl) rfl ?_
                    refine sw_callVx (as := [.int (nI i85)]) (st := []) (st2 := [.int (f_Bcode σ i56 i85)]) O (ct_X9_code hl (z := z) (σ := σ) hbs (B := B) hB (by omega) (j := i56) (by omega) (p := pk i56) (hpk i56 (by omega)).1 (by have h9 := (hpk i56 (by omega)).2; omega) (k := i85) (by first | omega | (have h9 := (hpk i56 (by omega)).2; omega))) ce_X9_code ml_X14_240 iv_X9_code cl_X9 rfl (lm_bid (σ := σ) (B := B) hB (by omega) (j := i56) (by omega)) (xx_dt dd_X14_isSignal 56 rfl) (by decide) rfl rfl (Nat.le_of_ble_eq_true rfl) rfl ?_
                    refine sw_iload O (xx_dt dd_X14_isSignal 57 rfl) rfl ?_
                    refine sw_callSx (as := [.int (f_Bcode σ i56 i85), .int (nI (cn ((f_Bamount σ i k) - (f_Bamount σ i k) / 10 * 10)))]) (st := []) (st2 := [.int (f_of (f_Bcode σ i56 i85) (cn ((f_Bamount σ i k) - (f_Bamount σ i k) / 10 * 10)))]) O (ct_X14_of hl (c := f_Bcode σ i56 i85) (r := cn ((f_Bamount σ i k) - (f_Bamount σ i k) / 10 * 10)) (by omega)) ce_X14_of ml_X14_53 st_X14_of (xx_dt dd_X14_isSignal 58 rfl) (by decide) rfl rfl (Nat.le_of_ble_eq_true rfl) rfl ?_
                    refine sw_if_le (tgt := 130) O (xx_dt dd_X14_isSignal 59 rfl) (by decide) (fun q8 => ?_) (fun q8 => ?_)
                    · refine sw_iinc (y := nI (i85 + 1)) (ls2 := [.ref 5000, .int (nI i), .int (nI k), .ref (5020 + i), .int (nI (cn ((f_Bamount σ i k) - (f_Bamount σ i k) / 10 * 10))), .int (nI i56), .ref (5020 + i56), .int (nI (i85 + 1))]) O (xx_dt dd_X14_isSignal 62 rfl) rfl (nI_1 _) (by decide) rfl ?_
                      refine sw_goto (tgt := 85) O (xx_dt dd_X14_isSignal 63 rfl) (by decide) ?_
                      exact kk85 () (by simp only [if_neg q6, if_pos q7, if_pos q8])
                    · refine sw_iconst (x := 1) O (xx_dt dd_X14_isSignal 60 rfl) (by decide) ?_
                      exact sw_iret O (xx_dt dd_X14_isSignal 61 rfl) rfl rfl (by rw [hQ, kr85 1 (by simp only [if_neg q6, if_pos q7, if_neg q8])]; exact ⟨rfl, rfl⟩)
            · show SW Y _ _ (setM z σ h) 85 [.ref 5000, .int (nI i), .int (nI k), .ref (5020 + i), .int (nI (cn ((f_Bamount σ i k) - (f_Bamount σ i k) / 10 * 10))), .int (nI i56), .ref (5020 + i56), .int (nI ((pk i56)))] []
              refine sw_iload O (xx_dt dd_X14_isSignal 42 rfl) rfl ?_
              refine sw_aload O (xx_dt dd_X14_isSignal 43 rfl) rfl ?_
              have hq89 := (hpk i56 (by omega)).2
              refine sw_callVx (as := []) (st := [.int (nI ((pk i56)))]) (st2 := [.int (nI (pk i56)), .int (nI ((pk i56)))]) O ((show XEx _ _ _ _ _ _ _ (some (.int (nI (pk i56)))) _ from ct_X9_many hl (z := z) (σ := σ) hbs (B := B) hB (by omega) (j := i56) (by omega) (p := pk i56) (hpk i56 (by omega)).1 (by have h9 := (hpk i56 (by omega)).2; omega))) ce_X9_many ml_X14_210 iv_X9_many cl_X9 rfl (lm_bid (σ := σ) (B := B) hB (by omega) (j := i56) (by omega)) (xx_dt dd_X14_isSignal 44 rfl) (by decide) rfl rfl (Nat.le_of_ble_eq_true rfl) rfl ?_
              refine sw_icmp_ge (tgt := 136) O (xx_dt dd_X14_isSignal 45 rfl) (by decide) (fun q5 => ?_) (fun q5 => ?_)
              · refine sw_dum (ls2 := [.ref 5000, .int (nI i), .int (nI k), .ref (5020 + i), .int (nI (cn ((f_Bamount σ i k) - (f_Bamount σ i k) / 10 * 10))), .int (nI i56), .ref (5020 + i56), xx_d]) ⟨.inr rfl, .inr rfl, .inr rfl, .inr rfl, .inr rfl, .inr rfl, .inr rfl, .inl rfl, trivial⟩ ?_
                exact kx85
              · exact absurd (Int32.le_refl _) q5
            · show SW Y _ _ (setM z σ h) 136 [.ref 5000, .int (nI i), .int (nI k), .ref (5020 + i), .int (nI (cn ((f_Bamount σ i k) - (f_Bamount σ i k) / 10 * 10))), .int (nI i56), .ref (5020 + i56), xx_d] []
              refine sw_iinc (y := nI (i56 + 1)) (ls2 := [.ref 5000, .int (nI i), .int (nI k), .ref (5020 + i), .int (nI (cn ((f_Bamount σ i k) - (f_Bamount σ i k) / 10 * 10))), .int (nI (i56 + 1)), .ref (5020 + i56), xx_d]) O (xx_dt dd_X14_isSignal 64 rfl) rfl (nI_1 _) (by decide) rfl ?_
              refine sw_goto (tgt := 56) O (xx_dt dd_X14_isSignal 65 rfl) (by decide) ?_
              refine sw_dum (ls2 := [.ref 5000, .int (nI i), .int (nI k), .ref (5020 + i), .int (nI (cn ((f_Bamount σ i k) - (f_Bamount σ i k) / 10 * 10))), .int (nI (i56 + 1)), xx_d, xx_d]) ⟨.inr rfl, .inr rfl, .inr rfl, .inr rfl, .inr rfl, .inr rfl, .inl rfl, .inr rfl, trivial⟩ ?_
              exact kk56 () (by simp only [x_MisSignal_85, eN85])
            · exact kr56 r85 (by simp only [x_MisSignal_85, eN85])
        · show SW Y _ _ (setM z σ h) 56 [.ref 5000, .int (nI i), .int (nI k), .ref (5020 + i), .int (nI (cn ((f_Bamount σ i k) - (f_Bamount σ i k) / 10 * 10))), .int (nI B), xx_d, xx_d] []
          refine sw_iload O (xx_dt dd_X14_isSignal 29 rfl) rfl ?_
          refine sw_aload_n O (xx_dt dd_X14_isSignal 30 rfl) rfl ?_
          refine sw_get (v := .ref 5002) O (xx_dt dd_X14_isSignal 31 rfl) cl_X14 fl_X14_27 (lm_mod (σ := σ)) (by decide) rfl ?_
          refine sw_callVL (ci := 6) (as := []) (st := [.int (nI B)]) (st2 := [.int (nI B), .int (nI B)]) O (ct_AL_size hl (lm_5002 (σ := σ) (B := B) hB (by omega))) ce_Jx4a65c_size_8abf5 ml_X14_57 iv_Jx4a65c_size_8abf5 cl_Jx4a65c rfl (lm_5002 (σ := σ) (B := B) hB (by omega)) (xx_dt dd_X14_isSignal 32 rfl) (by decide) rfl rfl (Nat.le_of_ble_eq_true rfl) rfl ?_
          refine sw_icmp_ge (tgt := 142) O (xx_dt dd_X14_isSignal 33 rfl) (by decide) (fun q4 => ?_) (fun q4 => ?_)
          · refine sw_iconst (x := 0) O (xx_dt dd_X14_isSignal 66 rfl) (by decide) ?_
            exact sw_iret O (xx_dt dd_X14_isSignal 67 rfl) rfl rfl (by rw [hQ]; exact ⟨by unfold f_MisSignal; simp only [if_pos q1, if_neg q2, if_neg q3, x_MisSignal_56, eN56], rfl⟩)
          · exact absurd (Int32.le_refl _) q4
        · unfold f_MisSignal; simp only [if_pos q1, if_neg q2, if_neg q3, x_MisSignal_56, eN56]
      · refine sw_iconst (x := 0) O (xx_dt dd_X14_isSignal 25 rfl) (by decide) ?_
        exact sw_iret O (xx_dt dd_X14_isSignal 26 rfl) rfl rfl (by rw [hQ]; exact ⟨by unfold f_MisSignal; simp only [if_pos q1, if_neg q2, if_pos q3], rfl⟩)
def x_Msignals_17 (σ : XS9) (R B : Nat) (pk : Nat → Nat) (i4 : Nat) (s0 : Int32) : Int32 := xit (fun i17 s17 => (if (f_MisSignal σ i4 (1 + i17) R B pk) = 0 then s17 + 0 else s17 + 1)) (pk i4 - 1) 0 s0
def x_Msignals_4 (σ : XS9) (R B : Nat) (pk : Nat → Nat) (s0 : Int32) : Int32 := xit (fun i4 s4 => (x_Msignals_17 σ R B pk i4 s4)) B 0 s0
def f_Msignals (σ : XS9) (R B : Nat) (pk : Nat → Nat) : Int32 := (x_Msignals_4 σ R B pk 0)
theorem ct_X14_signals {l : Launch} {h : XH} (hl : l.stackTraces = false) {z : Int64} {σ : XS9} (hbs : xx_bs h) {R : Nat} (hR : σ 5001 900 = nI R) (hR5 : R ≤ 5) {B : Nat} (hB : σ 5002 900 = nI B) (hB6 : B ≤ 6) {pk : Nat → Nat} (hpk : ∀ j, j < B → σ (5030 + j) 900 = nI (2 * pk j) ∧ pk j ≤ 6)  : XEx l m_X14_signals 5 0 0 [.ref 5000] (setM z σ h) (some (.int (f_Msignals σ R B pk))) (setM z σ h) := by
  refine XMet.of hl rfl rfl (Nat.le_of_ble_eq_true rfl) (fun Y O hh hQ => ?_)
  show SW Y 0 0 (setM z σ h) 0 [.ref 5000, xx_d, xx_d, xx_d] []
  refine sw_iconst (x := 0) O (xx_dt dd_X14_signals 0 rfl) (by decide) ?_
  refine sw_istore_n (ls2 := [.ref 5000, .int 0, xx_d, xx_d]) O (xx_dt dd_X14_signals 1 rfl) (by decide) rfl ?_
  refine sw_iconst (x := 0) O (xx_dt dd_X14_signals 2 rfl) (by decide) ?_
  refine sw_istore_n (ls2 := [.ref 5000, .int 0, .int 0, xx_d]) O (xx_dt dd_X14_signals 3 rfl) (by decide) rfl ?_
  refine sw_for (S := Int32) (fun i4 s4 => (x_Msignals_17 σ R B pk i4 s4)) (fun _ _ => True) (hp := fun _ => setM z σ h) (hd := 4) (lc := fun i4 s4 => [.ref 5000, .int s4, .int (nI i4), xx_d]) (N := B) (fun i4 s4 hi4 hP4 => ⟨trivial, fun kk4 => ?_⟩) B 0 0 (by omega) (trivial) (fun hP4 => ?_)
  · refine sw_iload_n O (xx_dt dd_X14_signals 4 rfl) rfl ?_
    refine sw_aload_n O (xx_dt dd_X14_signals 5 rfl) rfl ?_
    refine sw_get (v := .ref 5002) O (xx_dt dd_X14_signals 6 rfl) cl_X14 fl_X14_27 (lm_mod (σ := σ)) (by decide) rfl ?_
    refine sw_callVL (ci := 6) (as := []) (st := [.int (nI i4)]) (st2 := [.int (nI B), .int (nI i4)]) O (ct_AL_size hl (lm_5002 (σ := σ) (B := B) hB (by omega))) ce_Jx4a65c_size_8abf5 ml_X14_57 iv_Jx4a65c_size_8abf5 cl_Jx4a65c rfl (lm_5002 (σ := σ) (B := B) hB (by omega)) (xx_dt dd_X14_signals 7 rfl) (by decide) rfl rfl (Nat.le_of_ble_eq_true rfl) rfl ?_
    refine sw_icmp_ge (tgt := 64) O (xx_dt dd_X14_signals 8 rfl) (by decide) (fun q1 => ?_) (fun q1 => ?_)
    · exact absurd q1 (nI_ge (b := B) hi4 (by omega))
    · refine sw_iconst (x := 1) O (xx_dt dd_X14_signals 9 rfl) (by decide) ?_
      refine sw_istore_n (ls2 := [.ref 5000, .int s4, .int (nI i4), .int 1]) O (xx_dt dd_X14_signals 10 rfl) (by decide) rfl ?_
      refine sw_for (S := Int32) (fun i17 s17 => (if (f_MisSignal σ i4 (1 + i17) R B pk) = 0 then s17 + 0 else s17 + 1)) (fun _ _ => True) (hp := fun _ => setM z σ h) (hd := 17) (lc := fun i17 s17 => [.ref 5000, .int s17, .int (nI i4), .int (nI (1 + i17))]) (N := (pk i4 - 1)) (fun i17 s17 hi17 hP17 => ⟨trivial, fun kk17 => ?_⟩) (pk i4 - 1) 0 s4 (by omega) (trivial) (fun hP17 => ?_)
      · refine sw_iload_n O (xx_dt dd_X14_signals 11 rfl) rfl ?_
        refine sw_aload_n O (xx_dt dd_X14_signals 12 rfl) rfl ?_
        refine sw_get (v := .ref 5002) O (xx_dt dd_X14_signals 13 rfl) cl_X14 fl_X14_27 (lm_mod (σ := σ)) (by decide) rfl ?_
        refine sw_iload_n O (xx_dt dd_X14_signals 14 rfl) rfl ?_
        refine sw_callVL (ci := 6) (as := [.int (nI i4)]) (st := [.int (nI (1 + i17))]) (st2 := [.ref (5020 + i4), .int (nI (1 + i17))]) O (ct_get hl hbs (lm_5002 (σ := σ) (B := B) hB (by omega)) (by omega) (i := i4) (x := 5020 + i4) (by omega) (by omega) rfl) ce_Jx4a65c_get_915e3 ml_X14_61 iv_Jx4a65c_get_915e3 cl_Jx4a65c rfl (lm_5002 (σ := σ) (B := B) hB (by omega)) (xx_dt dd_X14_signals 15 rfl) (by decide) rfl rfl (Nat.le_of_ble_eq_true rfl) rfl ?_
        refine sw_castO O (xx_dt dd_X14_signals 16 rfl) cl_X9 (lm_bid (σ := σ) (B := B) hB (by omega) (j := i4) (by omega)) cw_X14_118 ?_
        have hq29 := (hpk i4 (by omega)).2
        refine sw_callVx (as := []) (st := [.int (nI (1 + i17))]) (st2 := [.int (nI (pk i4)), .int (nI (1 + i17))]) O ((show XEx _ _ _ _ _ _ _ (some (.int (nI (pk i4)))) _ from ct_X9_many hl (z := z) (σ := σ) hbs (B := B) hB (by omega) (j := i4) (by omega) (p := pk i4) (hpk i4 (by omega)).1 (by have h9 := (hpk i4 (by omega)).2; omega))) ce_X9_many ml_X14_210 iv_X9_many cl_X9 rfl (lm_bid (σ := σ) (B := B) hB (by omega) (j := i4) (by omega)) (xx_dt dd_X14_signals 17 rfl) (by decide) rfl rfl (Nat.le_of_ble_eq_true rfl) rfl ?_
        refine sw_icmp_ge (tgt := 58) O (xx_dt dd_X14_signals 18 rfl) (by decide) (fun q2 => ?_) (fun q2 => ?_)
        · exact absurd q2 (nI_ge (a := 1 + i17) (b := (pk i4)) (by omega) (by omega))
        · refine sw_iload_n O (xx_dt dd_X14_signals 19 rfl) rfl ?_
          refine sw_aload_n O (xx_dt dd_X14_signals 20 rfl) rfl ?_
          refine sw_iload_n O (xx_dt dd_X14_signals 21 rfl) rfl ?_
          refine sw_iload_n O (xx_dt dd_X14_signals 22 rfl) rfl ?_
          refine sw_callVx (as := [.int (nI i4), .int (nI (1 + i17))]) (st := [.int s17]) (st2 := [.int (f_MisSignal σ i4 (1 + i17) R B pk), .int s17]) O (ct_X14_isSignal hl (z := z) (σ := σ) hbs (R := R) hR (by omega) (B := B) hB (by omega) (pk := pk) hpk (i := i4) (k := 1 + i17) (by omega) (by omega)) ce_X14_isSignal ml_X14_356 iv_X14_isSignal cl_X14 rfl (lm_mod (σ := σ)) (xx_dt dd_X14_signals 23 rfl) (by decide) rfl rfl (Nat.le_of_ble_eq_true rfl) rfl ?_
          refine sw_if_eq (tgt := 49) O (xx_dt dd_X14_signals 24 rfl) (by decide) (fun q3 => ?_) (fun q3 => ?_)
          · refine sw_iconst (x := 0) O (xx_dt dd_X14_signals 27 rfl) (by decide) ?_
            refine sw_iadd O (xx_dt dd_X14_signals 28 rfl) ?_
            refine sw_istore_n (ls2 := [.ref 5000, .int (s17 + 0), .int (nI i4), .int (nI (1 + i17))]) O (xx_dt dd_X14_signals 29 rfl) (by decide) rfl ?_
            refine sw_iinc (y := nI (1 + i17 + 1)) (ls2 := [.ref 5000, .int (s17 + 0), .int (nI i4), .int (nI (1 + i17 + 1))]) O (xx_dt dd_X14_signals 30 rfl) rfl (nI_1 _) (by decide) rfl ?_
            refine sw_goto (tgt := 17) O (xx_dt dd_X14_signals 31 rfl) (by decide) ?_
            simp only [if_pos q3] at kk17
            exact kk17
          · refine sw_iconst (x := 1) O (xx_dt dd_X14_signals 25 rfl) (by decide) ?_
            refine sw_goto (tgt := 50) O (xx_dt dd_X14_signals 26 rfl) (by decide) ?_
            refine sw_iadd O (xx_dt dd_X14_signals 28 rfl) ?_
            refine sw_istore_n (ls2 := [.ref 5000, .int (s17 + 1), .int (nI i4), .int (nI (1 + i17))]) O (xx_dt dd_X14_signals 29 rfl) (by decide) rfl ?_
            refine sw_iinc (y := nI (1 + i17 + 1)) (ls2 := [.ref 5000, .int (s17 + 1), .int (nI i4), .int (nI (1 + i17 + 1))]) O (xx_dt dd_X14_signals 30 rfl) rfl (nI_1 _) (by decide) rfl ?_
            refine sw_goto (tgt := 17) O (xx_dt dd_X14_signals 31 rfl) (by decide) ?_
            simp only [if_neg q3] at kk17
            exact kk17
      · show SW Y _ _ (setM z σ h) 17 [.ref 5000, .int (x_Msignals_17 σ R B pk i4 s4), .int (nI i4), .int (nI (1 + (pk i4 - 1)))] []
        refine sw_iload_n O (xx_dt dd_X14_signals 11 rfl) rfl ?_
        refine sw_aload_n O (xx_dt dd_X14_signals 12 rfl) rfl ?_
        refine sw_get (v := .ref 5002) O (xx_dt dd_X14_signals 13 rfl) cl_X14 fl_X14_27 (lm_mod (σ := σ)) (by decide) rfl ?_
        refine sw_iload_n O (xx_dt dd_X14_signals 14 rfl) rfl ?_
        refine sw_callVL (ci := 6) (as := [.int (nI i4)]) (st := [.int (nI (1 + (pk i4 - 1)))]) (st2 := [.ref (5020 + i4), .int (nI (1 + (pk i4 - 1)))]) O (ct_get hl hbs (lm_5002 (σ := σ) (B := B) hB (by omega)) (by omega) (i := i4) (x := 5020 + i4) (by omega) (by omega) rfl) ce_Jx4a65c_get_915e3 ml_X14_61 iv_Jx4a65c_get_915e3 cl_Jx4a65c rfl (lm_5002 (σ := σ) (B := B) hB (by omega)) (xx_dt dd_X14_signals 15 rfl) (by decide) rfl rfl (Nat.le_of_ble_eq_true rfl) rfl ?_
        refine sw_castO O (xx_dt dd_X14_signals 16 rfl) cl_X9 (lm_bid (σ := σ) (B := B) hB (by omega) (j := i4) (by omega)) cw_X14_118 ?_
        have hq29 := (hpk i4 (by omega)).2
        refine sw_callVx (as := []) (st := [.int (nI (1 + (pk i4 - 1)))]) (st2 := [.int (nI (pk i4)), .int (nI (1 + (pk i4 - 1)))]) O ((show XEx _ _ _ _ _ _ _ (some (.int (nI (pk i4)))) _ from ct_X9_many hl (z := z) (σ := σ) hbs (B := B) hB (by omega) (j := i4) (by omega) (p := pk i4) (hpk i4 (by omega)).1 (by have h9 := (hpk i4 (by omega)).2; omega))) ce_X9_many ml_X14_210 iv_X9_many cl_X9 rfl (lm_bid (σ := σ) (B := B) hB (by omega) (j := i4) (by omega)) (xx_dt dd_X14_signals 17 rfl) (by decide) rfl rfl (Nat.le_of_ble_eq_true rfl) rfl ?_
        refine sw_icmp_ge (tgt := 58) O (xx_dt dd_X14_signals 18 rfl) (by decide) (fun q2 => ?_) (fun q2 => ?_)
        · refine sw_iinc (y := nI (i4 + 1)) (ls2 := [.ref 5000, .int (x_Msignals_17 σ R B pk i4 s4), .int (nI (i4 + 1)), .int (nI (1 + (pk i4 - 1)))]) O (xx_dt dd_X14_signals 32 rfl) rfl (nI_1 _) (by decide) rfl ?_
          refine sw_goto (tgt := 4) O (xx_dt dd_X14_signals 33 rfl) (by decide) ?_
          refine sw_dum (ls2 := [.ref 5000, .int (x_Msignals_17 σ R B pk i4 s4), .int (nI (i4 + 1)), xx_d]) ⟨.inr rfl, .inr rfl, .inr rfl, .inl rfl, trivial⟩ ?_
          exact kk4
        · exact absurd ((nI_leI (a := (pk i4)) (b := 1 + (pk i4 - 1)) (by omega) (by omega)).mpr (by omega)) q2
  · show SW Y _ _ (setM z σ h) 4 [.ref 5000, .int (x_Msignals_4 σ R B pk 0), .int (nI B), xx_d] []
    refine sw_iload_n O (xx_dt dd_X14_signals 4 rfl) rfl ?_
    refine sw_aload_n O (xx_dt dd_X14_signals 5 rfl) rfl ?_
    refine sw_get (v := .ref 5002) O (xx_dt dd_X14_signals 6 rfl) cl_X14 fl_X14_27 (lm_mod (σ := σ)) (by decide) rfl ?_
    refine sw_callVL (ci := 6) (as := []) (st := [.int (nI B)]) (st2 := [.int (nI B), .int (nI B)]) O (ct_AL_size hl (lm_5002 (σ := σ) (B := B) hB (by omega))) ce_Jx4a65c_size_8abf5 ml_X14_57 iv_Jx4a65c_size_8abf5 cl_Jx4a65c rfl (lm_5002 (σ := σ) (B := B) hB (by omega)) (xx_dt dd_X14_signals 7 rfl) (by decide) rfl rfl (Nat.le_of_ble_eq_true rfl) rfl ?_
    refine sw_icmp_ge (tgt := 64) O (xx_dt dd_X14_signals 8 rfl) (by decide) (fun q1 => ?_) (fun q1 => ?_)
    · refine sw_iload_n O (xx_dt dd_X14_signals 34 rfl) rfl ?_
      exact sw_iret O (xx_dt dd_X14_signals 35 rfl) rfl rfl (by rw [hQ]; exact ⟨by unfold f_Msignals; rfl, rfl⟩)
    · exact absurd (Int32.le_refl _) q1
def f_MareDisturbing (σ : XS9) (i j : Nat) (rg : Nat → Nat) : Int32 := (if (nI (rg i)) = (nI (rg j)) then 1 else (if (((σ (5010 + rg i) 3) >>> ((nI (rg j)) &&& 31)) &&& 1) = 1 then 1 else 0))
theorem ct_X14_areDisturbing {l : Launch} {h : XH} (hl : l.stackTraces = false) {z : Int64} {σ : XS9} (hbs : xx_bs h) {R : Nat} (hR : σ 5001 900 = nI R) (hR5 : R ≤ 5) {C : Nat} (hS : σ 5004 900 = nI (2 * C)) (hC10 : C ≤ 10) {rg : Nat → Nat} (hrg : ∀ q, q < C → σ 5004 (2 * q) = nI (rg q) ∧ rg q < R) {i j : Nat} (hi : i < C) (hj : j < C)  : XEx l m_X14_areDisturbing 3 0 0 [.ref 5000, .int (nI i), .int (nI j)] (setM z σ h) (some (.int (f_MareDisturbing σ i j rg))) (setM z σ h) := by
  refine XMet.of hl rfl rfl (Nat.le_of_ble_eq_true rfl) (fun Y O hh hQ => ?_)
  show SW Y 0 0 (setM z σ h) 0 [.ref 5000, .int (nI i), .int (nI j), xx_d, xx_d] []
  refine sw_aload_n O (xx_dt dd_X14_areDisturbing 0 rfl) rfl ?_
  refine sw_get (v := .ref 5004) O (xx_dt dd_X14_areDisturbing 1 rfl) cl_X14 fl_X14_33 (lm_mod (σ := σ)) (by decide) rfl ?_
  refine sw_iconst (x := 2) O (xx_dt dd_X14_areDisturbing 2 rfl) (by decide) ?_
  refine sw_iload_n O (xx_dt dd_X14_areDisturbing 3 rfl) rfl ?_
  refine sw_imul O (xx_dt dd_X14_areDisturbing 4 rfl) ?_
  have hx6 := trivial
  rw [nI_dbl]
  refine sw_callVL (ci := 6) (as := [.int (nI (2 * i))]) (st := []) (st2 := [.ref (xx_box (σ 5004 (2 * i)) (nmS σ (2 * i)))]) O (ct_get hl hbs (lm_5004 (σ := σ) (S := 2 * C) hS (by omega)) (by omega) (i := 2 * i) (x := xx_box (σ 5004 (2 * i)) (nmS σ (2 * i))) (by omega) (by omega) rfl) ce_Jx4a65c_get_915e3 ml_X14_61 iv_Jx4a65c_get_915e3 cl_Jx4a65c rfl (lm_5004 (σ := σ) (S := 2 * C) hS (by omega)) (xx_dt dd_X14_areDisturbing 5 rfl) (by decide) rfl rfl (Nat.le_of_ble_eq_true rfl) rfl ?_
  refine sw_castO O (xx_dt dd_X14_areDisturbing 6 rfl) cl_J6 (lm_sbox (σ := σ) hbs (S := 2 * C) hS (by omega) (k := 2 * i) (by omega)) cw_X14_113 ?_
  have hz13 := (hrg i (by omega)).2
  refine sw_callVx (as := []) (st := []) (st2 := [.int (nI (rg i))]) O (ct_intValue hl (lm_sbox (σ := σ) hbs (S := 2 * C) hS (by omega) (k := 2 * i) (by omega)) (congrArg Value.int (hrg i (by omega)).1)) ce_J6_intValue_8abf5 ml_X14_265 iv_J6_intValue_8abf5 cl_J6 rfl (lm_sbox (σ := σ) hbs (S := 2 * C) hS (by omega) (k := 2 * i) (by omega)) (xx_dt dd_X14_areDisturbing 7 rfl) (by decide) rfl rfl (Nat.le_of_ble_eq_true rfl) rfl ?_
  refine sw_istore_n (ls2 := [.ref 5000, .int (nI i), .int (nI j), .int (nI (rg i)), xx_d]) O (xx_dt dd_X14_areDisturbing 8 rfl) (by decide) rfl ?_
  refine sw_aload_n O (xx_dt dd_X14_areDisturbing 9 rfl) rfl ?_
  refine sw_get (v := .ref 5004) O (xx_dt dd_X14_areDisturbing 10 rfl) cl_X14 fl_X14_33 (lm_mod (σ := σ)) (by decide) rfl ?_
  refine sw_iconst (x := 2) O (xx_dt dd_X14_areDisturbing 11 rfl) (by decide) ?_
  refine sw_iload_n O (xx_dt dd_X14_areDisturbing 12 rfl) rfl ?_
  refine sw_imul O (xx_dt dd_X14_areDisturbing 13 rfl) ?_
  have hx23 := trivial
  rw [nI_dbl]
  refine sw_callVL (ci := 6) (as := [.int (nI (2 * j))]) (st := []) (st2 := [.ref (xx_box (σ 5004 (2 * j)) (nmS σ (2 * j)))]) O (ct_get hl hbs (lm_5004 (σ := σ) (S := 2 * C) hS (by omega)) (by omega) (i := 2 * j) (x := xx_box (σ 5004 (2 * j)) (nmS σ (2 * j))) (by omega) (by omega) rfl) ce_Jx4a65c_get_915e3 ml_X14_61 iv_Jx4a65c_get_915e3 cl_Jx4a65c rfl (lm_5004 (σ := σ) (S := 2 * C) hS (by omega)) (xx_dt dd_X14_areDisturbing 14 rfl) (by decide) rfl rfl (Nat.le_of_ble_eq_true rfl) rfl ?_
  refine sw_castO O (xx_dt dd_X14_areDisturbing 15 rfl) cl_J6 (lm_sbox (σ := σ) hbs (S := 2 * C) hS (by omega) (k := 2 * j) (by omega)) cw_X14_113 ?_
  have hz30 := (hrg j (by omega)).2
  refine sw_callVx (as := []) (st := []) (st2 := [.int (nI (rg j))]) O (ct_intValue hl (lm_sbox (σ := σ) hbs (S := 2 * C) hS (by omega) (k := 2 * j) (by omega)) (congrArg Value.int (hrg j (by omega)).1)) ce_J6_intValue_8abf5 ml_X14_265 iv_J6_intValue_8abf5 cl_J6 rfl (lm_sbox (σ := σ) hbs (S := 2 * C) hS (by omega) (k := 2 * j) (by omega)) (xx_dt dd_X14_areDisturbing 16 rfl) (by decide) rfl rfl (Nat.le_of_ble_eq_true rfl) rfl ?_
  refine sw_istore (ls2 := [.ref 5000, .int (nI i), .int (nI j), .int (nI (rg i)), .int (nI (rg j))]) O (xx_dt dd_X14_areDisturbing 17 rfl) (by decide) rfl ?_
  refine sw_iload_n O (xx_dt dd_X14_areDisturbing 18 rfl) rfl ?_
  refine sw_iload O (xx_dt dd_X14_areDisturbing 19 rfl) rfl ?_
  refine sw_icmp_eq (tgt := 64) O (xx_dt dd_X14_areDisturbing 20 rfl) (by decide) (fun q1 => ?_) (fun q1 => ?_)
  · refine sw_iconst (x := 1) O (xx_dt dd_X14_areDisturbing 33 rfl) (by decide) ?_
    refine sw_goto (tgt := 69) O (xx_dt dd_X14_areDisturbing 34 rfl) (by decide) ?_
    exact sw_iret O (xx_dt dd_X14_areDisturbing 36 rfl) rfl rfl (by rw [hQ]; exact ⟨by unfold f_MareDisturbing; simp only [if_pos q1], rfl⟩)
  · refine sw_aload_n O (xx_dt dd_X14_areDisturbing 21 rfl) rfl ?_
    refine sw_get (v := .ref 5001) O (xx_dt dd_X14_areDisturbing 22 rfl) cl_X14 fl_X14_23 (lm_mod (σ := σ)) (by decide) rfl ?_
    refine sw_iload_n O (xx_dt dd_X14_areDisturbing 23 rfl) rfl ?_
    refine sw_callVL (ci := 6) (as := [.int (nI (rg i))]) (st := []) (st2 := [.ref (5010 + rg i)]) O (ct_get hl hbs (lm_5001 (σ := σ) (R := R) hR (by omega)) (by omega) (i := rg i) (x := 5010 + rg i) (by omega) (by omega) rfl) ce_Jx4a65c_get_915e3 ml_X14_61 iv_Jx4a65c_get_915e3 cl_Jx4a65c rfl (lm_5001 (σ := σ) (R := R) hR (by omega)) (xx_dt dd_X14_areDisturbing 24 rfl) (by decide) rfl rfl (Nat.le_of_ble_eq_true rfl) rfl ?_
    refine sw_castO O (xx_dt dd_X14_areDisturbing 25 rfl) cl_X12 (lm_reg (σ := σ) (R := R) hR (by omega) (j := rg i) (by omega)) cw_X14_65 ?_
    refine sw_get (v := .int (σ (5010 + rg i) 3)) O (xx_dt dd_X14_areDisturbing 26 rfl) cl_X12 fl_X14_95 (lm_reg (σ := σ) (R := R) hR (by omega) (j := rg i) (by omega)) (by decide) rfl ?_
    refine sw_iload O (xx_dt dd_X14_areDisturbing 27 rfl) rfl ?_
    refine sw_ishr O (xx_dt dd_X14_areDisturbing 28 rfl) ?_
    refine sw_iconst (x := 1) O (xx_dt dd_X14_areDisturbing 29 rfl) (by decide) ?_
    refine sw_iand O (xx_dt dd_X14_areDisturbing 30 rfl) ?_
    refine sw_iconst (x := 1) O (xx_dt dd_X14_areDisturbing 31 rfl) (by decide) ?_
    refine sw_icmp_ne (tgt := 68) O (xx_dt dd_X14_areDisturbing 32 rfl) (by decide) (fun q2 => ?_) (fun q2 => ?_)
    · refine sw_iconst (x := 0) O (xx_dt dd_X14_areDisturbing 35 rfl) (by decide) ?_
      exact sw_iret O (xx_dt dd_X14_areDisturbing 36 rfl) rfl rfl (by rw [hQ]; exact ⟨by unfold f_MareDisturbing; simp only [if_neg q1, if_neg q2], rfl⟩)
    · refine sw_iconst (x := 1) O (xx_dt dd_X14_areDisturbing 33 rfl) (by decide) ?_
      refine sw_goto (tgt := 69) O (xx_dt dd_X14_areDisturbing 34 rfl) (by decide) ?_
      exact sw_iret O (xx_dt dd_X14_areDisturbing 36 rfl) rfl rfl (by rw [hQ]; exact ⟨by unfold f_MareDisturbing; simp only [if_neg q1, if_pos q2], rfl⟩)
def x_MisFree_2 (σ : XS9) (x : Int32) (j : Nat) (rg : Nat → Nat) (s0 : Unit) : Unit ⊕ Int32 := xitR (fun i2 s2 => (if ((x >>> ((nI i2) &&& 31)) &&& 1) = 1 then (if (f_MareDisturbing σ i2 j rg) = 0 then .inl () else .inr 0) else .inl ())) j 0 s0
def f_MisFree (σ : XS9) (x : Int32) (j : Nat) (rg : Nat → Nat) : Int32 := (match (x_MisFree_2 σ x j rg ()) with | .inl s2 => 1 | .inr r2 => r2)
theorem ct_X14_isFree {l : Launch} {h : XH} (hl : l.stackTraces = false) {z : Int64} {σ : XS9} (hbs : xx_bs h) {R : Nat} (hR : σ 5001 900 = nI R) (hR5 : R ≤ 5) {C : Nat} (hS : σ 5004 900 = nI (2 * C)) (hC10 : C ≤ 10) {rg : Nat → Nat} (hrg : ∀ q, q < C → σ 5004 (2 * q) = nI (rg q) ∧ rg q < R) {x : Int32} {j : Nat} (hj : j < C)  : XEx l m_X14_isFree 4 0 0 [.ref 5000, .int x, .int (nI j)] (setM z σ h) (some (.int (f_MisFree σ x j rg))) (setM z σ h) := by
  refine XMet.of hl rfl rfl (Nat.le_of_ble_eq_true rfl) (fun Y O hh hQ => ?_)
  show SW Y 0 0 (setM z σ h) 0 [.ref 5000, .int x, .int (nI j), xx_d] []
  refine sw_iconst (x := 0) O (xx_dt dd_X14_isFree 0 rfl) (by decide) ?_
  refine sw_istore_n (ls2 := [.ref 5000, .int x, .int (nI j), .int 0]) O (xx_dt dd_X14_isFree 1 rfl) (by decide) rfl ?_
  refine sw_forR (S := Unit) (R := Int32) (fun i2 s2 => (if ((x >>> ((nI i2) &&& 31)) &&& 1) = 1 then (if (f_MareDisturbing σ i2 j rg) = 0 then .inl () else .inr 0) else .inl ())) (fun _ _ => True) (FR := fun r9 => f_MisFree σ x j rg = r9) (hp := fun _ => setM z σ h) (hd := 2) (lc := fun i2 s2 => [.ref 5000, .int x, .int (nI j), .int (nI i2)]) (N := j) (fun i2 s2 hi2 hP2 => ⟨fun _ _ => trivial, fun kk2 kr2 => ?_⟩) j 0 () (by omega) (trivial) (fun sN2 eN2 hP2 => ?_) (fun r2 eN2 => ?_)
  · refine sw_iload_n O (xx_dt dd_X14_isFree 2 rfl) rfl ?_
    refine sw_iload_n O (xx_dt dd_X14_isFree 3 rfl) rfl ?_
    refine sw_icmp_ge (tgt := 33) O (xx_dt dd_X14_isFree 4 rfl) (by decide) (fun q1 => ?_) (fun q1 => ?_)
    · exact absurd q1 (nI_ge (b := j) hi2 (by omega))
    · refine sw_iload_n O (xx_dt dd_X14_isFree 5 rfl) rfl ?_
      refine sw_iload_n O (xx_dt dd_X14_isFree 6 rfl) rfl ?_
      refine sw_ishr O (xx_dt dd_X14_isFree 7 rfl) ?_
      refine sw_iconst (x := 1) O (xx_dt dd_X14_isFree 8 rfl) (by decide) ?_
      refine sw_iand O (xx_dt dd_X14_isFree 9 rfl) ?_
      refine sw_iconst (x := 1) O (xx_dt dd_X14_isFree 10 rfl) (by decide) ?_
      refine sw_icmp_ne (tgt := 27) O (xx_dt dd_X14_isFree 11 rfl) (by decide) (fun q2 => ?_) (fun q2 => ?_)
      · refine sw_iinc (y := nI (i2 + 1)) (ls2 := [.ref 5000, .int x, .int (nI j), .int (nI (i2 + 1))]) O (xx_dt dd_X14_isFree 19 rfl) rfl (nI_1 _) (by decide) rfl ?_
        refine sw_goto (tgt := 2) O (xx_dt dd_X14_isFree 20 rfl) (by decide) ?_
        exact kk2 () (by simp only [if_neg q2])
      · refine sw_aload_n O (xx_dt dd_X14_isFree 12 rfl) rfl ?_
        refine sw_iload_n O (xx_dt dd_X14_isFree 13 rfl) rfl ?_
        refine sw_iload_n O (xx_dt dd_X14_isFree 14 rfl) rfl ?_
        refine sw_callVx (as := [.int (nI i2), .int (nI j)]) (st := []) (st2 := [.int (f_MareDisturbing σ i2 j rg)]) O (ct_X14_areDisturbing hl (z := z) (σ := σ) hbs (R := R) hR (by omega) (C := C) hS (by omega) (rg := rg) hrg (i := i2) (j := j) (by omega) (by omega)) ce_X14_areDisturbing ml_X14_276 iv_X14_areDisturbing cl_X14 rfl (lm_mod (σ := σ)) (xx_dt dd_X14_isFree 15 rfl) (by decide) rfl rfl (Nat.le_of_ble_eq_true rfl) rfl ?_
        refine sw_if_eq (tgt := 27) O (xx_dt dd_X14_isFree 16 rfl) (by decide) (fun q3 => ?_) (fun q3 => ?_)
        · refine sw_iinc (y := nI (i2 + 1)) (ls2 := [.ref 5000, .int x, .int (nI j), .int (nI (i2 + 1))]) O (xx_dt dd_X14_isFree 19 rfl) rfl (nI_1 _) (by decide) rfl ?_
          refine sw_goto (tgt := 2) O (xx_dt dd_X14_isFree 20 rfl) (by decide) ?_
          exact kk2 () (by simp only [if_pos q2, if_pos q3])
        · refine sw_iconst (x := 0) O (xx_dt dd_X14_isFree 17 rfl) (by decide) ?_
          exact sw_iret O (xx_dt dd_X14_isFree 18 rfl) rfl rfl (by rw [hQ, kr2 0 (by simp only [if_pos q2, if_neg q3])]; exact ⟨rfl, rfl⟩)
  · show SW Y _ _ (setM z σ h) 2 [.ref 5000, .int x, .int (nI j), .int (nI j)] []
    refine sw_iload_n O (xx_dt dd_X14_isFree 2 rfl) rfl ?_
    refine sw_iload_n O (xx_dt dd_X14_isFree 3 rfl) rfl ?_
    refine sw_icmp_ge (tgt := 33) O (xx_dt dd_X14_isFree 4 rfl) (by decide) (fun q1 => ?_) (fun q1 => ?_)
    · refine sw_iconst (x := 1) O (xx_dt dd_X14_isFree 21 rfl) (by decide) ?_
      exact sw_iret O (xx_dt dd_X14_isFree 22 rfl) rfl rfl (by rw [hQ]; exact ⟨by unfold f_MisFree; simp only [x_MisFree_2, eN2], rfl⟩)
    · exact absurd (Int32.le_refl _) q1
  · unfold f_MisFree; simp only [x_MisFree_2, eN2]
