/-! ===== the reference: what is asked of it ===== -/
theorem nI_2 {a : Nat} : nI (2 * a) + 2 = nI (2 * (a + 1)) := by
  rw [show (2 : Int32) = nI 2 from rfl, nI_add', show 2 * a + 2 = 2 * (a + 1) by omega]
def f_MheldCode_c (σ : XS9) (i : Nat) (g : Nat) : Int32 := σ (7000 + 2) i
theorem ct_MheldCode_c {l : Launch} {h : XH} (hl : l.stackTraces = false) {z : Int64} {σ : XS9} (hbs : xx_bs h) {i : Nat} (hi : i < 6) (hf : σ 7000 20 = nI 1) (hf5 : σ 7000 25 = nI 1) {g : Nat} (hg : σ 7000 23 = nI g) (hg1 : g < 200) {w : Nat} (hw : σ 7000 24 = nI w) (hw1 : w < 200)  : XEx l m_X14_heldCode 0 0 0 [.ref 5000, .int (nI i)] (setM z σ h) (some (.int (f_MheldCode_c σ i g))) (setM z σ h) := by
  refine XMet.of hl rfl rfl (Nat.le_of_ble_eq_true rfl) (fun Y O hh hQ => ?_)
  show SW Y 0 0 (setM z σ h) 0 [.ref 5000, .int (nI i)] []
  refine sw_aload_n O (xx_dt dd_X14_heldCode 0 rfl) rfl ?_
  refine sw_get (v := .ref 7000) O (xx_dt dd_X14_heldCode 1 rfl) cl_X14 fl_X14_141 (lm_modC (σ := σ) (fl1 hf5)) (by decide) rfl ?_
  refine sw_ifnonnull (tgt := 11) O (xx_dt dd_X14_heldCode 2 rfl) (by decide) ?_
  refine sw_aload_n O (xx_dt dd_X14_heldCode 5 rfl) rfl ?_
  refine sw_get (v := .ref 7000) O (xx_dt dd_X14_heldCode 6 rfl) cl_X14 fl_X14_141 (lm_modC (σ := σ) (fl1 hf5)) (by decide) rfl ?_
  refine sw_get (v := .ref (7000 + 2)) O (xx_dt dd_X14_heldCode 7 rfl) cl_X11 fl_X14_192 (lm_clk (σ := σ) (b := 7000) (.inl rfl) (fl1 hf) (g := g) hg (by omega) (w := w) hw (by omega)) (by decide) rfl ?_
  refine sw_iload_n O (xx_dt dd_X14_heldCode 8 rfl) rfl ?_
  refine sw_iaload (v := .int (σ (7000 + 2) i)) O (xx_dt dd_X14_heldCode 9 rfl) ((im_khe (z := z) (σ := σ) (b := 7000) (.inl rfl) hf).get _) (pk_in i _ (by omega)) (by rw [nI_clamp (by omega)]; try exact rfl) ?_
  exact sw_iret O (xx_dt dd_X14_heldCode 10 rfl) rfl rfl (by rw [hQ]; exact ⟨by unfold f_MheldCode_c; rfl, rfl⟩)
def f_MheldCode_n (σ : XS9) (i : Nat) : Int32 := 0
theorem ct_MheldCode_n {l : Launch} {h : XH} (hl : l.stackTraces = false) {z : Int64} {σ : XS9} (hbs : xx_bs h) {i : Nat} (hi : i < 6) (hf5 : σ 7000 25 = nI 0)  : XEx l m_X14_heldCode 0 0 0 [.ref 5000, .int (nI i)] (setM z σ h) (some (.int (f_MheldCode_n σ i))) (setM z σ h) := by
  refine XMet.of hl rfl rfl (Nat.le_of_ble_eq_true rfl) (fun Y O hh hQ => ?_)
  show SW Y 0 0 (setM z σ h) 0 [.ref 5000, .int (nI i)] []
  refine sw_aload_n O (xx_dt dd_X14_heldCode 0 rfl) rfl ?_
  refine sw_get (v := .null) O (xx_dt dd_X14_heldCode 1 rfl) cl_X14 fl_X14_141 (lm_modN (σ := σ) hf5) (by decide) rfl ?_
  refine sw_ifnonnullN O (xx_dt dd_X14_heldCode 2 rfl) ?_
  refine sw_iconst (x := 0) O (xx_dt dd_X14_heldCode 3 rfl) (by decide) ?_
  refine sw_goto (tgt := 20) O (xx_dt dd_X14_heldCode 4 rfl) (by decide) ?_
  exact sw_iret O (xx_dt dd_X14_heldCode 10 rfl) rfl rfl (by rw [hQ]; exact ⟨by unfold f_MheldCode_n; rfl, rfl⟩)
def f_MheldCode (σ : XS9) (i : Nat) (g : Nat) : Int32 := if σ 7000 25 = 0 then f_MheldCode_n σ i else f_MheldCode_c σ i g
theorem ct_MheldCode {l : Launch} {h : XH} (hl : l.stackTraces = false) {z : Int64} {σ : XS9} (hbs : xx_bs h) {i : Nat} (hi : i < 6) (hfl : σ 7000 25 = nI 0 ∨ (σ 7000 25 = nI 1 ∧ σ 7000 20 = nI 1)) {g : Nat} (hg : σ 7000 23 = nI g) (hg1 : g < 200) {w : Nat} (hw : σ 7000 24 = nI w) (hw1 : w < 200) : XEx l m_X14_heldCode 0 0 0 [.ref 5000, .int (nI i)] (setM z σ h) (some (.int (f_MheldCode σ i g))) (setM z σ h) := by
  unfold f_MheldCode
  rcases hfl with hf5 | ⟨hf5, hf⟩
  · rw [if_pos (by rw [hf5]; rfl)]
    exact ct_MheldCode_n hl hbs hi hf5
  · rw [if_neg (fl1 hf5)]
    exact ct_MheldCode_c hl hbs hi hf hf5 hg hg1 hw hw1
def f_MwishedCode_c (σ : XS9) (i : Nat) (g : Nat) : Int32 := σ (7000 + 500 + g) i
theorem ct_MwishedCode_c {l : Launch} {h : XH} (hl : l.stackTraces = false) {z : Int64} {σ : XS9} (hbs : xx_bs h) {i : Nat} (hi : i < 6) (hf : σ 7000 20 = nI 1) (hf5 : σ 7000 25 = nI 1) {g : Nat} (hg : σ 7000 23 = nI g) (hg1 : g < 200) {w : Nat} (hw : σ 7000 24 = nI w) (hw1 : w < 200)  : XEx l m_X14_wishedCode 0 0 0 [.ref 5000, .int (nI i)] (setM z σ h) (some (.int (f_MwishedCode_c σ i g))) (setM z σ h) := by
  refine XMet.of hl rfl rfl (Nat.le_of_ble_eq_true rfl) (fun Y O hh hQ => ?_)
  show SW Y 0 0 (setM z σ h) 0 [.ref 5000, .int (nI i)] []
  refine sw_aload_n O (xx_dt dd_X14_wishedCode 0 rfl) rfl ?_
  refine sw_get (v := .ref 7000) O (xx_dt dd_X14_wishedCode 1 rfl) cl_X14 fl_X14_141 (lm_modC (σ := σ) (fl1 hf5)) (by decide) rfl ?_
  refine sw_ifnonnull (tgt := 11) O (xx_dt dd_X14_wishedCode 2 rfl) (by decide) ?_
  refine sw_aload_n O (xx_dt dd_X14_wishedCode 5 rfl) rfl ?_
  refine sw_get (v := .ref 7000) O (xx_dt dd_X14_wishedCode 6 rfl) cl_X14 fl_X14_141 (lm_modC (σ := σ) (fl1 hf5)) (by decide) rfl ?_
  refine sw_get (v := .ref (7000 + 500 + g)) O (xx_dt dd_X14_wishedCode 7 rfl) cl_X11 fl_X14_145 (lm_clk (σ := σ) (b := 7000) (.inl rfl) (fl1 hf) (g := g) hg (by omega) (w := w) hw (by omega)) (by decide) rfl ?_
  refine sw_iload_n O (xx_dt dd_X14_wishedCode 8 rfl) rfl ?_
  refine sw_iaload (v := .int (σ (7000 + 500 + g) i)) O (xx_dt dd_X14_wishedCode 9 rfl) ((im_wsh (z := z) (σ := σ) (b := 7000) (.inl rfl) hf (g := g) hg (by omega) (j := g) (by omega)).get _) (pk_in i _ (by omega)) (by rw [nI_clamp (by omega)]; try exact rfl) ?_
  exact sw_iret O (xx_dt dd_X14_wishedCode 10 rfl) rfl rfl (by rw [hQ]; exact ⟨by unfold f_MwishedCode_c; rfl, rfl⟩)
def f_MwishedCode_n (σ : XS9) (i : Nat) : Int32 := 0
theorem ct_MwishedCode_n {l : Launch} {h : XH} (hl : l.stackTraces = false) {z : Int64} {σ : XS9} (hbs : xx_bs h) {i : Nat} (hi : i < 6) (hf5 : σ 7000 25 = nI 0)  : XEx l m_X14_wishedCode 0 0 0 [.ref 5000, .int (nI i)] (setM z σ h) (some (.int (f_MwishedCode_n σ i))) (setM z σ h) := by
  refine XMet.of hl rfl rfl (Nat.le_of_ble_eq_true rfl) (fun Y O hh hQ => ?_)
  show SW Y 0 0 (setM z σ h) 0 [.ref 5000, .int (nI i)] []
  refine sw_aload_n O (xx_dt dd_X14_wishedCode 0 rfl) rfl ?_
  refine sw_get (v := .null) O (xx_dt dd_X14_wishedCode 1 rfl) cl_X14 fl_X14_141 (lm_modN (σ := σ) hf5) (by decide) rfl ?_
  refine sw_ifnonnullN O (xx_dt dd_X14_wishedCode 2 rfl) ?_
  refine sw_iconst (x := 0) O (xx_dt dd_X14_wishedCode 3 rfl) (by decide) ?_
  refine sw_goto (tgt := 20) O (xx_dt dd_X14_wishedCode 4 rfl) (by decide) ?_
  exact sw_iret O (xx_dt dd_X14_wishedCode 10 rfl) rfl rfl (by rw [hQ]; exact ⟨by unfold f_MwishedCode_n; rfl, rfl⟩)
def f_MwishedCode (σ : XS9) (i : Nat) (g : Nat) : Int32 := if σ 7000 25 = 0 then f_MwishedCode_n σ i else f_MwishedCode_c σ i g
theorem ct_MwishedCode {l : Launch} {h : XH} (hl : l.stackTraces = false) {z : Int64} {σ : XS9} (hbs : xx_bs h) {i : Nat} (hi : i < 6) (hfl : σ 7000 25 = nI 0 ∨ (σ 7000 25 = nI 1 ∧ σ 7000 20 = nI 1)) {g : Nat} (hg : σ 7000 23 = nI g) (hg1 : g < 200) {w : Nat} (hw : σ 7000 24 = nI w) (hw1 : w < 200) : XEx l m_X14_wishedCode 0 0 0 [.ref 5000, .int (nI i)] (setM z σ h) (some (.int (f_MwishedCode σ i g))) (setM z σ h) := by
  unfold f_MwishedCode
  rcases hfl with hf5 | ⟨hf5, hf⟩
  · rw [if_pos (by rw [hf5]; rfl)]
    exact ct_MwishedCode_n hl hbs hi hf5
  · rw [if_neg (fl1 hf5)]
    exact ct_MwishedCode_c hl hbs hi hf hf5 hg hg1 hw hw1
def x_MstationsIn_4 (σ : XS9) (x : Int32) (C : Nat) (s0 : Int32) : Int32 := xit (fun i4 s4 => (if (σ 5004 (2 * i4)) = x then s4 + 1 else s4 + 0)) C 0 s0
def f_MstationsIn (σ : XS9) (x : Int32) (C : Nat) : Int32 := (x_MstationsIn_4 σ x C 0)
theorem ct_X14_stationsIn {l : Launch} {h : XH} (hl : l.stackTraces = false) {z : Int64} {σ : XS9} (hbs : xx_bs h) {C : Nat} (hS : σ 5004 900 = nI (2 * C)) (hC10 : C ≤ 10) {x : Int32} : XEx l m_X14_stationsIn 3 0 0 [.ref 5000, .int x] (setM z σ h) (some (.int (f_MstationsIn σ x C))) (setM z σ h) := by
  refine XMet.of hl rfl rfl (Nat.le_of_ble_eq_true rfl) (fun Y O hh hQ => ?_)
  show SW Y 0 0 (setM z σ h) 0 [.ref 5000, .int x, xx_d, xx_d] []
  refine sw_iconst (x := 0) O (xx_dt dd_X14_stationsIn 0 rfl) (by decide) ?_
  refine sw_istore_n (ls2 := [.ref 5000, .int x, .int 0, xx_d]) O (xx_dt dd_X14_stationsIn 1 rfl) (by decide) rfl ?_
  refine sw_iconst (x := 0) O (xx_dt dd_X14_stationsIn 2 rfl) (by decide) ?_
  refine sw_istore_n (ls2 := [.ref 5000, .int x, .int 0, .int 0]) O (xx_dt dd_X14_stationsIn 3 rfl) (by decide) rfl ?_
  refine sw_for (S := Int32) (fun i4 s4 => (if (σ 5004 (2 * i4)) = x then s4 + 1 else s4 + 0)) (fun _ _ => True) (hp := fun _ => setM z σ h) (hd := 4) (lc := fun i4 s4 => [.ref 5000, .int x, .int s4, .int (nI (2 * i4))]) (N := C) (fun i4 s4 hi4 hP4 => ⟨trivial, fun kk4 => ?_⟩) C 0 0 (by omega) (trivial) (fun hP4 => ?_)
  · refine sw_iload_n O (xx_dt dd_X14_stationsIn 4 rfl) rfl ?_
    refine sw_aload_n O (xx_dt dd_X14_stationsIn 5 rfl) rfl ?_
    refine sw_get (v := .ref 5004) O (xx_dt dd_X14_stationsIn 6 rfl) cl_X14 fl_X14_33 (lm_mod (σ := σ)) (by decide) rfl ?_
    refine sw_callVL (ci := 6) (as := []) (st := [.int (nI (2 * i4))]) (st2 := [.int (nI (2 * C)), .int (nI (2 * i4))]) O (ct_AL_size hl (lm_5004 (σ := σ) (S := 2 * C) hS (by omega))) ce_Jx4a65c_size_8abf5 ml_X14_57 iv_Jx4a65c_size_8abf5 cl_Jx4a65c rfl (lm_5004 (σ := σ) (S := 2 * C) hS (by omega)) (xx_dt dd_X14_stationsIn 7 rfl) (by decide) rfl rfl (Nat.le_of_ble_eq_true rfl) rfl ?_
    refine sw_icmp_ge (tgt := 47) O (xx_dt dd_X14_stationsIn 8 rfl) (by decide) (fun q1 => ?_) (fun q1 => ?_)
    · exact absurd q1 (nI_ge (a := 2 * i4) (b := 2 * C) (by omega) (by omega))
    · refine sw_iload_n O (xx_dt dd_X14_stationsIn 9 rfl) rfl ?_
      refine sw_aload_n O (xx_dt dd_X14_stationsIn 10 rfl) rfl ?_
      refine sw_get (v := .ref 5004) O (xx_dt dd_X14_stationsIn 11 rfl) cl_X14 fl_X14_33 (lm_mod (σ := σ)) (by decide) rfl ?_
      refine sw_iload_n O (xx_dt dd_X14_stationsIn 12 rfl) rfl ?_
      refine sw_callVL (ci := 6) (as := [.int (nI (2 * i4))]) (st := [.int s4]) (st2 := [.ref (xx_box (σ 5004 (2 * i4)) (nmS σ (2 * i4))), .int s4]) O (ct_get hl hbs (lm_5004 (σ := σ) (S := 2 * C) hS (by omega)) (by omega) (i := 2 * i4) (x := xx_box (σ 5004 (2 * i4)) (nmS σ (2 * i4))) (by omega) (by omega) rfl) ce_Jx4a65c_get_915e3 ml_X14_61 iv_Jx4a65c_get_915e3 cl_Jx4a65c rfl (lm_5004 (σ := σ) (S := 2 * C) hS (by omega)) (xx_dt dd_X14_stationsIn 13 rfl) (by decide) rfl rfl (Nat.le_of_ble_eq_true rfl) rfl ?_
      refine sw_castO O (xx_dt dd_X14_stationsIn 14 rfl) cl_J6 (lm_sbox (σ := σ) hbs (S := 2 * C) hS (by omega) (k := 2 * i4) (by omega)) cw_X14_113 ?_
      refine sw_callVx (as := []) (st := [.int s4]) (st2 := [.int (σ 5004 (2 * i4)), .int s4]) O (ct_intValue hl (lm_sbox (σ := σ) hbs (S := 2 * C) hS (by omega) (k := 2 * i4) (by omega)) rfl) ce_J6_intValue_8abf5 ml_X14_265 iv_J6_intValue_8abf5 cl_J6 rfl (lm_sbox (σ := σ) hbs (S := 2 * C) hS (by omega) (k := 2 * i4) (by omega)) (xx_dt dd_X14_stationsIn 15 rfl) (by decide) rfl rfl (Nat.le_of_ble_eq_true rfl) rfl ?_
      refine sw_iload_n O (xx_dt dd_X14_stationsIn 16 rfl) rfl ?_
      refine sw_icmp_ne (tgt := 38) O (xx_dt dd_X14_stationsIn 17 rfl) (by decide) (fun q2 => ?_) (fun q2 => ?_)
      · refine sw_iconst (x := 0) O (xx_dt dd_X14_stationsIn 20 rfl) (by decide) ?_
        refine sw_iadd O (xx_dt dd_X14_stationsIn 21 rfl) ?_
        refine sw_istore_n (ls2 := [.ref 5000, .int x, .int (s4 + 0), .int (nI (2 * i4))]) O (xx_dt dd_X14_stationsIn 22 rfl) (by decide) rfl ?_
        refine sw_iinc (y := nI (2 * (i4 + 1))) (ls2 := [.ref 5000, .int x, .int (s4 + 0), .int (nI (2 * (i4 + 1)))]) O (xx_dt dd_X14_stationsIn 23 rfl) rfl nI_2 (by decide) rfl ?_
        refine sw_goto (tgt := 4) O (xx_dt dd_X14_stationsIn 24 rfl) (by decide) ?_
        simp only [if_neg q2] at kk4
        exact kk4
      · refine sw_iconst (x := 1) O (xx_dt dd_X14_stationsIn 18 rfl) (by decide) ?_
        refine sw_goto (tgt := 39) O (xx_dt dd_X14_stationsIn 19 rfl) (by decide) ?_
        refine sw_iadd O (xx_dt dd_X14_stationsIn 21 rfl) ?_
        refine sw_istore_n (ls2 := [.ref 5000, .int x, .int (s4 + 1), .int (nI (2 * i4))]) O (xx_dt dd_X14_stationsIn 22 rfl) (by decide) rfl ?_
        refine sw_iinc (y := nI (2 * (i4 + 1))) (ls2 := [.ref 5000, .int x, .int (s4 + 1), .int (nI (2 * (i4 + 1)))]) O (xx_dt dd_X14_stationsIn 23 rfl) rfl nI_2 (by decide) rfl ?_
        refine sw_goto (tgt := 4) O (xx_dt dd_X14_stationsIn 24 rfl) (by decide) ?_
        simp only [if_pos q2] at kk4
        exact kk4
  · show SW Y _ _ (setM z σ h) 4 [.ref 5000, .int x, .int (x_MstationsIn_4 σ x C 0), .int (nI (2 * C))] []
    refine sw_iload_n O (xx_dt dd_X14_stationsIn 4 rfl) rfl ?_
    refine sw_aload_n O (xx_dt dd_X14_stationsIn 5 rfl) rfl ?_
    refine sw_get (v := .ref 5004) O (xx_dt dd_X14_stationsIn 6 rfl) cl_X14 fl_X14_33 (lm_mod (σ := σ)) (by decide) rfl ?_
    refine sw_callVL (ci := 6) (as := []) (st := [.int (nI (2 * C))]) (st2 := [.int (nI (2 * C)), .int (nI (2 * C))]) O (ct_AL_size hl (lm_5004 (σ := σ) (S := 2 * C) hS (by omega))) ce_Jx4a65c_size_8abf5 ml_X14_57 iv_Jx4a65c_size_8abf5 cl_Jx4a65c rfl (lm_5004 (σ := σ) (S := 2 * C) hS (by omega)) (xx_dt dd_X14_stationsIn 7 rfl) (by decide) rfl rfl (Nat.le_of_ble_eq_true rfl) rfl ?_
    refine sw_icmp_ge (tgt := 47) O (xx_dt dd_X14_stationsIn 8 rfl) (by decide) (fun q1 => ?_) (fun q1 => ?_)
    · refine sw_iload_n O (xx_dt dd_X14_stationsIn 25 rfl) rfl ?_
      exact sw_iret O (xx_dt dd_X14_stationsIn 26 rfl) rfl rfl (by rw [hQ]; exact ⟨by unfold f_MstationsIn; rfl, rfl⟩)
    · exact absurd ((nI_leI (a := 2 * C) (b := 2 * C) (by omega) (by omega)).mpr (by omega)) q1
def f_MofR0 (σ : XS9) (r R B C g : Nat) : Int32 := σ (5010 + r) 0
theorem ct_MofR0 {l : Launch} {h : XH} (hl : l.stackTraces = false) {z : Int64} {σ : XS9} (hbs : xx_bs h) {R : Nat} (hR : σ 5001 900 = nI R) (hR5 : R ≤ 5) {B : Nat} (hB : σ 5002 900 = nI B) (hB6 : B ≤ 6) {C : Nat} (hS : σ 5004 900 = nI (2 * C)) (hC10 : C ≤ 10) {r : Nat} (hr : r < R) {g : Nat}  : XEx l m_X14_ofRegionNow 4 0 0 [.ref 5000, .int (nI r), .int 0] (setM z σ h) (some (.int (f_MofR0 σ r R B C g))) (setM z σ h) := by
  refine XMet.of hl rfl rfl (Nat.le_of_ble_eq_true rfl) (fun Y O hh hQ => ?_)
  show SW Y 0 0 (setM z σ h) 0 [.ref 5000, .int (nI r), .int 0, xx_d] []
  refine sw_aload_n O (xx_dt dd_X14_ofRegionNow 0 rfl) rfl ?_
  refine sw_get (v := .ref 5001) O (xx_dt dd_X14_ofRegionNow 1 rfl) cl_X14 fl_X14_23 (lm_mod (σ := σ)) (by decide) rfl ?_
  refine sw_iload_n O (xx_dt dd_X14_ofRegionNow 2 rfl) rfl ?_
  refine sw_callVL (ci := 6) (as := [.int (nI r)]) (st := []) (st2 := [.ref (5010 + r)]) O (ct_get hl hbs (lm_5001 (σ := σ) (R := R) hR (by omega)) (by omega) (i := r) (x := 5010 + r) (by omega) (by omega) rfl) ce_Jx4a65c_get_915e3 ml_X14_61 iv_Jx4a65c_get_915e3 cl_Jx4a65c rfl (lm_5001 (σ := σ) (R := R) hR (by omega)) (xx_dt dd_X14_ofRegionNow 3 rfl) (by decide) rfl rfl (Nat.le_of_ble_eq_true rfl) rfl ?_
  refine sw_castO O (xx_dt dd_X14_ofRegionNow 4 rfl) cl_X12 (lm_reg (σ := σ) (R := R) hR (by omega) (j := r) (by omega)) cw_X14_65 ?_
  refine sw_astore_n (ls2 := [.ref 5000, .int (nI r), .int 0, .ref (5010 + r)]) O (xx_dt dd_X14_ofRegionNow 5 rfl) (by decide) rfl ?_
  refine sw_iload_n O (xx_dt dd_X14_ofRegionNow 6 rfl) rfl ?_
  refine sw_tableIn (off := 47) (tgt := 60) O (xx_dt dd_X14_ofRegionNow 7 rfl) (by decide) (by decide) rfl (by decide) ?_
  refine sw_aload_n O (xx_dt dd_X14_ofRegionNow 8 rfl) rfl ?_
  refine sw_get (v := .int (σ (5010 + r) 0)) O (xx_dt dd_X14_ofRegionNow 9 rfl) cl_X12 fl_X14_81 (lm_reg (σ := σ) (R := R) hR (by omega) (j := r) (by omega)) (by decide) rfl ?_
  exact sw_iret O (xx_dt dd_X14_ofRegionNow 10 rfl) rfl rfl (by rw [hQ]; exact ⟨by unfold f_MofR0; rfl, rfl⟩)
def f_MofR1 (σ : XS9) (r R B C g : Nat) : Int32 := σ (5010 + r) 1
theorem ct_MofR1 {l : Launch} {h : XH} (hl : l.stackTraces = false) {z : Int64} {σ : XS9} (hbs : xx_bs h) {R : Nat} (hR : σ 5001 900 = nI R) (hR5 : R ≤ 5) {B : Nat} (hB : σ 5002 900 = nI B) (hB6 : B ≤ 6) {C : Nat} (hS : σ 5004 900 = nI (2 * C)) (hC10 : C ≤ 10) {r : Nat} (hr : r < R) {g : Nat}  : XEx l m_X14_ofRegionNow 4 0 0 [.ref 5000, .int (nI r), .int 1] (setM z σ h) (some (.int (f_MofR1 σ r R B C g))) (setM z σ h) := by
  refine XMet.of hl rfl rfl (Nat.le_of_ble_eq_true rfl) (fun Y O hh hQ => ?_)
  show SW Y 0 0 (setM z σ h) 0 [.ref 5000, .int (nI r), .int 1, xx_d] []
  refine sw_aload_n O (xx_dt dd_X14_ofRegionNow 0 rfl) rfl ?_
  refine sw_get (v := .ref 5001) O (xx_dt dd_X14_ofRegionNow 1 rfl) cl_X14 fl_X14_23 (lm_mod (σ := σ)) (by decide) rfl ?_
  refine sw_iload_n O (xx_dt dd_X14_ofRegionNow 2 rfl) rfl ?_
  refine sw_callVL (ci := 6) (as := [.int (nI r)]) (st := []) (st2 := [.ref (5010 + r)]) O (ct_get hl hbs (lm_5001 (σ := σ) (R := R) hR (by omega)) (by omega) (i := r) (x := 5010 + r) (by omega) (by omega) rfl) ce_Jx4a65c_get_915e3 ml_X14_61 iv_Jx4a65c_get_915e3 cl_Jx4a65c rfl (lm_5001 (σ := σ) (R := R) hR (by omega)) (xx_dt dd_X14_ofRegionNow 3 rfl) (by decide) rfl rfl (Nat.le_of_ble_eq_true rfl) rfl ?_
  refine sw_castO O (xx_dt dd_X14_ofRegionNow 4 rfl) cl_X12 (lm_reg (σ := σ) (R := R) hR (by omega) (j := r) (by omega)) cw_X14_65 ?_
  refine sw_astore_n (ls2 := [.ref 5000, .int (nI r), .int 1, .ref (5010 + r)]) O (xx_dt dd_X14_ofRegionNow 5 rfl) (by decide) rfl ?_
  refine sw_iload_n O (xx_dt dd_X14_ofRegionNow 6 rfl) rfl ?_
  refine sw_tableIn (off := 52) (tgt := 65) O (xx_dt dd_X14_ofRegionNow 7 rfl) (by decide) (by decide) rfl (by decide) ?_
  refine sw_aload_n O (xx_dt dd_X14_ofRegionNow 11 rfl) rfl ?_
  refine sw_get (v := .int (σ (5010 + r) 1)) O (xx_dt dd_X14_ofRegionNow 12 rfl) cl_X12 fl_X14_67 (lm_reg (σ := σ) (R := R) hR (by omega) (j := r) (by omega)) (by decide) rfl ?_
  exact sw_iret O (xx_dt dd_X14_ofRegionNow 13 rfl) rfl rfl (by rw [hQ]; exact ⟨by unfold f_MofR1; rfl, rfl⟩)
def f_MofR2 (σ : XS9) (r R B C g : Nat) : Int32 := σ (5010 + r) 2
theorem ct_MofR2 {l : Launch} {h : XH} (hl : l.stackTraces = false) {z : Int64} {σ : XS9} (hbs : xx_bs h) {R : Nat} (hR : σ 5001 900 = nI R) (hR5 : R ≤ 5) {B : Nat} (hB : σ 5002 900 = nI B) (hB6 : B ≤ 6) {C : Nat} (hS : σ 5004 900 = nI (2 * C)) (hC10 : C ≤ 10) {r : Nat} (hr : r < R) {g : Nat}  : XEx l m_X14_ofRegionNow 4 0 0 [.ref 5000, .int (nI r), .int 2] (setM z σ h) (some (.int (f_MofR2 σ r R B C g))) (setM z σ h) := by
  refine XMet.of hl rfl rfl (Nat.le_of_ble_eq_true rfl) (fun Y O hh hQ => ?_)
  show SW Y 0 0 (setM z σ h) 0 [.ref 5000, .int (nI r), .int 2, xx_d] []
  refine sw_aload_n O (xx_dt dd_X14_ofRegionNow 0 rfl) rfl ?_
  refine sw_get (v := .ref 5001) O (xx_dt dd_X14_ofRegionNow 1 rfl) cl_X14 fl_X14_23 (lm_mod (σ := σ)) (by decide) rfl ?_
  refine sw_iload_n O (xx_dt dd_X14_ofRegionNow 2 rfl) rfl ?_
  refine sw_callVL (ci := 6) (as := [.int (nI r)]) (st := []) (st2 := [.ref (5010 + r)]) O (ct_get hl hbs (lm_5001 (σ := σ) (R := R) hR (by omega)) (by omega) (i := r) (x := 5010 + r) (by omega) (by omega) rfl) ce_Jx4a65c_get_915e3 ml_X14_61 iv_Jx4a65c_get_915e3 cl_Jx4a65c rfl (lm_5001 (σ := σ) (R := R) hR (by omega)) (xx_dt dd_X14_ofRegionNow 3 rfl) (by decide) rfl rfl (Nat.le_of_ble_eq_true rfl) rfl ?_
  refine sw_castO O (xx_dt dd_X14_ofRegionNow 4 rfl) cl_X12 (lm_reg (σ := σ) (R := R) hR (by omega) (j := r) (by omega)) cw_X14_65 ?_
  refine sw_astore_n (ls2 := [.ref 5000, .int (nI r), .int 2, .ref (5010 + r)]) O (xx_dt dd_X14_ofRegionNow 5 rfl) (by decide) rfl ?_
  refine sw_iload_n O (xx_dt dd_X14_ofRegionNow 6 rfl) rfl ?_
  refine sw_tableIn (off := 57) (tgt := 70) O (xx_dt dd_X14_ofRegionNow 7 rfl) (by decide) (by decide) rfl (by decide) ?_
  refine sw_aload_n O (xx_dt dd_X14_ofRegionNow 14 rfl) rfl ?_
  refine sw_get (v := .int (σ (5010 + r) 2)) O (xx_dt dd_X14_ofRegionNow 15 rfl) cl_X12 fl_X14_84 (lm_reg (σ := σ) (R := R) hR (by omega) (j := r) (by omega)) (by decide) rfl ?_
  exact sw_iret O (xx_dt dd_X14_ofRegionNow 16 rfl) rfl rfl (by rw [hQ]; exact ⟨by unfold f_MofR2; rfl, rfl⟩)
def f_MofR3_c (σ : XS9) (r R B C : Nat) (g : Nat) : Int32 := σ (7000 + 1) r
theorem ct_MofR3_c {l : Launch} {h : XH} (hl : l.stackTraces = false) {z : Int64} {σ : XS9} (hbs : xx_bs h) {R : Nat} (hR : σ 5001 900 = nI R) (hR5 : R ≤ 5) {B : Nat} (hB : σ 5002 900 = nI B) (hB6 : B ≤ 6) {C : Nat} (hS : σ 5004 900 = nI (2 * C)) (hC10 : C ≤ 10) {r : Nat} (hr : r < R) (hf : σ 7000 20 = nI 1) (hf5 : σ 7000 25 = nI 1) {g : Nat} (hg : σ 7000 23 = nI g) (hg1 : g < 200) {w : Nat} (hw : σ 7000 24 = nI w) (hw1 : w < 200)  : XEx l m_X14_ofRegionNow 4 0 0 [.ref 5000, .int (nI r), .int 3] (setM z σ h) (some (.int (f_MofR3_c σ r R B C g))) (setM z σ h) := by
  refine XMet.of hl rfl rfl (Nat.le_of_ble_eq_true rfl) (fun Y O hh hQ => ?_)
  show SW Y 0 0 (setM z σ h) 0 [.ref 5000, .int (nI r), .int 3, xx_d] []
  refine sw_aload_n O (xx_dt dd_X14_ofRegionNow 0 rfl) rfl ?_
  refine sw_get (v := .ref 5001) O (xx_dt dd_X14_ofRegionNow 1 rfl) cl_X14 fl_X14_23 (lm_modC (σ := σ) (fl1 hf5)) (by decide) rfl ?_
  refine sw_iload_n O (xx_dt dd_X14_ofRegionNow 2 rfl) rfl ?_
  refine sw_callVL (ci := 6) (as := [.int (nI r)]) (st := []) (st2 := [.ref (5010 + r)]) O (ct_get hl hbs (lm_5001 (σ := σ) (R := R) hR (by omega)) (by omega) (i := r) (x := 5010 + r) (by omega) (by omega) rfl) ce_Jx4a65c_get_915e3 ml_X14_61 iv_Jx4a65c_get_915e3 cl_Jx4a65c rfl (lm_5001 (σ := σ) (R := R) hR (by omega)) (xx_dt dd_X14_ofRegionNow 3 rfl) (by decide) rfl rfl (Nat.le_of_ble_eq_true rfl) rfl ?_
  refine sw_castO O (xx_dt dd_X14_ofRegionNow 4 rfl) cl_X12 (lm_reg (σ := σ) (R := R) hR (by omega) (j := r) (by omega)) cw_X14_65 ?_
  refine sw_astore_n (ls2 := [.ref 5000, .int (nI r), .int 3, .ref (5010 + r)]) O (xx_dt dd_X14_ofRegionNow 5 rfl) (by decide) rfl ?_
  refine sw_iload_n O (xx_dt dd_X14_ofRegionNow 6 rfl) rfl ?_
  refine sw_tableIn (off := 62) (tgt := 75) O (xx_dt dd_X14_ofRegionNow 7 rfl) (by decide) (by decide) rfl (by decide) ?_
  refine sw_aload_n O (xx_dt dd_X14_ofRegionNow 17 rfl) rfl ?_
  refine sw_get (v := .ref 7000) O (xx_dt dd_X14_ofRegionNow 18 rfl) cl_X14 fl_X14_141 (lm_modC (σ := σ) (fl1 hf5)) (by decide) rfl ?_
  refine sw_ifnonnull (tgt := 89) O (xx_dt dd_X14_ofRegionNow 19 rfl) (by decide) ?_
  refine sw_aload_n O (xx_dt dd_X14_ofRegionNow 23 rfl) rfl ?_
  refine sw_get (v := .ref 7000) O (xx_dt dd_X14_ofRegionNow 24 rfl) cl_X14 fl_X14_141 (lm_modC (σ := σ) (fl1 hf5)) (by decide) rfl ?_
  refine sw_get (v := .ref (7000 + 1)) O (xx_dt dd_X14_ofRegionNow 25 rfl) cl_X11 fl_X14_176 (lm_clk (σ := σ) (b := 7000) (.inl rfl) (fl1 hf) (g := g) hg (by omega) (w := w) hw (by omega)) (by decide) rfl ?_
  refine sw_iload_n O (xx_dt dd_X14_ofRegionNow 26 rfl) rfl ?_
  refine sw_iaload (v := .int (σ (7000 + 1) r)) O (xx_dt dd_X14_ofRegionNow 27 rfl) ((im_kpr (z := z) (σ := σ) (b := 7000) (.inl rfl) hf (R := R) hR (by omega)).get _) (pk_in r _ (by omega)) (by rw [nI_clamp (by omega)]; try exact rfl) ?_
  exact sw_iret O (xx_dt dd_X14_ofRegionNow 28 rfl) rfl rfl (by rw [hQ]; exact ⟨by unfold f_MofR3_c; rfl, rfl⟩)
def f_MofR3_n (σ : XS9) (r R B C : Nat) : Int32 := σ (5010 + r) 2
theorem ct_MofR3_n {l : Launch} {h : XH} (hl : l.stackTraces = false) {z : Int64} {σ : XS9} (hbs : xx_bs h) {R : Nat} (hR : σ 5001 900 = nI R) (hR5 : R ≤ 5) {B : Nat} (hB : σ 5002 900 = nI B) (hB6 : B ≤ 6) {C : Nat} (hS : σ 5004 900 = nI (2 * C)) (hC10 : C ≤ 10) {r : Nat} (hr : r < R) (hf5 : σ 7000 25 = nI 0)  : XEx l m_X14_ofRegionNow 4 0 0 [.ref 5000, .int (nI r), .int 3] (setM z σ h) (some (.int (f_MofR3_n σ r R B C))) (setM z σ h) := by
  refine XMet.of hl rfl rfl (Nat.le_of_ble_eq_true rfl) (fun Y O hh hQ => ?_)
  show SW Y 0 0 (setM z σ h) 0 [.ref 5000, .int (nI r), .int 3, xx_d] []
  refine sw_aload_n O (xx_dt dd_X14_ofRegionNow 0 rfl) rfl ?_
  refine sw_get (v := .ref 5001) O (xx_dt dd_X14_ofRegionNow 1 rfl) cl_X14 fl_X14_23 (lm_modN (σ := σ) hf5) (by decide) rfl ?_
  refine sw_iload_n O (xx_dt dd_X14_ofRegionNow 2 rfl) rfl ?_
  refine sw_callVL (ci := 6) (as := [.int (nI r)]) (st := []) (st2 := [.ref (5010 + r)]) O (ct_get hl hbs (lm_5001 (σ := σ) (R := R) hR (by omega)) (by omega) (i := r) (x := 5010 + r) (by omega) (by omega) rfl) ce_Jx4a65c_get_915e3 ml_X14_61 iv_Jx4a65c_get_915e3 cl_Jx4a65c rfl (lm_5001 (σ := σ) (R := R) hR (by omega)) (xx_dt dd_X14_ofRegionNow 3 rfl) (by decide) rfl rfl (Nat.le_of_ble_eq_true rfl) rfl ?_
  refine sw_castO O (xx_dt dd_X14_ofRegionNow 4 rfl) cl_X12 (lm_reg (σ := σ) (R := R) hR (by omega) (j := r) (by omega)) cw_X14_65 ?_
  refine sw_astore_n (ls2 := [.ref 5000, .int (nI r), .int 3, .ref (5010 + r)]) O (xx_dt dd_X14_ofRegionNow 5 rfl) (by decide) rfl ?_
  refine sw_iload_n O (xx_dt dd_X14_ofRegionNow 6 rfl) rfl ?_
  refine sw_tableIn (off := 62) (tgt := 75) O (xx_dt dd_X14_ofRegionNow 7 rfl) (by decide) (by decide) rfl (by decide) ?_
  refine sw_aload_n O (xx_dt dd_X14_ofRegionNow 17 rfl) rfl ?_
  refine sw_get (v := .null) O (xx_dt dd_X14_ofRegionNow 18 rfl) cl_X14 fl_X14_141 (lm_modN (σ := σ) hf5) (by decide) rfl ?_
  refine sw_ifnonnullN O (xx_dt dd_X14_ofRegionNow 19 rfl) ?_
  refine sw_aload_n O (xx_dt dd_X14_ofRegionNow 20 rfl) rfl ?_
  refine sw_get (v := .int (σ (5010 + r) 2)) O (xx_dt dd_X14_ofRegionNow 21 rfl) cl_X12 fl_X14_84 (lm_reg (σ := σ) (R := R) hR (by omega) (j := r) (by omega)) (by decide) rfl ?_
  refine sw_goto (tgt := 98) O (xx_dt dd_X14_ofRegionNow 22 rfl) (by decide) ?_
  exact sw_iret O (xx_dt dd_X14_ofRegionNow 28 rfl) rfl rfl (by rw [hQ]; exact ⟨by unfold f_MofR3_n; rfl, rfl⟩)
def f_MofR3 (σ : XS9) (r R B C : Nat) (g : Nat) : Int32 := if σ 7000 25 = 0 then f_MofR3_n σ r R B C else f_MofR3_c σ r R B C g
theorem ct_MofR3 {l : Launch} {h : XH} (hl : l.stackTraces = false) {z : Int64} {σ : XS9} (hbs : xx_bs h) {R : Nat} (hR : σ 5001 900 = nI R) (hR5 : R ≤ 5) {B : Nat} (hB : σ 5002 900 = nI B) (hB6 : B ≤ 6) {C : Nat} (hS : σ 5004 900 = nI (2 * C)) (hC10 : C ≤ 10) {r : Nat} (hr : r < R) (hfl : σ 7000 25 = nI 0 ∨ (σ 7000 25 = nI 1 ∧ σ 7000 20 = nI 1)) {g : Nat} (hg : σ 7000 23 = nI g) (hg1 : g < 200) {w : Nat} (hw : σ 7000 24 = nI w) (hw1 : w < 200) : XEx l m_X14_ofRegionNow 4 0 0 [.ref 5000, .int (nI r), .int 3] (setM z σ h) (some (.int (f_MofR3 σ r R B C g))) (setM z σ h) := by
  unfold f_MofR3
  rcases hfl with hf5 | ⟨hf5, hf⟩
  · rw [if_pos (by rw [hf5]; rfl)]
    exact ct_MofR3_n hl hbs hR hR5 hB hB6 hS hC10 hr hf5
  · rw [if_neg (fl1 hf5)]
    exact ct_MofR3_c hl hbs hR hR5 hB hB6 hS hC10 hr hf hf5 hg hg1 hw hw1
def f_MofR4_c (σ : XS9) (r R B C : Nat) (g : Nat) : Int32 := f_KheldIn σ 7000 r B g
theorem ct_MofR4_c {l : Launch} {h : XH} (hl : l.stackTraces = false) {z : Int64} {σ : XS9} (hbs : xx_bs h) {R : Nat} (hR : σ 5001 900 = nI R) (hR5 : R ≤ 5) {B : Nat} (hB : σ 5002 900 = nI B) (hB6 : B ≤ 6) {C : Nat} (hS : σ 5004 900 = nI (2 * C)) (hC10 : C ≤ 10) {r : Nat} (hr : r < R) (hf : σ 7000 20 = nI 1) (hf5 : σ 7000 25 = nI 1) {g : Nat} (hg : σ 7000 23 = nI g) (hg1 : g < 200) {w : Nat} (hw : σ 7000 24 = nI w) (hw1 : w < 200)  : XEx l m_X14_ofRegionNow 4 0 0 [.ref 5000, .int (nI r), .int 4] (setM z σ h) (some (.int (f_MofR4_c σ r R B C g))) (setM z σ h) := by
  refine XMet.of hl rfl rfl (Nat.le_of_ble_eq_true rfl) (fun Y O hh hQ => ?_)
  show SW Y 0 0 (setM z σ h) 0 [.ref 5000, .int (nI r), .int 4, xx_d] []
  refine sw_aload_n O (xx_dt dd_X14_ofRegionNow 0 rfl) rfl ?_
  refine sw_get (v := .ref 5001) O (xx_dt dd_X14_ofRegionNow 1 rfl) cl_X14 fl_X14_23 (lm_modC (σ := σ) (fl1 hf5)) (by decide) rfl ?_
  refine sw_iload_n O (xx_dt dd_X14_ofRegionNow 2 rfl) rfl ?_
  refine sw_callVL (ci := 6) (as := [.int (nI r)]) (st := []) (st2 := [.ref (5010 + r)]) O (ct_get hl hbs (lm_5001 (σ := σ) (R := R) hR (by omega)) (by omega) (i := r) (x := 5010 + r) (by omega) (by omega) rfl) ce_Jx4a65c_get_915e3 ml_X14_61 iv_Jx4a65c_get_915e3 cl_Jx4a65c rfl (lm_5001 (σ := σ) (R := R) hR (by omega)) (xx_dt dd_X14_ofRegionNow 3 rfl) (by decide) rfl rfl (Nat.le_of_ble_eq_true rfl) rfl ?_
  refine sw_castO O (xx_dt dd_X14_ofRegionNow 4 rfl) cl_X12 (lm_reg (σ := σ) (R := R) hR (by omega) (j := r) (by omega)) cw_X14_65 ?_
  refine sw_astore_n (ls2 := [.ref 5000, .int (nI r), .int 4, .ref (5010 + r)]) O (xx_dt dd_X14_ofRegionNow 5 rfl) (by decide) rfl ?_
  refine sw_iload_n O (xx_dt dd_X14_ofRegionNow 6 rfl) rfl ?_
  refine sw_tableIn (off := 86) (tgt := 99) O (xx_dt dd_X14_ofRegionNow 7 rfl) (by decide) (by decide) rfl (by decide) ?_
  refine sw_aload_n O (xx_dt dd_X14_ofRegionNow 29 rfl) rfl ?_
  refine sw_get (v := .ref 7000) O (xx_dt dd_X14_ofRegionNow 30 rfl) cl_X14 fl_X14_141 (lm_modC (σ := σ) (fl1 hf5)) (by decide) rfl ?_
  refine sw_ifnonnull (tgt := 110) O (xx_dt dd_X14_ofRegionNow 31 rfl) (by decide) ?_
  refine sw_aload_n O (xx_dt dd_X14_ofRegionNow 34 rfl) rfl ?_
  refine sw_get (v := .ref 7000) O (xx_dt dd_X14_ofRegionNow 35 rfl) cl_X14 fl_X14_141 (lm_modC (σ := σ) (fl1 hf5)) (by decide) rfl ?_
  refine sw_iload_n O (xx_dt dd_X14_ofRegionNow 36 rfl) rfl ?_
  refine sw_callVx (as := [.int (nI r)]) (st := []) (st2 := [.int (f_KheldIn σ 7000 r B g)]) O (ct_X11_heldIn hl (z := z) (σ := σ) hbs (b := 7000) (.inl rfl) hf (g := g) hg (by omega) (w := w) hw (by omega) (B := B) hB (by omega) (r := r) (by omega)) ce_X11_heldIn ml_X14_290 iv_X11_heldIn cl_X11 rfl (lm_clk (σ := σ) (b := 7000) (.inl rfl) (fl1 hf) (g := g) hg (by omega) (w := w) hw (by omega)) (xx_dt dd_X14_ofRegionNow 37 rfl) (by decide) rfl rfl (Nat.le_of_ble_eq_true rfl) rfl ?_
  exact sw_iret O (xx_dt dd_X14_ofRegionNow 38 rfl) rfl rfl (by rw [hQ]; exact ⟨by unfold f_MofR4_c; rfl, rfl⟩)
def f_MofR4_n (σ : XS9) (r R B C : Nat) : Int32 := 0
theorem ct_MofR4_n {l : Launch} {h : XH} (hl : l.stackTraces = false) {z : Int64} {σ : XS9} (hbs : xx_bs h) {R : Nat} (hR : σ 5001 900 = nI R) (hR5 : R ≤ 5) {B : Nat} (hB : σ 5002 900 = nI B) (hB6 : B ≤ 6) {C : Nat} (hS : σ 5004 900 = nI (2 * C)) (hC10 : C ≤ 10) {r : Nat} (hr : r < R) (hf5 : σ 7000 25 = nI 0)  : XEx l m_X14_ofRegionNow 4 0 0 [.ref 5000, .int (nI r), .int 4] (setM z σ h) (some (.int (f_MofR4_n σ r R B C))) (setM z σ h) := by
  refine XMet.of hl rfl rfl (Nat.le_of_ble_eq_true rfl) (fun Y O hh hQ => ?_)
  show SW Y 0 0 (setM z σ h) 0 [.ref 5000, .int (nI r), .int 4, xx_d] []
  refine sw_aload_n O (xx_dt dd_X14_ofRegionNow 0 rfl) rfl ?_
  refine sw_get (v := .ref 5001) O (xx_dt dd_X14_ofRegionNow 1 rfl) cl_X14 fl_X14_23 (lm_modN (σ := σ) hf5) (by decide) rfl ?_
  refine sw_iload_n O (xx_dt dd_X14_ofRegionNow 2 rfl) rfl ?_
  refine sw_callVL (ci := 6) (as := [.int (nI r)]) (st := []) (st2 := [.ref (5010 + r)]) O (ct_get hl hbs (lm_5001 (σ := σ) (R := R) hR (by omega)) (by omega) (i := r) (x := 5010 + r) (by omega) (by omega) rfl) ce_Jx4a65c_get_915e3 ml_X14_61 iv_Jx4a65c_get_915e3 cl_Jx4a65c rfl (lm_5001 (σ := σ) (R := R) hR (by omega)) (xx_dt dd_X14_ofRegionNow 3 rfl) (by decide) rfl rfl (Nat.le_of_ble_eq_true rfl) rfl ?_
  refine sw_castO O (xx_dt dd_X14_ofRegionNow 4 rfl) cl_X12 (lm_reg (σ := σ) (R := R) hR (by omega) (j := r) (by omega)) cw_X14_65 ?_
  refine sw_astore_n (ls2 := [.ref 5000, .int (nI r), .int 4, .ref (5010 + r)]) O (xx_dt dd_X14_ofRegionNow 5 rfl) (by decide) rfl ?_
  refine sw_iload_n O (xx_dt dd_X14_ofRegionNow 6 rfl) rfl ?_
  refine sw_tableIn (off := 86) (tgt := 99) O (xx_dt dd_X14_ofRegionNow 7 rfl) (by decide) (by decide) rfl (by decide) ?_
  refine sw_aload_n O (xx_dt dd_X14_ofRegionNow 29 rfl) rfl ?_
  refine sw_get (v := .null) O (xx_dt dd_X14_ofRegionNow 30 rfl) cl_X14 fl_X14_141 (lm_modN (σ := σ) hf5) (by decide) rfl ?_
  refine sw_ifnonnullN O (xx_dt dd_X14_ofRegionNow 31 rfl) ?_
  refine sw_iconst (x := 0) O (xx_dt dd_X14_ofRegionNow 32 rfl) (by decide) ?_
  refine sw_goto (tgt := 118) O (xx_dt dd_X14_ofRegionNow 33 rfl) (by decide) ?_
  exact sw_iret O (xx_dt dd_X14_ofRegionNow 38 rfl) rfl rfl (by rw [hQ]; exact ⟨by unfold f_MofR4_n; rfl, rfl⟩)
def f_MofR4 (σ : XS9) (r R B C : Nat) (g : Nat) : Int32 := if σ 7000 25 = 0 then f_MofR4_n σ r R B C else f_MofR4_c σ r R B C g
theorem ct_MofR4 {l : Launch} {h : XH} (hl : l.stackTraces = false) {z : Int64} {σ : XS9} (hbs : xx_bs h) {R : Nat} (hR : σ 5001 900 = nI R) (hR5 : R ≤ 5) {B : Nat} (hB : σ 5002 900 = nI B) (hB6 : B ≤ 6) {C : Nat} (hS : σ 5004 900 = nI (2 * C)) (hC10 : C ≤ 10) {r : Nat} (hr : r < R) (hfl : σ 7000 25 = nI 0 ∨ (σ 7000 25 = nI 1 ∧ σ 7000 20 = nI 1)) {g : Nat} (hg : σ 7000 23 = nI g) (hg1 : g < 200) {w : Nat} (hw : σ 7000 24 = nI w) (hw1 : w < 200) : XEx l m_X14_ofRegionNow 4 0 0 [.ref 5000, .int (nI r), .int 4] (setM z σ h) (some (.int (f_MofR4 σ r R B C g))) (setM z σ h) := by
  unfold f_MofR4
  rcases hfl with hf5 | ⟨hf5, hf⟩
  · rw [if_pos (by rw [hf5]; rfl)]
    exact ct_MofR4_n hl hbs hR hR5 hB hB6 hS hC10 hr hf5
  · rw [if_neg (fl1 hf5)]
    exact ct_MofR4_c hl hbs hR hR5 hB hB6 hS hC10 hr hf hf5 hg hg1 hw hw1
def f_MofR5_c (σ : XS9) (r R B C : Nat) (g : Nat) : Int32 := (f_KheldIn σ 7000 r B g) - (σ (5010 + r) 0)
theorem ct_MofR5_c {l : Launch} {h : XH} (hl : l.stackTraces = false) {z : Int64} {σ : XS9} (hbs : xx_bs h) {R : Nat} (hR : σ 5001 900 = nI R) (hR5 : R ≤ 5) {B : Nat} (hB : σ 5002 900 = nI B) (hB6 : B ≤ 6) {C : Nat} (hS : σ 5004 900 = nI (2 * C)) (hC10 : C ≤ 10) {r : Nat} (hr : r < R) (hf : σ 7000 20 = nI 1) (hf5 : σ 7000 25 = nI 1) {g : Nat} (hg : σ 7000 23 = nI g) (hg1 : g < 200) {w : Nat} (hw : σ 7000 24 = nI w) (hw1 : w < 200)  : XEx l m_X14_ofRegionNow 4 0 0 [.ref 5000, .int (nI r), .int 5] (setM z σ h) (some (.int (f_MofR5_c σ r R B C g))) (setM z σ h) := by
  refine XMet.of hl rfl rfl (Nat.le_of_ble_eq_true rfl) (fun Y O hh hQ => ?_)
  show SW Y 0 0 (setM z σ h) 0 [.ref 5000, .int (nI r), .int 5, xx_d] []
  refine sw_aload_n O (xx_dt dd_X14_ofRegionNow 0 rfl) rfl ?_
  refine sw_get (v := .ref 5001) O (xx_dt dd_X14_ofRegionNow 1 rfl) cl_X14 fl_X14_23 (lm_modC (σ := σ) (fl1 hf5)) (by decide) rfl ?_
  refine sw_iload_n O (xx_dt dd_X14_ofRegionNow 2 rfl) rfl ?_
  refine sw_callVL (ci := 6) (as := [.int (nI r)]) (st := []) (st2 := [.ref (5010 + r)]) O (ct_get hl hbs (lm_5001 (σ := σ) (R := R) hR (by omega)) (by omega) (i := r) (x := 5010 + r) (by omega) (by omega) rfl) ce_Jx4a65c_get_915e3 ml_X14_61 iv_Jx4a65c_get_915e3 cl_Jx4a65c rfl (lm_5001 (σ := σ) (R := R) hR (by omega)) (xx_dt dd_X14_ofRegionNow 3 rfl) (by decide) rfl rfl (Nat.le_of_ble_eq_true rfl) rfl ?_
  refine sw_castO O (xx_dt dd_X14_ofRegionNow 4 rfl) cl_X12 (lm_reg (σ := σ) (R := R) hR (by omega) (j := r) (by omega)) cw_X14_65 ?_
  refine sw_astore_n (ls2 := [.ref 5000, .int (nI r), .int 5, .ref (5010 + r)]) O (xx_dt dd_X14_ofRegionNow 5 rfl) (by decide) rfl ?_
  refine sw_iload_n O (xx_dt dd_X14_ofRegionNow 6 rfl) rfl ?_
  refine sw_tableIn (off := 106) (tgt := 119) O (xx_dt dd_X14_ofRegionNow 7 rfl) (by decide) (by decide) rfl (by decide) ?_
  refine sw_aload_n O (xx_dt dd_X14_ofRegionNow 39 rfl) rfl ?_
  refine sw_get (v := .ref 7000) O (xx_dt dd_X14_ofRegionNow 40 rfl) cl_X14 fl_X14_141 (lm_modC (σ := σ) (fl1 hf5)) (by decide) rfl ?_
  refine sw_ifnonnull (tgt := 130) O (xx_dt dd_X14_ofRegionNow 41 rfl) (by decide) ?_
  refine sw_aload_n O (xx_dt dd_X14_ofRegionNow 44 rfl) rfl ?_
  refine sw_get (v := .ref 7000) O (xx_dt dd_X14_ofRegionNow 45 rfl) cl_X14 fl_X14_141 (lm_modC (σ := σ) (fl1 hf5)) (by decide) rfl ?_
  refine sw_iload_n O (xx_dt dd_X14_ofRegionNow 46 rfl) rfl ?_
  refine sw_callVx (as := [.int (nI r)]) (st := []) (st2 := [.int (f_KheldIn σ 7000 r B g)]) O (ct_X11_heldIn hl (z := z) (σ := σ) hbs (b := 7000) (.inl rfl) hf (g := g) hg (by omega) (w := w) hw (by omega) (B := B) hB (by omega) (r := r) (by omega)) ce_X11_heldIn ml_X14_290 iv_X11_heldIn cl_X11 rfl (lm_clk (σ := σ) (b := 7000) (.inl rfl) (fl1 hf) (g := g) hg (by omega) (w := w) hw (by omega)) (xx_dt dd_X14_ofRegionNow 47 rfl) (by decide) rfl rfl (Nat.le_of_ble_eq_true rfl) rfl ?_
  refine sw_aload_n O (xx_dt dd_X14_ofRegionNow 48 rfl) rfl ?_
  refine sw_get (v := .int (σ (5010 + r) 0)) O (xx_dt dd_X14_ofRegionNow 49 rfl) cl_X12 fl_X14_81 (lm_reg (σ := σ) (R := R) hR (by omega) (j := r) (by omega)) (by decide) rfl ?_
  refine sw_isub O (xx_dt dd_X14_ofRegionNow 50 rfl) ?_
  exact sw_iret O (xx_dt dd_X14_ofRegionNow 51 rfl) rfl rfl (by rw [hQ]; exact ⟨by unfold f_MofR5_c; rfl, rfl⟩)
def f_MofR5_n (σ : XS9) (r R B C : Nat) : Int32 := 0 - (σ (5010 + r) 0)
theorem ct_MofR5_n {l : Launch} {h : XH} (hl : l.stackTraces = false) {z : Int64} {σ : XS9} (hbs : xx_bs h) {R : Nat} (hR : σ 5001 900 = nI R) (hR5 : R ≤ 5) {B : Nat} (hB : σ 5002 900 = nI B) (hB6 : B ≤ 6) {C : Nat} (hS : σ 5004 900 = nI (2 * C)) (hC10 : C ≤ 10) {r : Nat} (hr : r < R) (hf5 : σ 7000 25 = nI 0)  : XEx l m_X14_ofRegionNow 4 0 0 [.ref 5000, .int (nI r), .int 5] (setM z σ h) (some (.int (f_MofR5_n σ r R B C))) (setM z σ h) := by
  refine XMet.of hl rfl rfl (Nat.le_of_ble_eq_true rfl) (fun Y O hh hQ => ?_)
  show SW Y 0 0 (setM z σ h) 0 [.ref 5000, .int (nI r), .int 5, xx_d] []
  refine sw_aload_n O (xx_dt dd_X14_ofRegionNow 0 rfl) rfl ?_
  refine sw_get (v := .ref 5001) O (xx_dt dd_X14_ofRegionNow 1 rfl) cl_X14 fl_X14_23 (lm_modN (σ := σ) hf5) (by decide) rfl ?_
  refine sw_iload_n O (xx_dt dd_X14_ofRegionNow 2 rfl) rfl ?_
  refine sw_callVL (ci := 6) (as := [.int (nI r)]) (st := []) (st2 := [.ref (5010 + r)]) O (ct_get hl hbs (lm_5001 (σ := σ) (R := R) hR (by omega)) (by omega) (i := r) (x := 5010 + r) (by omega) (by omega) rfl) ce_Jx4a65c_get_915e3 ml_X14_61 iv_Jx4a65c_get_915e3 cl_Jx4a65c rfl (lm_5001 (σ := σ) (R := R) hR (by omega)) (xx_dt dd_X14_ofRegionNow 3 rfl) (by decide) rfl rfl (Nat.le_of_ble_eq_true rfl) rfl ?_
  refine sw_castO O (xx_dt dd_X14_ofRegionNow 4 rfl) cl_X12 (lm_reg (σ := σ) (R := R) hR (by omega) (j := r) (by omega)) cw_X14_65 ?_
  refine sw_astore_n (ls2 := [.ref 5000, .int (nI r), .int 5, .ref (5010 + r)]) O (xx_dt dd_X14_ofRegionNow 5 rfl) (by decide) rfl ?_
  refine sw_iload_n O (xx_dt dd_X14_ofRegionNow 6 rfl) rfl ?_
  refine sw_tableIn (off := 106) (tgt := 119) O (xx_dt dd_X14_ofRegionNow 7 rfl) (by decide) (by decide) rfl (by decide) ?_
  refine sw_aload_n O (xx_dt dd_X14_ofRegionNow 39 rfl) rfl ?_
  refine sw_get (v := .null) O (xx_dt dd_X14_ofRegionNow 40 rfl) cl_X14 fl_X14_141 (lm_modN (σ := σ) hf5) (by decide) rfl ?_
  refine sw_ifnonnullN O (xx_dt dd_X14_ofRegionNow 41 rfl) ?_
  refine sw_iconst (x := 0) O (xx_dt dd_X14_ofRegionNow 42 rfl) (by decide) ?_
  refine sw_goto (tgt := 138) O (xx_dt dd_X14_ofRegionNow 43 rfl) (by decide) ?_
  refine sw_aload_n O (xx_dt dd_X14_ofRegionNow 48 rfl) rfl ?_
  refine sw_get (v := .int (σ (5010 + r) 0)) O (xx_dt dd_X14_ofRegionNow 49 rfl) cl_X12 fl_X14_81 (lm_reg (σ := σ) (R := R) hR (by omega) (j := r) (by omega)) (by decide) rfl ?_
  refine sw_isub O (xx_dt dd_X14_ofRegionNow 50 rfl) ?_
  exact sw_iret O (xx_dt dd_X14_ofRegionNow 51 rfl) rfl rfl (by rw [hQ]; exact ⟨by unfold f_MofR5_n; rfl, rfl⟩)
def f_MofR5 (σ : XS9) (r R B C : Nat) (g : Nat) : Int32 := if σ 7000 25 = 0 then f_MofR5_n σ r R B C else f_MofR5_c σ r R B C g
theorem ct_MofR5 {l : Launch} {h : XH} (hl : l.stackTraces = false) {z : Int64} {σ : XS9} (hbs : xx_bs h) {R : Nat} (hR : σ 5001 900 = nI R) (hR5 : R ≤ 5) {B : Nat} (hB : σ 5002 900 = nI B) (hB6 : B ≤ 6) {C : Nat} (hS : σ 5004 900 = nI (2 * C)) (hC10 : C ≤ 10) {r : Nat} (hr : r < R) (hfl : σ 7000 25 = nI 0 ∨ (σ 7000 25 = nI 1 ∧ σ 7000 20 = nI 1)) {g : Nat} (hg : σ 7000 23 = nI g) (hg1 : g < 200) {w : Nat} (hw : σ 7000 24 = nI w) (hw1 : w < 200) : XEx l m_X14_ofRegionNow 4 0 0 [.ref 5000, .int (nI r), .int 5] (setM z σ h) (some (.int (f_MofR5 σ r R B C g))) (setM z σ h) := by
  unfold f_MofR5
  rcases hfl with hf5 | ⟨hf5, hf⟩
  · rw [if_pos (by rw [hf5]; rfl)]
    exact ct_MofR5_n hl hbs hR hR5 hB hB6 hS hC10 hr hf5
  · rw [if_neg (fl1 hf5)]
    exact ct_MofR5_c hl hbs hR hR5 hB hB6 hS hC10 hr hf hf5 hg hg1 hw hw1
def f_MofR6_c (σ : XS9) (r R B C : Nat) (g : Nat) : Int32 := f_KwishedIn σ 7000 r B g
theorem ct_MofR6_c {l : Launch} {h : XH} (hl : l.stackTraces = false) {z : Int64} {σ : XS9} (hbs : xx_bs h) {R : Nat} (hR : σ 5001 900 = nI R) (hR5 : R ≤ 5) {B : Nat} (hB : σ 5002 900 = nI B) (hB6 : B ≤ 6) {C : Nat} (hS : σ 5004 900 = nI (2 * C)) (hC10 : C ≤ 10) {r : Nat} (hr : r < R) (hf : σ 7000 20 = nI 1) (hf5 : σ 7000 25 = nI 1) {g : Nat} (hg : σ 7000 23 = nI g) (hg1 : g < 200) {w : Nat} (hw : σ 7000 24 = nI w) (hw1 : w < 200)  : XEx l m_X14_ofRegionNow 4 0 0 [.ref 5000, .int (nI r), .int 6] (setM z σ h) (some (.int (f_MofR6_c σ r R B C g))) (setM z σ h) := by
  refine XMet.of hl rfl rfl (Nat.le_of_ble_eq_true rfl) (fun Y O hh hQ => ?_)
  show SW Y 0 0 (setM z σ h) 0 [.ref 5000, .int (nI r), .int 6, xx_d] []
  refine sw_aload_n O (xx_dt dd_X14_ofRegionNow 0 rfl) rfl ?_
  refine sw_get (v := .ref 5001) O (xx_dt dd_X14_ofRegionNow 1 rfl) cl_X14 fl_X14_23 (lm_modC (σ := σ) (fl1 hf5)) (by decide) rfl ?_
  refine sw_iload_n O (xx_dt dd_X14_ofRegionNow 2 rfl) rfl ?_
  refine sw_callVL (ci := 6) (as := [.int (nI r)]) (st := []) (st2 := [.ref (5010 + r)]) O (ct_get hl hbs (lm_5001 (σ := σ) (R := R) hR (by omega)) (by omega) (i := r) (x := 5010 + r) (by omega) (by omega) rfl) ce_Jx4a65c_get_915e3 ml_X14_61 iv_Jx4a65c_get_915e3 cl_Jx4a65c rfl (lm_5001 (σ := σ) (R := R) hR (by omega)) (xx_dt dd_X14_ofRegionNow 3 rfl) (by decide) rfl rfl (Nat.le_of_ble_eq_true rfl) rfl ?_
  refine sw_castO O (xx_dt dd_X14_ofRegionNow 4 rfl) cl_X12 (lm_reg (σ := σ) (R := R) hR (by omega) (j := r) (by omega)) cw_X14_65 ?_
  refine sw_astore_n (ls2 := [.ref 5000, .int (nI r), .int 6, .ref (5010 + r)]) O (xx_dt dd_X14_ofRegionNow 5 rfl) (by decide) rfl ?_
  refine sw_iload_n O (xx_dt dd_X14_ofRegionNow 6 rfl) rfl ?_
  refine sw_tableIn (off := 131) (tgt := 144) O (xx_dt dd_X14_ofRegionNow 7 rfl) (by decide) (by decide) rfl (by decide) ?_
  refine sw_aload_n O (xx_dt dd_X14_ofRegionNow 52 rfl) rfl ?_
  refine sw_get (v := .ref 7000) O (xx_dt dd_X14_ofRegionNow 53 rfl) cl_X14 fl_X14_141 (lm_modC (σ := σ) (fl1 hf5)) (by decide) rfl ?_
  refine sw_ifnonnull (tgt := 155) O (xx_dt dd_X14_ofRegionNow 54 rfl) (by decide) ?_
  refine sw_aload_n O (xx_dt dd_X14_ofRegionNow 57 rfl) rfl ?_
  refine sw_get (v := .ref 7000) O (xx_dt dd_X14_ofRegionNow 58 rfl) cl_X14 fl_X14_141 (lm_modC (σ := σ) (fl1 hf5)) (by decide) rfl ?_
  refine sw_iload_n O (xx_dt dd_X14_ofRegionNow 59 rfl) rfl ?_
  refine sw_callVx (as := [.int (nI r)]) (st := []) (st2 := [.int (f_KwishedIn σ 7000 r B g)]) O (ct_X11_wishedIn hl (z := z) (σ := σ) hbs (b := 7000) (.inl rfl) hf (g := g) hg (by omega) (w := w) hw (by omega) (B := B) hB (by omega) (r := r) (by omega)) ce_X11_wishedIn ml_X14_293 iv_X11_wishedIn cl_X11 rfl (lm_clk (σ := σ) (b := 7000) (.inl rfl) (fl1 hf) (g := g) hg (by omega) (w := w) hw (by omega)) (xx_dt dd_X14_ofRegionNow 60 rfl) (by decide) rfl rfl (Nat.le_of_ble_eq_true rfl) rfl ?_
  exact sw_iret O (xx_dt dd_X14_ofRegionNow 61 rfl) rfl rfl (by rw [hQ]; exact ⟨by unfold f_MofR6_c; rfl, rfl⟩)
def f_MofR6_n (σ : XS9) (r R B C : Nat) : Int32 := 0
theorem ct_MofR6_n {l : Launch} {h : XH} (hl : l.stackTraces = false) {z : Int64} {σ : XS9} (hbs : xx_bs h) {R : Nat} (hR : σ 5001 900 = nI R) (hR5 : R ≤ 5) {B : Nat} (hB : σ 5002 900 = nI B) (hB6 : B ≤ 6) {C : Nat} (hS : σ 5004 900 = nI (2 * C)) (hC10 : C ≤ 10) {r : Nat} (hr : r < R) (hf5 : σ 7000 25 = nI 0)  : XEx l m_X14_ofRegionNow 4 0 0 [.ref 5000, .int (nI r), .int 6] (setM z σ h) (some (.int (f_MofR6_n σ r R B C))) (setM z σ h) := by
  refine XMet.of hl rfl rfl (Nat.le_of_ble_eq_true rfl) (fun Y O hh hQ => ?_)
  show SW Y 0 0 (setM z σ h) 0 [.ref 5000, .int (nI r), .int 6, xx_d] []
  refine sw_aload_n O (xx_dt dd_X14_ofRegionNow 0 rfl) rfl ?_
  refine sw_get (v := .ref 5001) O (xx_dt dd_X14_ofRegionNow 1 rfl) cl_X14 fl_X14_23 (lm_modN (σ := σ) hf5) (by decide) rfl ?_
  refine sw_iload_n O (xx_dt dd_X14_ofRegionNow 2 rfl) rfl ?_
  refine sw_callVL (ci := 6) (as := [.int (nI r)]) (st := []) (st2 := [.ref (5010 + r)]) O (ct_get hl hbs (lm_5001 (σ := σ) (R := R) hR (by omega)) (by omega) (i := r) (x := 5010 + r) (by omega) (by omega) rfl) ce_Jx4a65c_get_915e3 ml_X14_61 iv_Jx4a65c_get_915e3 cl_Jx4a65c rfl (lm_5001 (σ := σ) (R := R) hR (by omega)) (xx_dt dd_X14_ofRegionNow 3 rfl) (by decide) rfl rfl (Nat.le_of_ble_eq_true rfl) rfl ?_
  refine sw_castO O (xx_dt dd_X14_ofRegionNow 4 rfl) cl_X12 (lm_reg (σ := σ) (R := R) hR (by omega) (j := r) (by omega)) cw_X14_65 ?_
  refine sw_astore_n (ls2 := [.ref 5000, .int (nI r), .int 6, .ref (5010 + r)]) O (xx_dt dd_X14_ofRegionNow 5 rfl) (by decide) rfl ?_
  refine sw_iload_n O (xx_dt dd_X14_ofRegionNow 6 rfl) rfl ?_
  refine sw_tableIn (off := 131) (tgt := 144) O (xx_dt dd_X14_ofRegionNow 7 rfl) (by decide) (by decide) rfl (by decide) ?_
  refine sw_aload_n O (xx_dt dd_X14_ofRegionNow 52 rfl) rfl ?_
  refine sw_get (v := .null) O (xx_dt dd_X14_ofRegionNow 53 rfl) cl_X14 fl_X14_141 (lm_modN (σ := σ) hf5) (by decide) rfl ?_
  refine sw_ifnonnullN O (xx_dt dd_X14_ofRegionNow 54 rfl) ?_
  refine sw_iconst (x := 0) O (xx_dt dd_X14_ofRegionNow 55 rfl) (by decide) ?_
  refine sw_goto (tgt := 163) O (xx_dt dd_X14_ofRegionNow 56 rfl) (by decide) ?_
  exact sw_iret O (xx_dt dd_X14_ofRegionNow 61 rfl) rfl rfl (by rw [hQ]; exact ⟨by unfold f_MofR6_n; rfl, rfl⟩)
def f_MofR6 (σ : XS9) (r R B C : Nat) (g : Nat) : Int32 := if σ 7000 25 = 0 then f_MofR6_n σ r R B C else f_MofR6_c σ r R B C g
theorem ct_MofR6 {l : Launch} {h : XH} (hl : l.stackTraces = false) {z : Int64} {σ : XS9} (hbs : xx_bs h) {R : Nat} (hR : σ 5001 900 = nI R) (hR5 : R ≤ 5) {B : Nat} (hB : σ 5002 900 = nI B) (hB6 : B ≤ 6) {C : Nat} (hS : σ 5004 900 = nI (2 * C)) (hC10 : C ≤ 10) {r : Nat} (hr : r < R) (hfl : σ 7000 25 = nI 0 ∨ (σ 7000 25 = nI 1 ∧ σ 7000 20 = nI 1)) {g : Nat} (hg : σ 7000 23 = nI g) (hg1 : g < 200) {w : Nat} (hw : σ 7000 24 = nI w) (hw1 : w < 200) : XEx l m_X14_ofRegionNow 4 0 0 [.ref 5000, .int (nI r), .int 6] (setM z σ h) (some (.int (f_MofR6 σ r R B C g))) (setM z σ h) := by
  unfold f_MofR6
  rcases hfl with hf5 | ⟨hf5, hf⟩
  · rw [if_pos (by rw [hf5]; rfl)]
    exact ct_MofR6_n hl hbs hR hR5 hB hB6 hS hC10 hr hf5
  · rw [if_neg (fl1 hf5)]
    exact ct_MofR6_c hl hbs hR hR5 hB hB6 hS hC10 hr hf hf5 hg hg1 hw hw1
def f_MofR7 (σ : XS9) (r R B C g : Nat) : Int32 := σ (5010 + r) 3
theorem ct_MofR7 {l : Launch} {h : XH} (hl : l.stackTraces = false) {z : Int64} {σ : XS9} (hbs : xx_bs h) {R : Nat} (hR : σ 5001 900 = nI R) (hR5 : R ≤ 5) {B : Nat} (hB : σ 5002 900 = nI B) (hB6 : B ≤ 6) {C : Nat} (hS : σ 5004 900 = nI (2 * C)) (hC10 : C ≤ 10) {r : Nat} (hr : r < R) {g : Nat}  : XEx l m_X14_ofRegionNow 4 0 0 [.ref 5000, .int (nI r), .int 7] (setM z σ h) (some (.int (f_MofR7 σ r R B C g))) (setM z σ h) := by
  refine XMet.of hl rfl rfl (Nat.le_of_ble_eq_true rfl) (fun Y O hh hQ => ?_)
  show SW Y 0 0 (setM z σ h) 0 [.ref 5000, .int (nI r), .int 7, xx_d] []
  refine sw_aload_n O (xx_dt dd_X14_ofRegionNow 0 rfl) rfl ?_
  refine sw_get (v := .ref 5001) O (xx_dt dd_X14_ofRegionNow 1 rfl) cl_X14 fl_X14_23 (lm_mod (σ := σ)) (by decide) rfl ?_
  refine sw_iload_n O (xx_dt dd_X14_ofRegionNow 2 rfl) rfl ?_
  refine sw_callVL (ci := 6) (as := [.int (nI r)]) (st := []) (st2 := [.ref (5010 + r)]) O (ct_get hl hbs (lm_5001 (σ := σ) (R := R) hR (by omega)) (by omega) (i := r) (x := 5010 + r) (by omega) (by omega) rfl) ce_Jx4a65c_get_915e3 ml_X14_61 iv_Jx4a65c_get_915e3 cl_Jx4a65c rfl (lm_5001 (σ := σ) (R := R) hR (by omega)) (xx_dt dd_X14_ofRegionNow 3 rfl) (by decide) rfl rfl (Nat.le_of_ble_eq_true rfl) rfl ?_
  refine sw_castO O (xx_dt dd_X14_ofRegionNow 4 rfl) cl_X12 (lm_reg (σ := σ) (R := R) hR (by omega) (j := r) (by omega)) cw_X14_65 ?_
  refine sw_astore_n (ls2 := [.ref 5000, .int (nI r), .int 7, .ref (5010 + r)]) O (xx_dt dd_X14_ofRegionNow 5 rfl) (by decide) rfl ?_
  refine sw_iload_n O (xx_dt dd_X14_ofRegionNow 6 rfl) rfl ?_
  refine sw_tableIn (off := 151) (tgt := 164) O (xx_dt dd_X14_ofRegionNow 7 rfl) (by decide) (by decide) rfl (by decide) ?_
  refine sw_aload_n O (xx_dt dd_X14_ofRegionNow 62 rfl) rfl ?_
  refine sw_get (v := .int (σ (5010 + r) 3)) O (xx_dt dd_X14_ofRegionNow 63 rfl) cl_X12 fl_X14_95 (lm_reg (σ := σ) (R := R) hR (by omega) (j := r) (by omega)) (by decide) rfl ?_
  exact sw_iret O (xx_dt dd_X14_ofRegionNow 64 rfl) rfl rfl (by rw [hQ]; exact ⟨by unfold f_MofR7; rfl, rfl⟩)
def f_MofR8 (σ : XS9) (r R B C g : Nat) : Int32 := f_MstationsIn σ (nI r) C
theorem ct_MofR8 {l : Launch} {h : XH} (hl : l.stackTraces = false) {z : Int64} {σ : XS9} (hbs : xx_bs h) {R : Nat} (hR : σ 5001 900 = nI R) (hR5 : R ≤ 5) {B : Nat} (hB : σ 5002 900 = nI B) (hB6 : B ≤ 6) {C : Nat} (hS : σ 5004 900 = nI (2 * C)) (hC10 : C ≤ 10) {r : Nat} (hr : r < R) {g : Nat}  : XEx l m_X14_ofRegionNow 4 0 0 [.ref 5000, .int (nI r), .int 8] (setM z σ h) (some (.int (f_MofR8 σ r R B C g))) (setM z σ h) := by
  refine XMet.of hl rfl rfl (Nat.le_of_ble_eq_true rfl) (fun Y O hh hQ => ?_)
  show SW Y 0 0 (setM z σ h) 0 [.ref 5000, .int (nI r), .int 8, xx_d] []
  refine sw_aload_n O (xx_dt dd_X14_ofRegionNow 0 rfl) rfl ?_
  refine sw_get (v := .ref 5001) O (xx_dt dd_X14_ofRegionNow 1 rfl) cl_X14 fl_X14_23 (lm_mod (σ := σ)) (by decide) rfl ?_
  refine sw_iload_n O (xx_dt dd_X14_ofRegionNow 2 rfl) rfl ?_
  refine sw_callVL (ci := 6) (as := [.int (nI r)]) (st := []) (st2 := [.ref (5010 + r)]) O (ct_get hl hbs (lm_5001 (σ := σ) (R := R) hR (by omega)) (by omega) (i := r) (x := 5010 + r) (by omega) (by omega) rfl) ce_Jx4a65c_get_915e3 ml_X14_61 iv_Jx4a65c_get_915e3 cl_Jx4a65c rfl (lm_5001 (σ := σ) (R := R) hR (by omega)) (xx_dt dd_X14_ofRegionNow 3 rfl) (by decide) rfl rfl (Nat.le_of_ble_eq_true rfl) rfl ?_
  refine sw_castO O (xx_dt dd_X14_ofRegionNow 4 rfl) cl_X12 (lm_reg (σ := σ) (R := R) hR (by omega) (j := r) (by omega)) cw_X14_65 ?_
  refine sw_astore_n (ls2 := [.ref 5000, .int (nI r), .int 8, .ref (5010 + r)]) O (xx_dt dd_X14_ofRegionNow 5 rfl) (by decide) rfl ?_
  refine sw_iload_n O (xx_dt dd_X14_ofRegionNow 6 rfl) rfl ?_
  refine sw_tableOut (tgt := 169) O (xx_dt dd_X14_ofRegionNow 7 rfl) (by decide) (by decide) ?_
  refine sw_aload_n O (xx_dt dd_X14_ofRegionNow 65 rfl) rfl ?_
  refine sw_iload_n O (xx_dt dd_X14_ofRegionNow 66 rfl) rfl ?_
  refine sw_callVx (as := [.int (nI r)]) (st := []) (st2 := [.int (f_MstationsIn σ (nI r) C)]) O (ct_X14_stationsIn hl (z := z) (σ := σ) hbs (C := C) hS (by omega) (x := nI r) ) ce_X14_stationsIn ml_X14_296 iv_X14_stationsIn cl_X14 rfl (lm_mod (σ := σ)) (xx_dt dd_X14_ofRegionNow 67 rfl) (by decide) rfl rfl (Nat.le_of_ble_eq_true rfl) rfl ?_
  exact sw_iret O (xx_dt dd_X14_ofRegionNow 68 rfl) rfl rfl (by rw [hQ]; exact ⟨by unfold f_MofR8; rfl, rfl⟩)
def f_MofRegionNow (σ : XS9) (r R B C g : Nat) (v : Nat) : Int32 := match v with | 0 => f_MofR0 σ r R B C g | 1 => f_MofR1 σ r R B C g | 2 => f_MofR2 σ r R B C g | 3 => f_MofR3 σ r R B C g | 4 => f_MofR4 σ r R B C g | 5 => f_MofR5 σ r R B C g | 6 => f_MofR6 σ r R B C g | 7 => f_MofR7 σ r R B C g | _ => f_MofR8 σ r R B C g
theorem ct_X14_ofRegionNow {l : Launch} {h : XH} (hl : l.stackTraces = false) {z : Int64} {σ : XS9} (hbs : xx_bs h) {R : Nat} (hR : σ 5001 900 = nI R) (hR5 : R ≤ 5) {B : Nat} (hB : σ 5002 900 = nI B) (hB6 : B ≤ 6) {C : Nat} (hS : σ 5004 900 = nI (2 * C)) (hC10 : C ≤ 10) {r : Nat} (hr : r < R) (hfl : σ 7000 25 = nI 0 ∨ (σ 7000 25 = nI 1 ∧ σ 7000 20 = nI 1)) {g : Nat} (hg : σ 7000 23 = nI g) (hg1 : g < 200) {w : Nat} (hw : σ 7000 24 = nI w) (hw1 : w < 200) {v : Nat} (hv : v < 9) : XEx l m_X14_ofRegionNow 4 0 0 [.ref 5000, .int (nI r), .int (nI v)] (setM z σ h) (some (.int (f_MofRegionNow σ r R B C g v))) (setM z σ h) := by
  match v, hv with
  | 0, _ => exact ct_MofR0 (g := g) hl hbs hR hR5 hB hB6 hS hC10 hr
  | 1, _ => exact ct_MofR1 (g := g) hl hbs hR hR5 hB hB6 hS hC10 hr
  | 2, _ => exact ct_MofR2 (g := g) hl hbs hR hR5 hB hB6 hS hC10 hr
  | 3, _ => exact ct_MofR3 (g := g) hl hbs hR hR5 hB hB6 hS hC10 hr hfl hg hg1 hw hw1
  | 4, _ => exact ct_MofR4 (g := g) hl hbs hR hR5 hB hB6 hS hC10 hr hfl hg hg1 hw hw1
  | 5, _ => exact ct_MofR5 (g := g) hl hbs hR hR5 hB hB6 hS hC10 hr hfl hg hg1 hw hw1
  | 6, _ => exact ct_MofR6 (g := g) hl hbs hR hR5 hB hB6 hS hC10 hr hfl hg hg1 hw hw1
  | 7, _ => exact ct_MofR7 (g := g) hl hbs hR hR5 hB hB6 hS hC10 hr
  | 8, _ => exact ct_MofR8 (g := g) hl hbs hR hR5 hB hB6 hS hC10 hr
  | k + 9, h9 => exact absurd h9 (by omega)
def f_MofB0 (σ : XS9) (i R B : Nat) (pk : Nat → Nat) (g : Nat) : Int32 := σ (5020 + i) 0
theorem ct_MofB0 {l : Launch} {h : XH} (hl : l.stackTraces = false) {z : Int64} {σ : XS9} (hbs : xx_bs h) {R : Nat} (hR : σ 5001 900 = nI R) (hR5 : R ≤ 5) {B : Nat} (hB : σ 5002 900 = nI B) (hB6 : B ≤ 6) {pk : Nat → Nat} (hpk : ∀ j, j < B → σ (5030 + j) 900 = nI (2 * pk j) ∧ pk j ≤ 6) {i : Nat} (hi : i < B) {g : Nat}  : XEx l m_X14_ofBidderNow 5 0 0 [.ref 5000, .int (nI i), .int 0] (setM z σ h) (some (.int (f_MofB0 σ i R B pk g))) (setM z σ h) := by
  refine XMet.of hl rfl rfl (Nat.le_of_ble_eq_true rfl) (fun Y O hh hQ => ?_)
  show SW Y 0 0 (setM z σ h) 0 [.ref 5000, .int (nI i), .int 0, xx_d] []
  refine sw_aload_n O (xx_dt dd_X14_ofBidderNow 0 rfl) rfl ?_
  refine sw_get (v := .ref 5002) O (xx_dt dd_X14_ofBidderNow 1 rfl) cl_X14 fl_X14_27 (lm_mod (σ := σ)) (by decide) rfl ?_
  refine sw_iload_n O (xx_dt dd_X14_ofBidderNow 2 rfl) rfl ?_
  refine sw_callVL (ci := 6) (as := [.int (nI i)]) (st := []) (st2 := [.ref (5020 + i)]) O (ct_get hl hbs (lm_5002 (σ := σ) (B := B) hB (by omega)) (by omega) (i := i) (x := 5020 + i) (by omega) (by omega) rfl) ce_Jx4a65c_get_915e3 ml_X14_61 iv_Jx4a65c_get_915e3 cl_Jx4a65c rfl (lm_5002 (σ := σ) (B := B) hB (by omega)) (xx_dt dd_X14_ofBidderNow 3 rfl) (by decide) rfl rfl (Nat.le_of_ble_eq_true rfl) rfl ?_
  refine sw_castO O (xx_dt dd_X14_ofBidderNow 4 rfl) cl_X9 (lm_bid (σ := σ) (B := B) hB (by omega) (j := i) (by omega)) cw_X14_118 ?_
  refine sw_astore_n (ls2 := [.ref 5000, .int (nI i), .int 0, .ref (5020 + i)]) O (xx_dt dd_X14_ofBidderNow 5 rfl) (by decide) rfl ?_
  refine sw_iload_n O (xx_dt dd_X14_ofBidderNow 6 rfl) rfl ?_
  refine sw_tableIn (off := 55) (tgt := 68) O (xx_dt dd_X14_ofBidderNow 7 rfl) (by decide) (by decide) rfl (by decide) ?_
  refine sw_aload_n O (xx_dt dd_X14_ofBidderNow 8 rfl) rfl ?_
  refine sw_get (v := .int (σ (5020 + i) 0)) O (xx_dt dd_X14_ofBidderNow 9 rfl) cl_X9 fl_X14_121 (lm_bid (σ := σ) (B := B) hB (by omega) (j := i) (by omega)) (by decide) rfl ?_
  exact sw_iret O (xx_dt dd_X14_ofBidderNow 10 rfl) rfl rfl (by rw [hQ]; exact ⟨by unfold f_MofB0; rfl, rfl⟩)
def f_MofB1_c (σ : XS9) (i R B : Nat) (pk : Nat → Nat) (g : Nat) : Int32 := σ (7000 + 3) i
theorem ct_MofB1_c {l : Launch} {h : XH} (hl : l.stackTraces = false) {z : Int64} {σ : XS9} (hbs : xx_bs h) {R : Nat} (hR : σ 5001 900 = nI R) (hR5 : R ≤ 5) {B : Nat} (hB : σ 5002 900 = nI B) (hB6 : B ≤ 6) {pk : Nat → Nat} (hpk : ∀ j, j < B → σ (5030 + j) 900 = nI (2 * pk j) ∧ pk j ≤ 6) {i : Nat} (hi : i < B) (hf : σ 7000 20 = nI 1) (hf5 : σ 7000 25 = nI 1) {g : Nat} (hg : σ 7000 23 = nI g) (hg1 : g < 200) {w : Nat} (hw : σ 7000 24 = nI w) (hw1 : w < 200)  : XEx l m_X14_ofBidderNow 5 0 0 [.ref 5000, .int (nI i), .int 1] (setM z σ h) (some (.int (f_MofB1_c σ i R B pk g))) (setM z σ h) := by
  refine XMet.of hl rfl rfl (Nat.le_of_ble_eq_true rfl) (fun Y O hh hQ => ?_)
  show SW Y 0 0 (setM z σ h) 0 [.ref 5000, .int (nI i), .int 1, xx_d] []
  refine sw_aload_n O (xx_dt dd_X14_ofBidderNow 0 rfl) rfl ?_
  refine sw_get (v := .ref 5002) O (xx_dt dd_X14_ofBidderNow 1 rfl) cl_X14 fl_X14_27 (lm_modC (σ := σ) (fl1 hf5)) (by decide) rfl ?_
  refine sw_iload_n O (xx_dt dd_X14_ofBidderNow 2 rfl) rfl ?_
  refine sw_callVL (ci := 6) (as := [.int (nI i)]) (st := []) (st2 := [.ref (5020 + i)]) O (ct_get hl hbs (lm_5002 (σ := σ) (B := B) hB (by omega)) (by omega) (i := i) (x := 5020 + i) (by omega) (by omega) rfl) ce_Jx4a65c_get_915e3 ml_X14_61 iv_Jx4a65c_get_915e3 cl_Jx4a65c rfl (lm_5002 (σ := σ) (B := B) hB (by omega)) (xx_dt dd_X14_ofBidderNow 3 rfl) (by decide) rfl rfl (Nat.le_of_ble_eq_true rfl) rfl ?_
  refine sw_castO O (xx_dt dd_X14_ofBidderNow 4 rfl) cl_X9 (lm_bid (σ := σ) (B := B) hB (by omega) (j := i) (by omega)) cw_X14_118 ?_
  refine sw_astore_n (ls2 := [.ref 5000, .int (nI i), .int 1, .ref (5020 + i)]) O (xx_dt dd_X14_ofBidderNow 5 rfl) (by decide) rfl ?_
  refine sw_iload_n O (xx_dt dd_X14_ofBidderNow 6 rfl) rfl ?_
  refine sw_tableIn (off := 60) (tgt := 73) O (xx_dt dd_X14_ofBidderNow 7 rfl) (by decide) (by decide) rfl (by decide) ?_
  refine sw_aload_n O (xx_dt dd_X14_ofBidderNow 11 rfl) rfl ?_
  refine sw_get (v := .ref 7000) O (xx_dt dd_X14_ofBidderNow 12 rfl) cl_X14 fl_X14_141 (lm_modC (σ := σ) (fl1 hf5)) (by decide) rfl ?_
  refine sw_ifnonnull (tgt := 87) O (xx_dt dd_X14_ofBidderNow 13 rfl) (by decide) ?_
  refine sw_aload_n O (xx_dt dd_X14_ofBidderNow 17 rfl) rfl ?_
  refine sw_get (v := .ref 7000) O (xx_dt dd_X14_ofBidderNow 18 rfl) cl_X14 fl_X14_141 (lm_modC (σ := σ) (fl1 hf5)) (by decide) rfl ?_
  refine sw_get (v := .ref (7000 + 3)) O (xx_dt dd_X14_ofBidderNow 19 rfl) cl_X11 fl_X14_154 (lm_clk (σ := σ) (b := 7000) (.inl rfl) (fl1 hf) (g := g) hg (by omega) (w := w) hw (by omega)) (by decide) rfl ?_
  refine sw_iload_n O (xx_dt dd_X14_ofBidderNow 20 rfl) rfl ?_
  refine sw_iaload (v := .int (σ (7000 + 3) i)) O (xx_dt dd_X14_ofBidderNow 21 rfl) ((im_kel (z := z) (σ := σ) (b := 7000) (.inl rfl) hf).get _) (pk_in i _ (by omega)) (by rw [nI_clamp (by omega)]; try exact rfl) ?_
  exact sw_iret O (xx_dt dd_X14_ofBidderNow 22 rfl) rfl rfl (by rw [hQ]; exact ⟨by unfold f_MofB1_c; rfl, rfl⟩)
def f_MofB1_n (σ : XS9) (i R B : Nat) (pk : Nat → Nat) : Int32 := σ (5020 + i) 1
theorem ct_MofB1_n {l : Launch} {h : XH} (hl : l.stackTraces = false) {z : Int64} {σ : XS9} (hbs : xx_bs h) {R : Nat} (hR : σ 5001 900 = nI R) (hR5 : R ≤ 5) {B : Nat} (hB : σ 5002 900 = nI B) (hB6 : B ≤ 6) {pk : Nat → Nat} (hpk : ∀ j, j < B → σ (5030 + j) 900 = nI (2 * pk j) ∧ pk j ≤ 6) {i : Nat} (hi : i < B) (hf5 : σ 7000 25 = nI 0)  : XEx l m_X14_ofBidderNow 5 0 0 [.ref 5000, .int (nI i), .int 1] (setM z σ h) (some (.int (f_MofB1_n σ i R B pk))) (setM z σ h) := by
  refine XMet.of hl rfl rfl (Nat.le_of_ble_eq_true rfl) (fun Y O hh hQ => ?_)
  show SW Y 0 0 (setM z σ h) 0 [.ref 5000, .int (nI i), .int 1, xx_d] []
  refine sw_aload_n O (xx_dt dd_X14_ofBidderNow 0 rfl) rfl ?_
  refine sw_get (v := .ref 5002) O (xx_dt dd_X14_ofBidderNow 1 rfl) cl_X14 fl_X14_27 (lm_modN (σ := σ) hf5) (by decide) rfl ?_
  refine sw_iload_n O (xx_dt dd_X14_ofBidderNow 2 rfl) rfl ?_
  refine sw_callVL (ci := 6) (as := [.int (nI i)]) (st := []) (st2 := [.ref (5020 + i)]) O (ct_get hl hbs (lm_5002 (σ := σ) (B := B) hB (by omega)) (by omega) (i := i) (x := 5020 + i) (by omega) (by omega) rfl) ce_Jx4a65c_get_915e3 ml_X14_61 iv_Jx4a65c_get_915e3 cl_Jx4a65c rfl (lm_5002 (σ := σ) (B := B) hB (by omega)) (xx_dt dd_X14_ofBidderNow 3 rfl) (by decide) rfl rfl (Nat.le_of_ble_eq_true rfl) rfl ?_
  refine sw_castO O (xx_dt dd_X14_ofBidderNow 4 rfl) cl_X9 (lm_bid (σ := σ) (B := B) hB (by omega) (j := i) (by omega)) cw_X14_118 ?_
  refine sw_astore_n (ls2 := [.ref 5000, .int (nI i), .int 1, .ref (5020 + i)]) O (xx_dt dd_X14_ofBidderNow 5 rfl) (by decide) rfl ?_
  refine sw_iload_n O (xx_dt dd_X14_ofBidderNow 6 rfl) rfl ?_
  refine sw_tableIn (off := 60) (tgt := 73) O (xx_dt dd_X14_ofBidderNow 7 rfl) (by decide) (by decide) rfl (by decide) ?_
  refine sw_aload_n O (xx_dt dd_X14_ofBidderNow 11 rfl) rfl ?_
  refine sw_get (v := .null) O (xx_dt dd_X14_ofBidderNow 12 rfl) cl_X14 fl_X14_141 (lm_modN (σ := σ) hf5) (by decide) rfl ?_
  refine sw_ifnonnullN O (xx_dt dd_X14_ofBidderNow 13 rfl) ?_
  refine sw_aload_n O (xx_dt dd_X14_ofBidderNow 14 rfl) rfl ?_
  refine sw_get (v := .int (σ (5020 + i) 1)) O (xx_dt dd_X14_ofBidderNow 15 rfl) cl_X9 fl_X14_124 (lm_bid (σ := σ) (B := B) hB (by omega) (j := i) (by omega)) (by decide) rfl ?_
  refine sw_goto (tgt := 96) O (xx_dt dd_X14_ofBidderNow 16 rfl) (by decide) ?_
  exact sw_iret O (xx_dt dd_X14_ofBidderNow 22 rfl) rfl rfl (by rw [hQ]; exact ⟨by unfold f_MofB1_n; rfl, rfl⟩)
def f_MofB1 (σ : XS9) (i R B : Nat) (pk : Nat → Nat) (g : Nat) : Int32 := if σ 7000 25 = 0 then f_MofB1_n σ i R B pk else f_MofB1_c σ i R B pk g
theorem ct_MofB1 {l : Launch} {h : XH} (hl : l.stackTraces = false) {z : Int64} {σ : XS9} (hbs : xx_bs h) {R : Nat} (hR : σ 5001 900 = nI R) (hR5 : R ≤ 5) {B : Nat} (hB : σ 5002 900 = nI B) (hB6 : B ≤ 6) {pk : Nat → Nat} (hpk : ∀ j, j < B → σ (5030 + j) 900 = nI (2 * pk j) ∧ pk j ≤ 6) {i : Nat} (hi : i < B) (hfl : σ 7000 25 = nI 0 ∨ (σ 7000 25 = nI 1 ∧ σ 7000 20 = nI 1)) {g : Nat} (hg : σ 7000 23 = nI g) (hg1 : g < 200) {w : Nat} (hw : σ 7000 24 = nI w) (hw1 : w < 200) : XEx l m_X14_ofBidderNow 5 0 0 [.ref 5000, .int (nI i), .int 1] (setM z σ h) (some (.int (f_MofB1 σ i R B pk g))) (setM z σ h) := by
  unfold f_MofB1
  rcases hfl with hf5 | ⟨hf5, hf⟩
  · rw [if_pos (by rw [hf5]; rfl)]
    exact ct_MofB1_n hl hbs hR hR5 hB hB6 hpk hi hf5
  · rw [if_neg (fl1 hf5)]
    exact ct_MofB1_c hl hbs hR hR5 hB hB6 hpk hi hf hf5 hg hg1 hw hw1
def f_MofB2 (σ : XS9) (i R B : Nat) (pk : Nat → Nat) (g : Nat) : Int32 := σ (5020 + i) 2
theorem ct_MofB2 {l : Launch} {h : XH} (hl : l.stackTraces = false) {z : Int64} {σ : XS9} (hbs : xx_bs h) {R : Nat} (hR : σ 5001 900 = nI R) (hR5 : R ≤ 5) {B : Nat} (hB : σ 5002 900 = nI B) (hB6 : B ≤ 6) {pk : Nat → Nat} (hpk : ∀ j, j < B → σ (5030 + j) 900 = nI (2 * pk j) ∧ pk j ≤ 6) {i : Nat} (hi : i < B) {g : Nat}  : XEx l m_X14_ofBidderNow 5 0 0 [.ref 5000, .int (nI i), .int 2] (setM z σ h) (some (.int (f_MofB2 σ i R B pk g))) (setM z σ h) := by
  refine XMet.of hl rfl rfl (Nat.le_of_ble_eq_true rfl) (fun Y O hh hQ => ?_)
  show SW Y 0 0 (setM z σ h) 0 [.ref 5000, .int (nI i), .int 2, xx_d] []
  refine sw_aload_n O (xx_dt dd_X14_ofBidderNow 0 rfl) rfl ?_
  refine sw_get (v := .ref 5002) O (xx_dt dd_X14_ofBidderNow 1 rfl) cl_X14 fl_X14_27 (lm_mod (σ := σ)) (by decide) rfl ?_
  refine sw_iload_n O (xx_dt dd_X14_ofBidderNow 2 rfl) rfl ?_
  refine sw_callVL (ci := 6) (as := [.int (nI i)]) (st := []) (st2 := [.ref (5020 + i)]) O (ct_get hl hbs (lm_5002 (σ := σ) (B := B) hB (by omega)) (by omega) (i := i) (x := 5020 + i) (by omega) (by omega) rfl) ce_Jx4a65c_get_915e3 ml_X14_61 iv_Jx4a65c_get_915e3 cl_Jx4a65c rfl (lm_5002 (σ := σ) (B := B) hB (by omega)) (xx_dt dd_X14_ofBidderNow 3 rfl) (by decide) rfl rfl (Nat.le_of_ble_eq_true rfl) rfl ?_
  refine sw_castO O (xx_dt dd_X14_ofBidderNow 4 rfl) cl_X9 (lm_bid (σ := σ) (B := B) hB (by omega) (j := i) (by omega)) cw_X14_118 ?_
  refine sw_astore_n (ls2 := [.ref 5000, .int (nI i), .int 2, .ref (5020 + i)]) O (xx_dt dd_X14_ofBidderNow 5 rfl) (by decide) rfl ?_
  refine sw_iload_n O (xx_dt dd_X14_ofBidderNow 6 rfl) rfl ?_
  refine sw_tableIn (off := 84) (tgt := 97) O (xx_dt dd_X14_ofBidderNow 7 rfl) (by decide) (by decide) rfl (by decide) ?_
  refine sw_aload_n O (xx_dt dd_X14_ofBidderNow 23 rfl) rfl ?_
  refine sw_get (v := .int (σ (5020 + i) 2)) O (xx_dt dd_X14_ofBidderNow 24 rfl) cl_X9 fl_X14_127 (lm_bid (σ := σ) (B := B) hB (by omega) (j := i) (by omega)) (by decide) rfl ?_
  exact sw_iret O (xx_dt dd_X14_ofBidderNow 25 rfl) rfl rfl (by rw [hQ]; exact ⟨by unfold f_MofB2; rfl, rfl⟩)
def f_MofB3 (σ : XS9) (i R B : Nat) (pk : Nat → Nat) (g : Nat) : Int32 := σ (5020 + i) 3
theorem ct_MofB3 {l : Launch} {h : XH} (hl : l.stackTraces = false) {z : Int64} {σ : XS9} (hbs : xx_bs h) {R : Nat} (hR : σ 5001 900 = nI R) (hR5 : R ≤ 5) {B : Nat} (hB : σ 5002 900 = nI B) (hB6 : B ≤ 6) {pk : Nat → Nat} (hpk : ∀ j, j < B → σ (5030 + j) 900 = nI (2 * pk j) ∧ pk j ≤ 6) {i : Nat} (hi : i < B) {g : Nat}  : XEx l m_X14_ofBidderNow 5 0 0 [.ref 5000, .int (nI i), .int 3] (setM z σ h) (some (.int (f_MofB3 σ i R B pk g))) (setM z σ h) := by
  refine XMet.of hl rfl rfl (Nat.le_of_ble_eq_true rfl) (fun Y O hh hQ => ?_)
  show SW Y 0 0 (setM z σ h) 0 [.ref 5000, .int (nI i), .int 3, xx_d] []
  refine sw_aload_n O (xx_dt dd_X14_ofBidderNow 0 rfl) rfl ?_
  refine sw_get (v := .ref 5002) O (xx_dt dd_X14_ofBidderNow 1 rfl) cl_X14 fl_X14_27 (lm_mod (σ := σ)) (by decide) rfl ?_
  refine sw_iload_n O (xx_dt dd_X14_ofBidderNow 2 rfl) rfl ?_
  refine sw_callVL (ci := 6) (as := [.int (nI i)]) (st := []) (st2 := [.ref (5020 + i)]) O (ct_get hl hbs (lm_5002 (σ := σ) (B := B) hB (by omega)) (by omega) (i := i) (x := 5020 + i) (by omega) (by omega) rfl) ce_Jx4a65c_get_915e3 ml_X14_61 iv_Jx4a65c_get_915e3 cl_Jx4a65c rfl (lm_5002 (σ := σ) (B := B) hB (by omega)) (xx_dt dd_X14_ofBidderNow 3 rfl) (by decide) rfl rfl (Nat.le_of_ble_eq_true rfl) rfl ?_
  refine sw_castO O (xx_dt dd_X14_ofBidderNow 4 rfl) cl_X9 (lm_bid (σ := σ) (B := B) hB (by omega) (j := i) (by omega)) cw_X14_118 ?_
  refine sw_astore_n (ls2 := [.ref 5000, .int (nI i), .int 3, .ref (5020 + i)]) O (xx_dt dd_X14_ofBidderNow 5 rfl) (by decide) rfl ?_
  refine sw_iload_n O (xx_dt dd_X14_ofBidderNow 6 rfl) rfl ?_
  refine sw_tableIn (off := 89) (tgt := 102) O (xx_dt dd_X14_ofBidderNow 7 rfl) (by decide) (by decide) rfl (by decide) ?_
  refine sw_aload_n O (xx_dt dd_X14_ofBidderNow 26 rfl) rfl ?_
  refine sw_get (v := .int (σ (5020 + i) 3)) O (xx_dt dd_X14_ofBidderNow 27 rfl) cl_X9 fl_X14_130 (lm_bid (σ := σ) (B := B) hB (by omega) (j := i) (by omega)) (by decide) rfl ?_
  exact sw_iret O (xx_dt dd_X14_ofBidderNow 28 rfl) rfl rfl (by rw [hQ]; exact ⟨by unfold f_MofB3; rfl, rfl⟩)
def f_MofB4_c (σ : XS9) (i R B : Nat) (pk : Nat → Nat) (g : Nat) : Int32 := σ (7000 + 4) i
theorem ct_MofB4_c {l : Launch} {h : XH} (hl : l.stackTraces = false) {z : Int64} {σ : XS9} (hbs : xx_bs h) {R : Nat} (hR : σ 5001 900 = nI R) (hR5 : R ≤ 5) {B : Nat} (hB : σ 5002 900 = nI B) (hB6 : B ≤ 6) {pk : Nat → Nat} (hpk : ∀ j, j < B → σ (5030 + j) 900 = nI (2 * pk j) ∧ pk j ≤ 6) {i : Nat} (hi : i < B) (hf : σ 7000 20 = nI 1) (hf5 : σ 7000 25 = nI 1) {g : Nat} (hg : σ 7000 23 = nI g) (hg1 : g < 200) {w : Nat} (hw : σ 7000 24 = nI w) (hw1 : w < 200)  : XEx l m_X14_ofBidderNow 5 0 0 [.ref 5000, .int (nI i), .int 4] (setM z σ h) (some (.int (f_MofB4_c σ i R B pk g))) (setM z σ h) := by
  refine XMet.of hl rfl rfl (Nat.le_of_ble_eq_true rfl) (fun Y O hh hQ => ?_)
  show SW Y 0 0 (setM z σ h) 0 [.ref 5000, .int (nI i), .int 4, xx_d] []
  refine sw_aload_n O (xx_dt dd_X14_ofBidderNow 0 rfl) rfl ?_
  refine sw_get (v := .ref 5002) O (xx_dt dd_X14_ofBidderNow 1 rfl) cl_X14 fl_X14_27 (lm_modC (σ := σ) (fl1 hf5)) (by decide) rfl ?_
  refine sw_iload_n O (xx_dt dd_X14_ofBidderNow 2 rfl) rfl ?_
  refine sw_callVL (ci := 6) (as := [.int (nI i)]) (st := []) (st2 := [.ref (5020 + i)]) O (ct_get hl hbs (lm_5002 (σ := σ) (B := B) hB (by omega)) (by omega) (i := i) (x := 5020 + i) (by omega) (by omega) rfl) ce_Jx4a65c_get_915e3 ml_X14_61 iv_Jx4a65c_get_915e3 cl_Jx4a65c rfl (lm_5002 (σ := σ) (B := B) hB (by omega)) (xx_dt dd_X14_ofBidderNow 3 rfl) (by decide) rfl rfl (Nat.le_of_ble_eq_true rfl) rfl ?_
  refine sw_castO O (xx_dt dd_X14_ofBidderNow 4 rfl) cl_X9 (lm_bid (σ := σ) (B := B) hB (by omega) (j := i) (by omega)) cw_X14_118 ?_
  refine sw_astore_n (ls2 := [.ref 5000, .int (nI i), .int 4, .ref (5020 + i)]) O (xx_dt dd_X14_ofBidderNow 5 rfl) (by decide) rfl ?_
  refine sw_iload_n O (xx_dt dd_X14_ofBidderNow 6 rfl) rfl ?_
  refine sw_tableIn (off := 94) (tgt := 107) O (xx_dt dd_X14_ofBidderNow 7 rfl) (by decide) (by decide) rfl (by decide) ?_
  refine sw_aload_n O (xx_dt dd_X14_ofBidderNow 29 rfl) rfl ?_
  refine sw_get (v := .ref 7000) O (xx_dt dd_X14_ofBidderNow 30 rfl) cl_X14 fl_X14_141 (lm_modC (σ := σ) (fl1 hf5)) (by decide) rfl ?_
  refine sw_ifnonnull (tgt := 118) O (xx_dt dd_X14_ofBidderNow 31 rfl) (by decide) ?_
  refine sw_aload_n O (xx_dt dd_X14_ofBidderNow 34 rfl) rfl ?_
  refine sw_get (v := .ref 7000) O (xx_dt dd_X14_ofBidderNow 35 rfl) cl_X14 fl_X14_141 (lm_modC (σ := σ) (fl1 hf5)) (by decide) rfl ?_
  refine sw_get (v := .ref (7000 + 4)) O (xx_dt dd_X14_ofBidderNow 36 rfl) cl_X11 fl_X14_162 (lm_clk (σ := σ) (b := 7000) (.inl rfl) (fl1 hf) (g := g) hg (by omega) (w := w) hw (by omega)) (by decide) rfl ?_
  refine sw_iload_n O (xx_dt dd_X14_ofBidderNow 37 rfl) rfl ?_
  refine sw_iaload (v := .int (σ (7000 + 4) i)) O (xx_dt dd_X14_ofBidderNow 38 rfl) ((im_kwv (z := z) (σ := σ) (b := 7000) (.inl rfl) hf).get _) (pk_in i _ (by omega)) (by rw [nI_clamp (by omega)]; try exact rfl) ?_
  exact sw_iret O (xx_dt dd_X14_ofBidderNow 39 rfl) rfl rfl (by rw [hQ]; exact ⟨by unfold f_MofB4_c; rfl, rfl⟩)
def f_MofB4_n (σ : XS9) (i R B : Nat) (pk : Nat → Nat) : Int32 := 2
theorem ct_MofB4_n {l : Launch} {h : XH} (hl : l.stackTraces = false) {z : Int64} {σ : XS9} (hbs : xx_bs h) {R : Nat} (hR : σ 5001 900 = nI R) (hR5 : R ≤ 5) {B : Nat} (hB : σ 5002 900 = nI B) (hB6 : B ≤ 6) {pk : Nat → Nat} (hpk : ∀ j, j < B → σ (5030 + j) 900 = nI (2 * pk j) ∧ pk j ≤ 6) {i : Nat} (hi : i < B) (hf5 : σ 7000 25 = nI 0)  : XEx l m_X14_ofBidderNow 5 0 0 [.ref 5000, .int (nI i), .int 4] (setM z σ h) (some (.int (f_MofB4_n σ i R B pk))) (setM z σ h) := by
  refine XMet.of hl rfl rfl (Nat.le_of_ble_eq_true rfl) (fun Y O hh hQ => ?_)
  show SW Y 0 0 (setM z σ h) 0 [.ref 5000, .int (nI i), .int 4, xx_d] []
  refine sw_aload_n O (xx_dt dd_X14_ofBidderNow 0 rfl) rfl ?_
  refine sw_get (v := .ref 5002) O (xx_dt dd_X14_ofBidderNow 1 rfl) cl_X14 fl_X14_27 (lm_modN (σ := σ) hf5) (by decide) rfl ?_
  refine sw_iload_n O (xx_dt dd_X14_ofBidderNow 2 rfl) rfl ?_
  refine sw_callVL (ci := 6) (as := [.int (nI i)]) (st := []) (st2 := [.ref (5020 + i)]) O (ct_get hl hbs (lm_5002 (σ := σ) (B := B) hB (by omega)) (by omega) (i := i) (x := 5020 + i) (by omega) (by omega) rfl) ce_Jx4a65c_get_915e3 ml_X14_61 iv_Jx4a65c_get_915e3 cl_Jx4a65c rfl (lm_5002 (σ := σ) (B := B) hB (by omega)) (xx_dt dd_X14_ofBidderNow 3 rfl) (by decide) rfl rfl (Nat.le_of_ble_eq_true rfl) rfl ?_
  refine sw_castO O (xx_dt dd_X14_ofBidderNow 4 rfl) cl_X9 (lm_bid (σ := σ) (B := B) hB (by omega) (j := i) (by omega)) cw_X14_118 ?_
  refine sw_astore_n (ls2 := [.ref 5000, .int (nI i), .int 4, .ref (5020 + i)]) O (xx_dt dd_X14_ofBidderNow 5 rfl) (by decide) rfl ?_
  refine sw_iload_n O (xx_dt dd_X14_ofBidderNow 6 rfl) rfl ?_
  refine sw_tableIn (off := 94) (tgt := 107) O (xx_dt dd_X14_ofBidderNow 7 rfl) (by decide) (by decide) rfl (by decide) ?_
  refine sw_aload_n O (xx_dt dd_X14_ofBidderNow 29 rfl) rfl ?_
  refine sw_get (v := .null) O (xx_dt dd_X14_ofBidderNow 30 rfl) cl_X14 fl_X14_141 (lm_modN (σ := σ) hf5) (by decide) rfl ?_
  refine sw_ifnonnullN O (xx_dt dd_X14_ofBidderNow 31 rfl) ?_
  refine sw_iconst (x := 2) O (xx_dt dd_X14_ofBidderNow 32 rfl) (by decide) ?_
  refine sw_goto (tgt := 127) O (xx_dt dd_X14_ofBidderNow 33 rfl) (by decide) ?_
  exact sw_iret O (xx_dt dd_X14_ofBidderNow 39 rfl) rfl rfl (by rw [hQ]; exact ⟨by unfold f_MofB4_n; rfl, rfl⟩)
def f_MofB4 (σ : XS9) (i R B : Nat) (pk : Nat → Nat) (g : Nat) : Int32 := if σ 7000 25 = 0 then f_MofB4_n σ i R B pk else f_MofB4_c σ i R B pk g
theorem ct_MofB4 {l : Launch} {h : XH} (hl : l.stackTraces = false) {z : Int64} {σ : XS9} (hbs : xx_bs h) {R : Nat} (hR : σ 5001 900 = nI R) (hR5 : R ≤ 5) {B : Nat} (hB : σ 5002 900 = nI B) (hB6 : B ≤ 6) {pk : Nat → Nat} (hpk : ∀ j, j < B → σ (5030 + j) 900 = nI (2 * pk j) ∧ pk j ≤ 6) {i : Nat} (hi : i < B) (hfl : σ 7000 25 = nI 0 ∨ (σ 7000 25 = nI 1 ∧ σ 7000 20 = nI 1)) {g : Nat} (hg : σ 7000 23 = nI g) (hg1 : g < 200) {w : Nat} (hw : σ 7000 24 = nI w) (hw1 : w < 200) : XEx l m_X14_ofBidderNow 5 0 0 [.ref 5000, .int (nI i), .int 4] (setM z σ h) (some (.int (f_MofB4 σ i R B pk g))) (setM z σ h) := by
  unfold f_MofB4
  rcases hfl with hf5 | ⟨hf5, hf⟩
  · rw [if_pos (by rw [hf5]; rfl)]
    exact ct_MofB4_n hl hbs hR hR5 hB hB6 hpk hi hf5
  · rw [if_neg (fl1 hf5)]
    exact ct_MofB4_c hl hbs hR hR5 hB hB6 hpk hi hf hf5 hg hg1 hw hw1
def f_MofB5 (σ : XS9) (i R B : Nat) (pk : Nat → Nat) (g : Nat) : Int32 := f_MheldCode σ i g
theorem ct_MofB5 {l : Launch} {h : XH} (hl : l.stackTraces = false) {z : Int64} {σ : XS9} (hbs : xx_bs h) {R : Nat} (hR : σ 5001 900 = nI R) (hR5 : R ≤ 5) {B : Nat} (hB : σ 5002 900 = nI B) (hB6 : B ≤ 6) {pk : Nat → Nat} (hpk : ∀ j, j < B → σ (5030 + j) 900 = nI (2 * pk j) ∧ pk j ≤ 6) {i : Nat} (hi : i < B) (hfl : σ 7000 25 = nI 0 ∨ (σ 7000 25 = nI 1 ∧ σ 7000 20 = nI 1)) {g : Nat} (hg : σ 7000 23 = nI g) (hg1 : g < 200) {w : Nat} (hw : σ 7000 24 = nI w) (hw1 : w < 200)  : XEx l m_X14_ofBidderNow 5 0 0 [.ref 5000, .int (nI i), .int 5] (setM z σ h) (some (.int (f_MofB5 σ i R B pk g))) (setM z σ h) := by
  refine XMet.of hl rfl rfl (Nat.le_of_ble_eq_true rfl) (fun Y O hh hQ => ?_)
  show SW Y 0 0 (setM z σ h) 0 [.ref 5000, .int (nI i), .int 5, xx_d] []
  refine sw_aload_n O (xx_dt dd_X14_ofBidderNow 0 rfl) rfl ?_
  refine sw_get (v := .ref 5002) O (xx_dt dd_X14_ofBidderNow 1 rfl) cl_X14 fl_X14_27 (lm_mod (σ := σ)) (by decide) rfl ?_
  refine sw_iload_n O (xx_dt dd_X14_ofBidderNow 2 rfl) rfl ?_
  refine sw_callVL (ci := 6) (as := [.int (nI i)]) (st := []) (st2 := [.ref (5020 + i)]) O (ct_get hl hbs (lm_5002 (σ := σ) (B := B) hB (by omega)) (by omega) (i := i) (x := 5020 + i) (by omega) (by omega) rfl) ce_Jx4a65c_get_915e3 ml_X14_61 iv_Jx4a65c_get_915e3 cl_Jx4a65c rfl (lm_5002 (σ := σ) (B := B) hB (by omega)) (xx_dt dd_X14_ofBidderNow 3 rfl) (by decide) rfl rfl (Nat.le_of_ble_eq_true rfl) rfl ?_
  refine sw_castO O (xx_dt dd_X14_ofBidderNow 4 rfl) cl_X9 (lm_bid (σ := σ) (B := B) hB (by omega) (j := i) (by omega)) cw_X14_118 ?_
  refine sw_astore_n (ls2 := [.ref 5000, .int (nI i), .int 5, .ref (5020 + i)]) O (xx_dt dd_X14_ofBidderNow 5 rfl) (by decide) rfl ?_
  refine sw_iload_n O (xx_dt dd_X14_ofBidderNow 6 rfl) rfl ?_
  refine sw_tableIn (off := 115) (tgt := 128) O (xx_dt dd_X14_ofBidderNow 7 rfl) (by decide) (by decide) rfl (by decide) ?_
  refine sw_aload_n O (xx_dt dd_X14_ofBidderNow 40 rfl) rfl ?_
  refine sw_iload_n O (xx_dt dd_X14_ofBidderNow 41 rfl) rfl ?_
  refine sw_callVx (as := [.int (nI i)]) (st := []) (st2 := [.int (f_MheldCode σ i g)]) O (ct_MheldCode hl (z := z) (σ := σ) hbs (i := i) (by omega) hfl (g := g) hg (by omega) (w := w) hw (by omega)) ce_X14_heldCode ml_X14_302 iv_X14_heldCode cl_X14 rfl (lm_mod (σ := σ)) (xx_dt dd_X14_ofBidderNow 42 rfl) (by decide) rfl rfl (Nat.le_of_ble_eq_true rfl) rfl ?_
  exact sw_iret O (xx_dt dd_X14_ofBidderNow 43 rfl) rfl rfl (by rw [hQ]; exact ⟨by unfold f_MofB5; rfl, rfl⟩)
def f_MofB6 (σ : XS9) (i R B : Nat) (pk : Nat → Nat) (g : Nat) : Int32 := f_MwishedCode σ i g
theorem ct_MofB6 {l : Launch} {h : XH} (hl : l.stackTraces = false) {z : Int64} {σ : XS9} (hbs : xx_bs h) {R : Nat} (hR : σ 5001 900 = nI R) (hR5 : R ≤ 5) {B : Nat} (hB : σ 5002 900 = nI B) (hB6 : B ≤ 6) {pk : Nat → Nat} (hpk : ∀ j, j < B → σ (5030 + j) 900 = nI (2 * pk j) ∧ pk j ≤ 6) {i : Nat} (hi : i < B) (hfl : σ 7000 25 = nI 0 ∨ (σ 7000 25 = nI 1 ∧ σ 7000 20 = nI 1)) {g : Nat} (hg : σ 7000 23 = nI g) (hg1 : g < 200) {w : Nat} (hw : σ 7000 24 = nI w) (hw1 : w < 200)  : XEx l m_X14_ofBidderNow 5 0 0 [.ref 5000, .int (nI i), .int 6] (setM z σ h) (some (.int (f_MofB6 σ i R B pk g))) (setM z σ h) := by
  refine XMet.of hl rfl rfl (Nat.le_of_ble_eq_true rfl) (fun Y O hh hQ => ?_)
  show SW Y 0 0 (setM z σ h) 0 [.ref 5000, .int (nI i), .int 6, xx_d] []
  refine sw_aload_n O (xx_dt dd_X14_ofBidderNow 0 rfl) rfl ?_
  refine sw_get (v := .ref 5002) O (xx_dt dd_X14_ofBidderNow 1 rfl) cl_X14 fl_X14_27 (lm_mod (σ := σ)) (by decide) rfl ?_
  refine sw_iload_n O (xx_dt dd_X14_ofBidderNow 2 rfl) rfl ?_
  refine sw_callVL (ci := 6) (as := [.int (nI i)]) (st := []) (st2 := [.ref (5020 + i)]) O (ct_get hl hbs (lm_5002 (σ := σ) (B := B) hB (by omega)) (by omega) (i := i) (x := 5020 + i) (by omega) (by omega) rfl) ce_Jx4a65c_get_915e3 ml_X14_61 iv_Jx4a65c_get_915e3 cl_Jx4a65c rfl (lm_5002 (σ := σ) (B := B) hB (by omega)) (xx_dt dd_X14_ofBidderNow 3 rfl) (by decide) rfl rfl (Nat.le_of_ble_eq_true rfl) rfl ?_
  refine sw_castO O (xx_dt dd_X14_ofBidderNow 4 rfl) cl_X9 (lm_bid (σ := σ) (B := B) hB (by omega) (j := i) (by omega)) cw_X14_118 ?_
  refine sw_astore_n (ls2 := [.ref 5000, .int (nI i), .int 6, .ref (5020 + i)]) O (xx_dt dd_X14_ofBidderNow 5 rfl) (by decide) rfl ?_
  refine sw_iload_n O (xx_dt dd_X14_ofBidderNow 6 rfl) rfl ?_
  refine sw_tableIn (off := 121) (tgt := 134) O (xx_dt dd_X14_ofBidderNow 7 rfl) (by decide) (by decide) rfl (by decide) ?_
  refine sw_aload_n O (xx_dt dd_X14_ofBidderNow 44 rfl) rfl ?_
  refine sw_iload_n O (xx_dt dd_X14_ofBidderNow 45 rfl) rfl ?_
  refine sw_callVx (as := [.int (nI i)]) (st := []) (st2 := [.int (f_MwishedCode σ i g)]) O (ct_MwishedCode hl (z := z) (σ := σ) hbs (i := i) (by omega) hfl (g := g) hg (by omega) (w := w) hw (by omega)) ce_X14_wishedCode ml_X14_305 iv_X14_wishedCode cl_X14 rfl (lm_mod (σ := σ)) (xx_dt dd_X14_ofBidderNow 46 rfl) (by decide) rfl rfl (Nat.le_of_ble_eq_true rfl) rfl ?_
  exact sw_iret O (xx_dt dd_X14_ofBidderNow 47 rfl) rfl rfl (by rw [hQ]; exact ⟨by unfold f_MofB6; rfl, rfl⟩)
def f_MofB7 (σ : XS9) (i R B : Nat) (pk : Nat → Nat) (g : Nat) : Int32 := f_Mpoints σ (f_MwishedCode σ i g) R
theorem ct_MofB7 {l : Launch} {h : XH} (hl : l.stackTraces = false) {z : Int64} {σ : XS9} (hbs : xx_bs h) {R : Nat} (hR : σ 5001 900 = nI R) (hR5 : R ≤ 5) {B : Nat} (hB : σ 5002 900 = nI B) (hB6 : B ≤ 6) {pk : Nat → Nat} (hpk : ∀ j, j < B → σ (5030 + j) 900 = nI (2 * pk j) ∧ pk j ≤ 6) {i : Nat} (hi : i < B) (hfl : σ 7000 25 = nI 0 ∨ (σ 7000 25 = nI 1 ∧ σ 7000 20 = nI 1)) {g : Nat} (hg : σ 7000 23 = nI g) (hg1 : g < 200) {w : Nat} (hw : σ 7000 24 = nI w) (hw1 : w < 200)  : XEx l m_X14_ofBidderNow 5 0 0 [.ref 5000, .int (nI i), .int 7] (setM z σ h) (some (.int (f_MofB7 σ i R B pk g))) (setM z σ h) := by
  refine XMet.of hl rfl rfl (Nat.le_of_ble_eq_true rfl) (fun Y O hh hQ => ?_)
  show SW Y 0 0 (setM z σ h) 0 [.ref 5000, .int (nI i), .int 7, xx_d] []
  refine sw_aload_n O (xx_dt dd_X14_ofBidderNow 0 rfl) rfl ?_
  refine sw_get (v := .ref 5002) O (xx_dt dd_X14_ofBidderNow 1 rfl) cl_X14 fl_X14_27 (lm_mod (σ := σ)) (by decide) rfl ?_
  refine sw_iload_n O (xx_dt dd_X14_ofBidderNow 2 rfl) rfl ?_
  refine sw_callVL (ci := 6) (as := [.int (nI i)]) (st := []) (st2 := [.ref (5020 + i)]) O (ct_get hl hbs (lm_5002 (σ := σ) (B := B) hB (by omega)) (by omega) (i := i) (x := 5020 + i) (by omega) (by omega) rfl) ce_Jx4a65c_get_915e3 ml_X14_61 iv_Jx4a65c_get_915e3 cl_Jx4a65c rfl (lm_5002 (σ := σ) (B := B) hB (by omega)) (xx_dt dd_X14_ofBidderNow 3 rfl) (by decide) rfl rfl (Nat.le_of_ble_eq_true rfl) rfl ?_
  refine sw_castO O (xx_dt dd_X14_ofBidderNow 4 rfl) cl_X9 (lm_bid (σ := σ) (B := B) hB (by omega) (j := i) (by omega)) cw_X14_118 ?_
  refine sw_astore_n (ls2 := [.ref 5000, .int (nI i), .int 7, .ref (5020 + i)]) O (xx_dt dd_X14_ofBidderNow 5 rfl) (by decide) rfl ?_
  refine sw_iload_n O (xx_dt dd_X14_ofBidderNow 6 rfl) rfl ?_
  refine sw_tableIn (off := 127) (tgt := 140) O (xx_dt dd_X14_ofBidderNow 7 rfl) (by decide) (by decide) rfl (by decide) ?_
  refine sw_aload_n O (xx_dt dd_X14_ofBidderNow 48 rfl) rfl ?_
  refine sw_aload_n O (xx_dt dd_X14_ofBidderNow 49 rfl) rfl ?_
  refine sw_iload_n O (xx_dt dd_X14_ofBidderNow 50 rfl) rfl ?_
  refine sw_callVx (as := [.int (nI i)]) (st := [.ref 5000]) (st2 := [.int (f_MwishedCode σ i g), .ref 5000]) O (ct_MwishedCode hl (z := z) (σ := σ) hbs (i := i) (by omega) hfl (g := g) hg (by omega) (w := w) hw (by omega)) ce_X14_wishedCode ml_X14_305 iv_X14_wishedCode cl_X14 rfl (lm_mod (σ := σ)) (xx_dt dd_X14_ofBidderNow 51 rfl) (by decide) rfl rfl (Nat.le_of_ble_eq_true rfl) rfl ?_
  refine sw_callVx (as := [.int (f_MwishedCode σ i g)]) (st := []) (st2 := [.int (f_Mpoints σ (f_MwishedCode σ i g) R)]) O (ct_X14_points hl (z := z) (σ := σ) hbs (R := R) hR (by omega) (c := f_MwishedCode σ i g)) ce_X14_points ml_X14_152 iv_X14_points cl_X14 rfl (lm_mod (σ := σ)) (xx_dt dd_X14_ofBidderNow 52 rfl) (by decide) rfl rfl (Nat.le_of_ble_eq_true rfl) rfl ?_
  exact sw_iret O (xx_dt dd_X14_ofBidderNow 53 rfl) rfl rfl (by rw [hQ]; exact ⟨by unfold f_MofB7; rfl, rfl⟩)
def f_MofB8 (σ : XS9) (i R B : Nat) (pk : Nat → Nat) (g : Nat) : Int32 := nI (pk i)
theorem ct_MofB8 {l : Launch} {h : XH} (hl : l.stackTraces = false) {z : Int64} {σ : XS9} (hbs : xx_bs h) {R : Nat} (hR : σ 5001 900 = nI R) (hR5 : R ≤ 5) {B : Nat} (hB : σ 5002 900 = nI B) (hB6 : B ≤ 6) {pk : Nat → Nat} (hpk : ∀ j, j < B → σ (5030 + j) 900 = nI (2 * pk j) ∧ pk j ≤ 6) {i : Nat} (hi : i < B) {g : Nat}  : XEx l m_X14_ofBidderNow 5 0 0 [.ref 5000, .int (nI i), .int 8] (setM z σ h) (some (.int (f_MofB8 σ i R B pk g))) (setM z σ h) := by
  refine XMet.of hl rfl rfl (Nat.le_of_ble_eq_true rfl) (fun Y O hh hQ => ?_)
  show SW Y 0 0 (setM z σ h) 0 [.ref 5000, .int (nI i), .int 8, xx_d] []
  refine sw_aload_n O (xx_dt dd_X14_ofBidderNow 0 rfl) rfl ?_
  refine sw_get (v := .ref 5002) O (xx_dt dd_X14_ofBidderNow 1 rfl) cl_X14 fl_X14_27 (lm_mod (σ := σ)) (by decide) rfl ?_
  refine sw_iload_n O (xx_dt dd_X14_ofBidderNow 2 rfl) rfl ?_
  refine sw_callVL (ci := 6) (as := [.int (nI i)]) (st := []) (st2 := [.ref (5020 + i)]) O (ct_get hl hbs (lm_5002 (σ := σ) (B := B) hB (by omega)) (by omega) (i := i) (x := 5020 + i) (by omega) (by omega) rfl) ce_Jx4a65c_get_915e3 ml_X14_61 iv_Jx4a65c_get_915e3 cl_Jx4a65c rfl (lm_5002 (σ := σ) (B := B) hB (by omega)) (xx_dt dd_X14_ofBidderNow 3 rfl) (by decide) rfl rfl (Nat.le_of_ble_eq_true rfl) rfl ?_
  refine sw_castO O (xx_dt dd_X14_ofBidderNow 4 rfl) cl_X9 (lm_bid (σ := σ) (B := B) hB (by omega) (j := i) (by omega)) cw_X14_118 ?_
  refine sw_astore_n (ls2 := [.ref 5000, .int (nI i), .int 8, .ref (5020 + i)]) O (xx_dt dd_X14_ofBidderNow 5 rfl) (by decide) rfl ?_
  refine sw_iload_n O (xx_dt dd_X14_ofBidderNow 6 rfl) rfl ?_
  refine sw_tableIn (off := 137) (tgt := 150) O (xx_dt dd_X14_ofBidderNow 7 rfl) (by decide) (by decide) rfl (by decide) ?_
  refine sw_aload_n O (xx_dt dd_X14_ofBidderNow 54 rfl) rfl ?_
  have hq151 := (hpk i (by omega)).2
  refine sw_callVx (as := []) (st := []) (st2 := [.int (nI (pk i))]) O ((show XEx _ _ _ _ _ _ _ (some (.int (nI (pk i)))) _ from ct_X9_many hl (z := z) (σ := σ) hbs (B := B) hB (by omega) (j := i) (by omega) (p := pk i) (hpk i (by omega)).1 (by have h9 := (hpk i (by omega)).2; omega))) ce_X9_many ml_X14_210 iv_X9_many cl_X9 rfl (lm_bid (σ := σ) (B := B) hB (by omega) (j := i) (by omega)) (xx_dt dd_X14_ofBidderNow 55 rfl) (by decide) rfl rfl (Nat.le_of_ble_eq_true rfl) rfl ?_
  exact sw_iret O (xx_dt dd_X14_ofBidderNow 56 rfl) rfl rfl (by rw [hQ]; exact ⟨by unfold f_MofB8; rfl, rfl⟩)
def f_MofB9 (σ : XS9) (i R B : Nat) (pk : Nat → Nat) (g : Nat) : Int32 := (if (σ (5020 + i) 4) = 0 then 0 else 1)
theorem ct_MofB9 {l : Launch} {h : XH} (hl : l.stackTraces = false) {z : Int64} {σ : XS9} (hbs : xx_bs h) {R : Nat} (hR : σ 5001 900 = nI R) (hR5 : R ≤ 5) {B : Nat} (hB : σ 5002 900 = nI B) (hB6 : B ≤ 6) {pk : Nat → Nat} (hpk : ∀ j, j < B → σ (5030 + j) 900 = nI (2 * pk j) ∧ pk j ≤ 6) {i : Nat} (hi : i < B) {g : Nat}  : XEx l m_X14_ofBidderNow 5 0 0 [.ref 5000, .int (nI i), .int 9] (setM z σ h) (some (.int (f_MofB9 σ i R B pk g))) (setM z σ h) := by
  refine XMet.of hl rfl rfl (Nat.le_of_ble_eq_true rfl) (fun Y O hh hQ => ?_)
  show SW Y 0 0 (setM z σ h) 0 [.ref 5000, .int (nI i), .int 9, xx_d] []
  refine sw_aload_n O (xx_dt dd_X14_ofBidderNow 0 rfl) rfl ?_
  refine sw_get (v := .ref 5002) O (xx_dt dd_X14_ofBidderNow 1 rfl) cl_X14 fl_X14_27 (lm_mod (σ := σ)) (by decide) rfl ?_
  refine sw_iload_n O (xx_dt dd_X14_ofBidderNow 2 rfl) rfl ?_
  refine sw_callVL (ci := 6) (as := [.int (nI i)]) (st := []) (st2 := [.ref (5020 + i)]) O (ct_get hl hbs (lm_5002 (σ := σ) (B := B) hB (by omega)) (by omega) (i := i) (x := 5020 + i) (by omega) (by omega) rfl) ce_Jx4a65c_get_915e3 ml_X14_61 iv_Jx4a65c_get_915e3 cl_Jx4a65c rfl (lm_5002 (σ := σ) (B := B) hB (by omega)) (xx_dt dd_X14_ofBidderNow 3 rfl) (by decide) rfl rfl (Nat.le_of_ble_eq_true rfl) rfl ?_
  refine sw_castO O (xx_dt dd_X14_ofBidderNow 4 rfl) cl_X9 (lm_bid (σ := σ) (B := B) hB (by omega) (j := i) (by omega)) cw_X14_118 ?_
  refine sw_astore_n (ls2 := [.ref 5000, .int (nI i), .int 9, .ref (5020 + i)]) O (xx_dt dd_X14_ofBidderNow 5 rfl) (by decide) rfl ?_
  refine sw_iload_n O (xx_dt dd_X14_ofBidderNow 6 rfl) rfl ?_
  refine sw_tableIn (off := 142) (tgt := 155) O (xx_dt dd_X14_ofBidderNow 7 rfl) (by decide) (by decide) rfl (by decide) ?_
  refine sw_aload_n O (xx_dt dd_X14_ofBidderNow 57 rfl) rfl ?_
  refine sw_get (v := .int (σ (5020 + i) 4)) O (xx_dt dd_X14_ofBidderNow 58 rfl) cl_X9 fl_X14_258 (lm_bid (σ := σ) (B := B) hB (by omega) (j := i) (by omega)) (by decide) rfl ?_
  refine sw_if_eq (tgt := 166) O (xx_dt dd_X14_ofBidderNow 59 rfl) (by decide) (fun q1 => ?_) (fun q1 => ?_)
  · refine sw_iconst (x := 0) O (xx_dt dd_X14_ofBidderNow 62 rfl) (by decide) ?_
    exact sw_iret O (xx_dt dd_X14_ofBidderNow 63 rfl) rfl rfl (by rw [hQ]; exact ⟨by unfold f_MofB9; simp only [if_pos q1], rfl⟩)
  · refine sw_iconst (x := 1) O (xx_dt dd_X14_ofBidderNow 60 rfl) (by decide) ?_
    refine sw_goto (tgt := 167) O (xx_dt dd_X14_ofBidderNow 61 rfl) (by decide) ?_
    exact sw_iret O (xx_dt dd_X14_ofBidderNow 63 rfl) rfl rfl (by rw [hQ]; exact ⟨by unfold f_MofB9; simp only [if_neg q1], rfl⟩)
def f_MofB10_c (σ : XS9) (i R B : Nat) (pk : Nat → Nat) (g : Nat) : Int32 := σ (7000 + 5) i
theorem ct_MofB10_c {l : Launch} {h : XH} (hl : l.stackTraces = false) {z : Int64} {σ : XS9} (hbs : xx_bs h) {R : Nat} (hR : σ 5001 900 = nI R) (hR5 : R ≤ 5) {B : Nat} (hB : σ 5002 900 = nI B) (hB6 : B ≤ 6) {pk : Nat → Nat} (hpk : ∀ j, j < B → σ (5030 + j) 900 = nI (2 * pk j) ∧ pk j ≤ 6) {i : Nat} (hi : i < B) (hf : σ 7000 20 = nI 1) (hf5 : σ 7000 25 = nI 1) {g : Nat} (hg : σ 7000 23 = nI g) (hg1 : g < 200) {w : Nat} (hw : σ 7000 24 = nI w) (hw1 : w < 200)  : XEx l m_X14_ofBidderNow 5 0 0 [.ref 5000, .int (nI i), .int 10] (setM z σ h) (some (.int (f_MofB10_c σ i R B pk g))) (setM z σ h) := by
  refine XMet.of hl rfl rfl (Nat.le_of_ble_eq_true rfl) (fun Y O hh hQ => ?_)
  show SW Y 0 0 (setM z σ h) 0 [.ref 5000, .int (nI i), .int 10, xx_d] []
  refine sw_aload_n O (xx_dt dd_X14_ofBidderNow 0 rfl) rfl ?_
  refine sw_get (v := .ref 5002) O (xx_dt dd_X14_ofBidderNow 1 rfl) cl_X14 fl_X14_27 (lm_modC (σ := σ) (fl1 hf5)) (by decide) rfl ?_
  refine sw_iload_n O (xx_dt dd_X14_ofBidderNow 2 rfl) rfl ?_
  refine sw_callVL (ci := 6) (as := [.int (nI i)]) (st := []) (st2 := [.ref (5020 + i)]) O (ct_get hl hbs (lm_5002 (σ := σ) (B := B) hB (by omega)) (by omega) (i := i) (x := 5020 + i) (by omega) (by omega) rfl) ce_Jx4a65c_get_915e3 ml_X14_61 iv_Jx4a65c_get_915e3 cl_Jx4a65c rfl (lm_5002 (σ := σ) (B := B) hB (by omega)) (xx_dt dd_X14_ofBidderNow 3 rfl) (by decide) rfl rfl (Nat.le_of_ble_eq_true rfl) rfl ?_
  refine sw_castO O (xx_dt dd_X14_ofBidderNow 4 rfl) cl_X9 (lm_bid (σ := σ) (B := B) hB (by omega) (j := i) (by omega)) cw_X14_118 ?_
  refine sw_astore_n (ls2 := [.ref 5000, .int (nI i), .int 10, .ref (5020 + i)]) O (xx_dt dd_X14_ofBidderNow 5 rfl) (by decide) rfl ?_
  refine sw_iload_n O (xx_dt dd_X14_ofBidderNow 6 rfl) rfl ?_
  refine sw_tableOut (tgt := 168) O (xx_dt dd_X14_ofBidderNow 7 rfl) (by decide) (by decide) ?_
  refine sw_aload_n O (xx_dt dd_X14_ofBidderNow 64 rfl) rfl ?_
  refine sw_get (v := .ref 7000) O (xx_dt dd_X14_ofBidderNow 65 rfl) cl_X14 fl_X14_141 (lm_modC (σ := σ) (fl1 hf5)) (by decide) rfl ?_
  refine sw_ifnonnull (tgt := 179) O (xx_dt dd_X14_ofBidderNow 66 rfl) (by decide) ?_
  refine sw_aload_n O (xx_dt dd_X14_ofBidderNow 69 rfl) rfl ?_
  refine sw_get (v := .ref 7000) O (xx_dt dd_X14_ofBidderNow 70 rfl) cl_X14 fl_X14_141 (lm_modC (σ := σ) (fl1 hf5)) (by decide) rfl ?_
  refine sw_get (v := .ref (7000 + 5)) O (xx_dt dd_X14_ofBidderNow 71 rfl) cl_X11 fl_X14_308 (lm_clk (σ := σ) (b := 7000) (.inl rfl) (fl1 hf) (g := g) hg (by omega) (w := w) hw (by omega)) (by decide) rfl ?_
  refine sw_iload_n O (xx_dt dd_X14_ofBidderNow 72 rfl) rfl ?_
  refine sw_iaload (v := .int (σ (7000 + 5) i)) O (xx_dt dd_X14_ofBidderNow 73 rfl) ((im_kco (z := z) (σ := σ) (b := 7000) (.inl rfl) hf).get _) (pk_in i _ (by omega)) (by rw [nI_clamp (by omega)]; try exact rfl) ?_
  exact sw_iret O (xx_dt dd_X14_ofBidderNow 74 rfl) rfl rfl (by rw [hQ]; exact ⟨by unfold f_MofB10_c; rfl, rfl⟩)
def f_MofB10_n (σ : XS9) (i R B : Nat) (pk : Nat → Nat) : Int32 := 0
theorem ct_MofB10_n {l : Launch} {h : XH} (hl : l.stackTraces = false) {z : Int64} {σ : XS9} (hbs : xx_bs h) {R : Nat} (hR : σ 5001 900 = nI R) (hR5 : R ≤ 5) {B : Nat} (hB : σ 5002 900 = nI B) (hB6 : B ≤ 6) {pk : Nat → Nat} (hpk : ∀ j, j < B → σ (5030 + j) 900 = nI (2 * pk j) ∧ pk j ≤ 6) {i : Nat} (hi : i < B) (hf5 : σ 7000 25 = nI 0)  : XEx l m_X14_ofBidderNow 5 0 0 [.ref 5000, .int (nI i), .int 10] (setM z σ h) (some (.int (f_MofB10_n σ i R B pk))) (setM z σ h) := by
  refine XMet.of hl rfl rfl (Nat.le_of_ble_eq_true rfl) (fun Y O hh hQ => ?_)
  show SW Y 0 0 (setM z σ h) 0 [.ref 5000, .int (nI i), .int 10, xx_d] []
  refine sw_aload_n O (xx_dt dd_X14_ofBidderNow 0 rfl) rfl ?_
  refine sw_get (v := .ref 5002) O (xx_dt dd_X14_ofBidderNow 1 rfl) cl_X14 fl_X14_27 (lm_modN (σ := σ) hf5) (by decide) rfl ?_
  refine sw_iload_n O (xx_dt dd_X14_ofBidderNow 2 rfl) rfl ?_
  refine sw_callVL (ci := 6) (as := [.int (nI i)]) (st := []) (st2 := [.ref (5020 + i)]) O (ct_get hl hbs (lm_5002 (σ := σ) (B := B) hB (by omega)) (by omega) (i := i) (x := 5020 + i) (by omega) (by omega) rfl) ce_Jx4a65c_get_915e3 ml_X14_61 iv_Jx4a65c_get_915e3 cl_Jx4a65c rfl (lm_5002 (σ := σ) (B := B) hB (by omega)) (xx_dt dd_X14_ofBidderNow 3 rfl) (by decide) rfl rfl (Nat.le_of_ble_eq_true rfl) rfl ?_
  refine sw_castO O (xx_dt dd_X14_ofBidderNow 4 rfl) cl_X9 (lm_bid (σ := σ) (B := B) hB (by omega) (j := i) (by omega)) cw_X14_118 ?_
  refine sw_astore_n (ls2 := [.ref 5000, .int (nI i), .int 10, .ref (5020 + i)]) O (xx_dt dd_X14_ofBidderNow 5 rfl) (by decide) rfl ?_
  refine sw_iload_n O (xx_dt dd_X14_ofBidderNow 6 rfl) rfl ?_
  refine sw_tableOut (tgt := 168) O (xx_dt dd_X14_ofBidderNow 7 rfl) (by decide) (by decide) ?_
  refine sw_aload_n O (xx_dt dd_X14_ofBidderNow 64 rfl) rfl ?_
  refine sw_get (v := .null) O (xx_dt dd_X14_ofBidderNow 65 rfl) cl_X14 fl_X14_141 (lm_modN (σ := σ) hf5) (by decide) rfl ?_
  refine sw_ifnonnullN O (xx_dt dd_X14_ofBidderNow 66 rfl) ?_
  refine sw_iconst (x := 0) O (xx_dt dd_X14_ofBidderNow 67 rfl) (by decide) ?_
  refine sw_goto (tgt := 188) O (xx_dt dd_X14_ofBidderNow 68 rfl) (by decide) ?_
  exact sw_iret O (xx_dt dd_X14_ofBidderNow 74 rfl) rfl rfl (by rw [hQ]; exact ⟨by unfold f_MofB10_n; rfl, rfl⟩)
def f_MofB10 (σ : XS9) (i R B : Nat) (pk : Nat → Nat) (g : Nat) : Int32 := if σ 7000 25 = 0 then f_MofB10_n σ i R B pk else f_MofB10_c σ i R B pk g
theorem ct_MofB10 {l : Launch} {h : XH} (hl : l.stackTraces = false) {z : Int64} {σ : XS9} (hbs : xx_bs h) {R : Nat} (hR : σ 5001 900 = nI R) (hR5 : R ≤ 5) {B : Nat} (hB : σ 5002 900 = nI B) (hB6 : B ≤ 6) {pk : Nat → Nat} (hpk : ∀ j, j < B → σ (5030 + j) 900 = nI (2 * pk j) ∧ pk j ≤ 6) {i : Nat} (hi : i < B) (hfl : σ 7000 25 = nI 0 ∨ (σ 7000 25 = nI 1 ∧ σ 7000 20 = nI 1)) {g : Nat} (hg : σ 7000 23 = nI g) (hg1 : g < 200) {w : Nat} (hw : σ 7000 24 = nI w) (hw1 : w < 200) : XEx l m_X14_ofBidderNow 5 0 0 [.ref 5000, .int (nI i), .int 10] (setM z σ h) (some (.int (f_MofB10 σ i R B pk g))) (setM z σ h) := by
  unfold f_MofB10
  rcases hfl with hf5 | ⟨hf5, hf⟩
  · rw [if_pos (by rw [hf5]; rfl)]
    exact ct_MofB10_n hl hbs hR hR5 hB hB6 hpk hi hf5
  · rw [if_neg (fl1 hf5)]
    exact ct_MofB10_c hl hbs hR hR5 hB hB6 hpk hi hf hf5 hg hg1 hw hw1
def f_MofBidderNow (σ : XS9) (i R B : Nat) (pk : Nat → Nat) (g : Nat) (v : Nat) : Int32 := match v with | 0 => f_MofB0 σ i R B pk g | 1 => f_MofB1 σ i R B pk g | 2 => f_MofB2 σ i R B pk g | 3 => f_MofB3 σ i R B pk g | 4 => f_MofB4 σ i R B pk g | 5 => f_MofB5 σ i R B pk g | 6 => f_MofB6 σ i R B pk g | 7 => f_MofB7 σ i R B pk g | 8 => f_MofB8 σ i R B pk g | 9 => f_MofB9 σ i R B pk g | _ => f_MofB10 σ i R B pk g
theorem ct_X14_ofBidderNow {l : Launch} {h : XH} (hl : l.stackTraces = false) {z : Int64} {σ : XS9} (hbs : xx_bs h) {R : Nat} (hR : σ 5001 900 = nI R) (hR5 : R ≤ 5) {B : Nat} (hB : σ 5002 900 = nI B) (hB6 : B ≤ 6) {pk : Nat → Nat} (hpk : ∀ j, j < B → σ (5030 + j) 900 = nI (2 * pk j) ∧ pk j ≤ 6) {i : Nat} (hi : i < B) (hfl : σ 7000 25 = nI 0 ∨ (σ 7000 25 = nI 1 ∧ σ 7000 20 = nI 1)) {g : Nat} (hg : σ 7000 23 = nI g) (hg1 : g < 200) {w : Nat} (hw : σ 7000 24 = nI w) (hw1 : w < 200) {v : Nat} (hv : v < 11) : XEx l m_X14_ofBidderNow 5 0 0 [.ref 5000, .int (nI i), .int (nI v)] (setM z σ h) (some (.int (f_MofBidderNow σ i R B pk g v))) (setM z σ h) := by
  match v, hv with
  | 0, _ => exact ct_MofB0 (g := g) hl hbs hR hR5 hB hB6 hpk hi
  | 1, _ => exact ct_MofB1 (g := g) hl hbs hR hR5 hB hB6 hpk hi hfl hg hg1 hw hw1
  | 2, _ => exact ct_MofB2 (g := g) hl hbs hR hR5 hB hB6 hpk hi
  | 3, _ => exact ct_MofB3 (g := g) hl hbs hR hR5 hB hB6 hpk hi
  | 4, _ => exact ct_MofB4 (g := g) hl hbs hR hR5 hB hB6 hpk hi hfl hg hg1 hw hw1
  | 5, _ => exact ct_MofB5 (g := g) hl hbs hR hR5 hB hB6 hpk hi hfl hg hg1 hw hw1
  | 6, _ => exact ct_MofB6 (g := g) hl hbs hR hR5 hB hB6 hpk hi hfl hg hg1 hw hw1
  | 7, _ => exact ct_MofB7 (g := g) hl hbs hR hR5 hB hB6 hpk hi hfl hg hg1 hw hw1
  | 8, _ => exact ct_MofB8 (g := g) hl hbs hR hR5 hB hB6 hpk hi
  | 9, _ => exact ct_MofB9 (g := g) hl hbs hR hR5 hB hB6 hpk hi
  | 10, _ => exact ct_MofB10 (g := g) hl hbs hR hR5 hB hB6 hpk hi hfl hg hg1 hw hw1
  | k + 11, h9 => exact absurd h9 (by omega)
def f_MofRegion (σ : XS9) (x y : Int32) (R B C g : Nat) : Int32 := (if n_lt x R then (if n_bt y 0 8 then f_MofRegionNow (u2 σ 5000 0 0) (cn x) R B C g (cn y) else 0) else 0)
def g_MofRegion (σ : XS9) (x y : Int32) (R B C g : Nat) : XS9 := (if n_lt x R then (if n_bt y 0 8 then u2 σ 5000 0 0 else u2 (u2 σ 5000 0 0) 5000 0 2) else u2 (u2 σ 5000 0 0) 5000 0 1)
theorem ct_X14_ofRegion {l : Launch} {h : XH} (hl : l.stackTraces = false) {z : Int64} {σ : XS9} (hbs : xx_bs h) {R : Nat} (hR : σ 5001 900 = nI R) (hR5 : R ≤ 5) {B : Nat} (hB : σ 5002 900 = nI B) (hB6 : B ≤ 6) {C : Nat} (hS : σ 5004 900 = nI (2 * C)) (hC10 : C ≤ 10) (hfl : σ 7000 25 = nI 0 ∨ (σ 7000 25 = nI 1 ∧ σ 7000 20 = nI 1)) {g : Nat} (hg : σ 7000 23 = nI g) (hg1 : g < 200) {w : Nat} (hw : σ 7000 24 = nI w) (hw1 : w < 200) {x y : Int32}  : XEx l m_X14_ofRegion 5 0 0 [.ref 5000, .int x, .int y] (setM z σ h) (some (.int (f_MofRegion σ x y R B C g))) (setM z (g_MofRegion σ x y R B C g) h) := by
  refine XMet.of hl rfl rfl (Nat.le_of_ble_eq_true rfl) (fun Y O hh hQ => ?_)
  show SW Y 0 0 (setM z σ h) 0 [.ref 5000, .int x, .int y] []
  refine sw_aload_n O (xx_dt dd_X14_ofRegion 0 rfl) rfl ?_
  refine sw_iconst (x := 0) O (xx_dt dd_X14_ofRegion 1 rfl) (by decide) ?_
  refine sw_put (h2 := setM z (u2 σ 5000 0 0) h) O (xx_dt dd_X14_ofRegion 2 rfl) cl_X14 fl_X14_46 (lm_mod (σ := σ)) (by decide) (by omega) rfl (fun _ => ⟨rfl, rfl⟩) (pm_mod (σ := σ) (by omega)) ?_
  refine sw_aload_n O (xx_dt dd_X14_ofRegion 3 rfl) rfl ?_
  refine sw_iload_n O (xx_dt dd_X14_ofRegion 4 rfl) rfl ?_
  refine sw_callVx (as := [.int x]) (st := []) (st2 := [.int (bZ (n_lt x R))]) O (ct_X14_isRegion hl (z := z) (σ := u2 σ 5000 0 0) hbs (R := R) hR (by omega) (x := x)) ce_X14_isRegion ml_X14_91 iv_X14_isRegion cl_X14 rfl (lm_mod (σ := u2 σ 5000 0 0)) (xx_dt dd_X14_ofRegion 5 rfl) (by decide) rfl rfl (Nat.le_of_ble_eq_true rfl) rfl ?_
  refine sw_if_neB (tgt := 19) O (xx_dt dd_X14_ofRegion 6 rfl) (by decide) (fun q1 => ?_) (fun q1 => ?_)
  · have hc10 := q1
    refine sw_lsE (ls2 := [.ref 5000, .int (nI (cn x)), .int y]) (by rw [← hc10.1]) ?_
    have hd10 := hc10.2
    refine sw_iload_n O (xx_dt dd_X14_ofRegion 11 rfl) rfl ?_
    refine sw_iconst (x := 0) O (xx_dt dd_X14_ofRegion 12 rfl) (by decide) ?_
    refine sw_bipush (x := 8) O (xx_dt dd_X14_ofRegion 13 rfl) (by decide) ?_
    refine sw_callSx (as := [.int y, .int 0, .int 8]) (st := []) (st2 := [.int (bZ (n_bt y 0 8))]) O (ct_X14_is hl) ce_X14_is ml_X14_70 st_X14_is (xx_dt dd_X14_ofRegion 14 rfl) (by decide) rfl rfl (Nat.le_of_ble_eq_true rfl) rfl ?_
    refine sw_if_eqB (tgt := 38) O (xx_dt dd_X14_ofRegion 15 rfl) (by decide) (fun q2 => ?_) (fun q2 => ?_)
    · refine sw_aload_n O (xx_dt dd_X14_ofRegion 21 rfl) rfl ?_
      refine sw_iconst (x := 2) O (xx_dt dd_X14_ofRegion 22 rfl) (by decide) ?_
      refine sw_callVx (as := [.int 2]) (st := []) (st2 := [.int 0]) O (ct_X14_refuse hl (z := z) (σ := u2 σ 5000 0 0) hbs (x := 2)) ce_X14_refuse ml_X14_74 iv_X14_refuse cl_X14 rfl (lm_mod (σ := u2 σ 5000 0 0)) (xx_dt dd_X14_ofRegion 23 rfl) (by decide) rfl rfl (Nat.le_of_ble_eq_true rfl) rfl ?_
      exact sw_iret O (xx_dt dd_X14_ofRegion 24 rfl) rfl rfl (by rw [hQ]; exact ⟨by unfold f_MofRegion; simp only [if_pos q1, if_neg q2], by unfold g_MofRegion; simp only [if_pos q1, if_neg q2]⟩)
    · have hc26 := (bt_nat 8 q2 (by decide) rfl (by decide))
      refine sw_lsE (ls2 := [.ref 5000, .int (nI (cn x)), .int (nI (cn y))]) (by rw [← hc26.1]) ?_
      have hd26 := hc26.2
      refine sw_aload_n O (xx_dt dd_X14_ofRegion 16 rfl) rfl ?_
      refine sw_iload_n O (xx_dt dd_X14_ofRegion 17 rfl) rfl ?_
      refine sw_iload_n O (xx_dt dd_X14_ofRegion 18 rfl) rfl ?_
      refine sw_callVx (as := [.int (nI (cn x)), .int (nI (cn y))]) (st := []) (st2 := [.int (f_MofRegionNow (u2 σ 5000 0 0) (cn x) R B C g (cn y))]) O (ct_X14_ofRegionNow hl (z := z) (σ := u2 σ 5000 0 0) hbs (R := R) hR (by omega) (B := B) hB (by omega) (C := C) hS (by omega) (r := cn x) (by omega) hfl (g := g) hg (by omega) (w := w) hw (by omega) (v := cn y) (by omega)) ce_X14_ofRegionNow ml_X14_299 iv_X14_ofRegionNow cl_X14 rfl (lm_mod (σ := u2 σ 5000 0 0)) (xx_dt dd_X14_ofRegion 19 rfl) (by decide) rfl rfl (Nat.le_of_ble_eq_true rfl) rfl ?_
      refine sw_goto (tgt := 43) O (xx_dt dd_X14_ofRegion 20 rfl) (by decide) ?_
      exact sw_iret O (xx_dt dd_X14_ofRegion 24 rfl) rfl rfl (by rw [hQ]; exact ⟨by unfold f_MofRegion; simp only [if_pos q1, if_pos q2], by unfold g_MofRegion; simp only [if_pos q1, if_pos q2]⟩)
  · refine sw_aload_n O (xx_dt dd_X14_ofRegion 7 rfl) rfl ?_
    refine sw_iconst (x := 1) O (xx_dt dd_X14_ofRegion 8 rfl) (by decide) ?_
    refine sw_callVx (as := [.int 1]) (st := []) (st2 := [.int 0]) O (ct_X14_refuse hl (z := z) (σ := u2 σ 5000 0 0) hbs (x := 1)) ce_X14_refuse ml_X14_74 iv_X14_refuse cl_X14 rfl (lm_mod (σ := u2 σ 5000 0 0)) (xx_dt dd_X14_ofRegion 9 rfl) (by decide) rfl rfl (Nat.le_of_ble_eq_true rfl) rfl ?_
    exact sw_iret O (xx_dt dd_X14_ofRegion 10 rfl) rfl rfl (by rw [hQ]; exact ⟨by unfold f_MofRegion; simp only [if_neg q1], by unfold g_MofRegion; simp only [if_neg q1]⟩)
def f_MofBidder (σ : XS9) (x y : Int32) (R B : Nat) (pk : Nat → Nat) (g : Nat) : Int32 := (if n_lt x B then (if n_bt y 0 10 then f_MofBidderNow (u2 σ 5000 0 0) (cn x) R B pk g (cn y) else 0) else 0)
def g_MofBidder (σ : XS9) (x y : Int32) (R B : Nat) (pk : Nat → Nat) (g : Nat) : XS9 := (if n_lt x B then (if n_bt y 0 10 then u2 σ 5000 0 0 else u2 (u2 σ 5000 0 0) 5000 0 2) else u2 (u2 σ 5000 0 0) 5000 0 1)
theorem ct_X14_ofBidder {l : Launch} {h : XH} (hl : l.stackTraces = false) {z : Int64} {σ : XS9} (hbs : xx_bs h) {R : Nat} (hR : σ 5001 900 = nI R) (hR5 : R ≤ 5) {B : Nat} (hB : σ 5002 900 = nI B) (hB6 : B ≤ 6) {pk : Nat → Nat} (hpk : ∀ j, j < B → σ (5030 + j) 900 = nI (2 * pk j) ∧ pk j ≤ 6) (hfl : σ 7000 25 = nI 0 ∨ (σ 7000 25 = nI 1 ∧ σ 7000 20 = nI 1)) {g : Nat} (hg : σ 7000 23 = nI g) (hg1 : g < 200) {w : Nat} (hw : σ 7000 24 = nI w) (hw1 : w < 200) {x y : Int32}  : XEx l m_X14_ofBidder 6 0 0 [.ref 5000, .int x, .int y] (setM z σ h) (some (.int (f_MofBidder σ x y R B pk g))) (setM z (g_MofBidder σ x y R B pk g) h) := by
  refine XMet.of hl rfl rfl (Nat.le_of_ble_eq_true rfl) (fun Y O hh hQ => ?_)
  show SW Y 0 0 (setM z σ h) 0 [.ref 5000, .int x, .int y] []
  refine sw_aload_n O (xx_dt dd_X14_ofBidder 0 rfl) rfl ?_
  refine sw_iconst (x := 0) O (xx_dt dd_X14_ofBidder 1 rfl) (by decide) ?_
  refine sw_put (h2 := setM z (u2 σ 5000 0 0) h) O (xx_dt dd_X14_ofBidder 2 rfl) cl_X14 fl_X14_46 (lm_mod (σ := σ)) (by decide) (by omega) rfl (fun _ => ⟨rfl, rfl⟩) (pm_mod (σ := σ) (by omega)) ?_
  refine sw_aload_n O (xx_dt dd_X14_ofBidder 3 rfl) rfl ?_
  refine sw_iload_n O (xx_dt dd_X14_ofBidder 4 rfl) rfl ?_
  refine sw_callVx (as := [.int x]) (st := []) (st2 := [.int (bZ (n_lt x B))]) O (ct_X14_isBidder hl (z := z) (σ := u2 σ 5000 0 0) hbs (B := B) hB (by omega) (x := x)) ce_X14_isBidder ml_X14_156 iv_X14_isBidder cl_X14 rfl (lm_mod (σ := u2 σ 5000 0 0)) (xx_dt dd_X14_ofBidder 5 rfl) (by decide) rfl rfl (Nat.le_of_ble_eq_true rfl) rfl ?_
  refine sw_if_neB (tgt := 19) O (xx_dt dd_X14_ofBidder 6 rfl) (by decide) (fun q1 => ?_) (fun q1 => ?_)
  · have hc10 := q1
    refine sw_lsE (ls2 := [.ref 5000, .int (nI (cn x)), .int y]) (by rw [← hc10.1]) ?_
    have hd10 := hc10.2
    refine sw_iload_n O (xx_dt dd_X14_ofBidder 11 rfl) rfl ?_
    refine sw_iconst (x := 0) O (xx_dt dd_X14_ofBidder 12 rfl) (by decide) ?_
    refine sw_bipush (x := 10) O (xx_dt dd_X14_ofBidder 13 rfl) (by decide) ?_
    refine sw_callSx (as := [.int y, .int 0, .int 10]) (st := []) (st2 := [.int (bZ (n_bt y 0 10))]) O (ct_X14_is hl) ce_X14_is ml_X14_70 st_X14_is (xx_dt dd_X14_ofBidder 14 rfl) (by decide) rfl rfl (Nat.le_of_ble_eq_true rfl) rfl ?_
    refine sw_if_eqB (tgt := 38) O (xx_dt dd_X14_ofBidder 15 rfl) (by decide) (fun q2 => ?_) (fun q2 => ?_)
    · refine sw_aload_n O (xx_dt dd_X14_ofBidder 21 rfl) rfl ?_
      refine sw_iconst (x := 2) O (xx_dt dd_X14_ofBidder 22 rfl) (by decide) ?_
      refine sw_callVx (as := [.int 2]) (st := []) (st2 := [.int 0]) O (ct_X14_refuse hl (z := z) (σ := u2 σ 5000 0 0) hbs (x := 2)) ce_X14_refuse ml_X14_74 iv_X14_refuse cl_X14 rfl (lm_mod (σ := u2 σ 5000 0 0)) (xx_dt dd_X14_ofBidder 23 rfl) (by decide) rfl rfl (Nat.le_of_ble_eq_true rfl) rfl ?_
      exact sw_iret O (xx_dt dd_X14_ofBidder 24 rfl) rfl rfl (by rw [hQ]; exact ⟨by unfold f_MofBidder; simp only [if_pos q1, if_neg q2], by unfold g_MofBidder; simp only [if_pos q1, if_neg q2]⟩)
    · have hc26 := (bt_nat 10 q2 (by decide) rfl (by decide))
      refine sw_lsE (ls2 := [.ref 5000, .int (nI (cn x)), .int (nI (cn y))]) (by rw [← hc26.1]) ?_
      have hd26 := hc26.2
      refine sw_aload_n O (xx_dt dd_X14_ofBidder 16 rfl) rfl ?_
      refine sw_iload_n O (xx_dt dd_X14_ofBidder 17 rfl) rfl ?_
      refine sw_iload_n O (xx_dt dd_X14_ofBidder 18 rfl) rfl ?_
      refine sw_callVx (as := [.int (nI (cn x)), .int (nI (cn y))]) (st := []) (st2 := [.int (f_MofBidderNow (u2 σ 5000 0 0) (cn x) R B pk g (cn y))]) O (ct_X14_ofBidderNow hl (z := z) (σ := u2 σ 5000 0 0) hbs (R := R) hR (by omega) (B := B) hB (by omega) (pk := pk) (fun j9 hj9 => by rw [show (u2 σ 5000 0 0) (5030 + j9) 900 = σ (5030 + j9) 900 from (congrFun (u2_ne (by omega)) 900)]; exact hpk j9 hj9) (i := cn x) (by omega) hfl (g := g) hg (by omega) (w := w) hw (by omega) (v := cn y) (by omega)) ce_X14_ofBidderNow ml_X14_311 iv_X14_ofBidderNow cl_X14 rfl (lm_mod (σ := u2 σ 5000 0 0)) (xx_dt dd_X14_ofBidder 19 rfl) (by decide) rfl rfl (Nat.le_of_ble_eq_true rfl) rfl ?_
      refine sw_goto (tgt := 43) O (xx_dt dd_X14_ofBidder 20 rfl) (by decide) ?_
      exact sw_iret O (xx_dt dd_X14_ofBidder 24 rfl) rfl rfl (by rw [hQ]; exact ⟨by unfold f_MofBidder; simp only [if_pos q1, if_pos q2], by unfold g_MofBidder; simp only [if_pos q1, if_pos q2]⟩)
  · refine sw_aload_n O (xx_dt dd_X14_ofBidder 7 rfl) rfl ?_
    refine sw_iconst (x := 1) O (xx_dt dd_X14_ofBidder 8 rfl) (by decide) ?_
    refine sw_callVx (as := [.int 1]) (st := []) (st2 := [.int 0]) O (ct_X14_refuse hl (z := z) (σ := u2 σ 5000 0 0) hbs (x := 1)) ce_X14_refuse ml_X14_74 iv_X14_refuse cl_X14 rfl (lm_mod (σ := u2 σ 5000 0 0)) (xx_dt dd_X14_ofBidder 9 rfl) (by decide) rfl rfl (Nat.le_of_ble_eq_true rfl) rfl ?_
    exact sw_iret O (xx_dt dd_X14_ofBidder 10 rfl) rfl rfl (by rw [hQ]; exact ⟨by unfold f_MofBidder; simp only [if_neg q1], by unfold g_MofBidder; simp only [if_neg q1]⟩)
def f_Mwants (σ : XS9) (x y v : Int32) (R B g : Nat) : Int32 := (if n_lt x B then (if n_lt y R then (if v = 0 then f_of (f_MwishedCode (u2 σ 5000 0 0) (cn x) g) (cn y) else f_of (f_MheldCode (u2 σ 5000 0 0) (cn x) g) (cn y)) else 0) else 0)
def g_Mwants (σ : XS9) (x y v : Int32) (R B g : Nat) : XS9 := (if n_lt x B then (if n_lt y R then u2 σ 5000 0 0 else u2 (u2 σ 5000 0 0) 5000 0 1) else u2 (u2 σ 5000 0 0) 5000 0 1)
theorem ct_X14_wants {l : Launch} {h : XH} (hl : l.stackTraces = false) {z : Int64} {σ : XS9} (hbs : xx_bs h) {R : Nat} (hR : σ 5001 900 = nI R) (hR5 : R ≤ 5) {B : Nat} (hB : σ 5002 900 = nI B) (hB6 : B ≤ 6) (hfl : σ 7000 25 = nI 0 ∨ (σ 7000 25 = nI 1 ∧ σ 7000 20 = nI 1)) {g : Nat} (hg : σ 7000 23 = nI g) (hg1 : g < 200) {w : Nat} (hw : σ 7000 24 = nI w) (hw1 : w < 200) {x y v : Int32}  : XEx l m_X14_wants 2 0 0 [.ref 5000, .int x, .int y, .int v] (setM z σ h) (some (.int (f_Mwants σ x y v R B g))) (setM z (g_Mwants σ x y v R B g) h) := by
  refine XMet.of hl rfl rfl (Nat.le_of_ble_eq_true rfl) (fun Y O hh hQ => ?_)
  show SW Y 0 0 (setM z σ h) 0 [.ref 5000, .int x, .int y, .int v] []
  refine sw_aload_n O (xx_dt dd_X14_wants 0 rfl) rfl ?_
  refine sw_iconst (x := 0) O (xx_dt dd_X14_wants 1 rfl) (by decide) ?_
  refine sw_put (h2 := setM z (u2 σ 5000 0 0) h) O (xx_dt dd_X14_wants 2 rfl) cl_X14 fl_X14_46 (lm_mod (σ := σ)) (by decide) (by omega) rfl (fun _ => ⟨rfl, rfl⟩) (pm_mod (σ := σ) (by omega)) ?_
  refine sw_aload_n O (xx_dt dd_X14_wants 3 rfl) rfl ?_
  refine sw_iload_n O (xx_dt dd_X14_wants 4 rfl) rfl ?_
  refine sw_callVx (as := [.int x]) (st := []) (st2 := [.int (bZ (n_lt x B))]) O (ct_X14_isBidder hl (z := z) (σ := u2 σ 5000 0 0) hbs (B := B) hB (by omega) (x := x)) ce_X14_isBidder ml_X14_156 iv_X14_isBidder cl_X14 rfl (lm_mod (σ := u2 σ 5000 0 0)) (xx_dt dd_X14_wants 5 rfl) (by decide) rfl rfl (Nat.le_of_ble_eq_true rfl) rfl ?_
  refine sw_if_eqB (tgt := 21) O (xx_dt dd_X14_wants 6 rfl) (by decide) (fun q1 => ?_) (fun q1 => ?_)
  · refine sw_aload_n O (xx_dt dd_X14_wants 11 rfl) rfl ?_
    refine sw_iconst (x := 1) O (xx_dt dd_X14_wants 12 rfl) (by decide) ?_
    refine sw_callVx (as := [.int 1]) (st := []) (st2 := [.int 0]) O (ct_X14_refuse hl (z := z) (σ := u2 σ 5000 0 0) hbs (x := 1)) ce_X14_refuse ml_X14_74 iv_X14_refuse cl_X14 rfl (lm_mod (σ := u2 σ 5000 0 0)) (xx_dt dd_X14_wants 13 rfl) (by decide) rfl rfl (Nat.le_of_ble_eq_true rfl) rfl ?_
    exact sw_iret O (xx_dt dd_X14_wants 14 rfl) rfl rfl (by rw [hQ]; exact ⟨by unfold f_Mwants; simp only [if_neg q1], by unfold g_Mwants; simp only [if_neg q1]⟩)
  · have hc10 := q1
    refine sw_lsE (ls2 := [.ref 5000, .int (nI (cn x)), .int y, .int v]) (by rw [← hc10.1]) ?_
    have hd10 := hc10.2
    refine sw_aload_n O (xx_dt dd_X14_wants 7 rfl) rfl ?_
    refine sw_iload_n O (xx_dt dd_X14_wants 8 rfl) rfl ?_
    refine sw_callVx (as := [.int y]) (st := []) (st2 := [.int (bZ (n_lt y R))]) O (ct_X14_isRegion hl (z := z) (σ := u2 σ 5000 0 0) hbs (R := R) hR (by omega) (x := y)) ce_X14_isRegion ml_X14_91 iv_X14_isRegion cl_X14 rfl (lm_mod (σ := u2 σ 5000 0 0)) (xx_dt dd_X14_wants 9 rfl) (by decide) rfl rfl (Nat.le_of_ble_eq_true rfl) rfl ?_
    refine sw_if_neB (tgt := 27) O (xx_dt dd_X14_wants 10 rfl) (by decide) (fun q2 => ?_) (fun q2 => ?_)
    · have hc18 := q2
      refine sw_lsE (ls2 := [.ref 5000, .int (nI (cn x)), .int (nI (cn y)), .int v]) (by rw [← hc18.1]) ?_
      have hd18 := hc18.2
      refine sw_iload_n O (xx_dt dd_X14_wants 15 rfl) rfl ?_
      refine sw_if_eq (tgt := 39) O (xx_dt dd_X14_wants 16 rfl) (by decide) (fun q3 => ?_) (fun q3 => ?_)
      · refine sw_aload_n O (xx_dt dd_X14_wants 21 rfl) rfl ?_
        refine sw_iload_n O (xx_dt dd_X14_wants 22 rfl) rfl ?_
        refine sw_callVx (as := [.int (nI (cn x))]) (st := []) (st2 := [.int (f_MwishedCode (u2 σ 5000 0 0) (cn x) g)]) O (ct_MwishedCode hl (z := z) (σ := u2 σ 5000 0 0) hbs (i := cn x) (by omega) hfl (g := g) hg (by omega) (w := w) hw (by omega)) ce_X14_wishedCode ml_X14_305 iv_X14_wishedCode cl_X14 rfl (lm_mod (σ := u2 σ 5000 0 0)) (xx_dt dd_X14_wants 23 rfl) (by decide) rfl rfl (Nat.le_of_ble_eq_true rfl) rfl ?_
        refine sw_iload_n O (xx_dt dd_X14_wants 24 rfl) rfl ?_
        refine sw_callSx (as := [.int (f_MwishedCode (u2 σ 5000 0 0) (cn x) g), .int (nI (cn y))]) (st := []) (st2 := [.int (f_of (f_MwishedCode (u2 σ 5000 0 0) (cn x) g) (cn y))]) O (ct_X14_of hl (c := f_MwishedCode (u2 σ 5000 0 0) (cn x) g) (r := cn y) (by omega)) ce_X14_of ml_X14_53 st_X14_of (xx_dt dd_X14_wants 25 rfl) (by decide) rfl rfl (Nat.le_of_ble_eq_true rfl) rfl ?_
        exact sw_iret O (xx_dt dd_X14_wants 26 rfl) rfl rfl (by rw [hQ]; exact ⟨by unfold f_Mwants; simp only [if_pos q1, if_pos q2, if_pos q3], by unfold g_Mwants; simp only [if_pos q1, if_pos q2, if_pos q3]⟩)
      · refine sw_aload_n O (xx_dt dd_X14_wants 17 rfl) rfl ?_
        refine sw_iload_n O (xx_dt dd_X14_wants 18 rfl) rfl ?_
        refine sw_callVx (as := [.int (nI (cn x))]) (st := []) (st2 := [.int (f_MheldCode (u2 σ 5000 0 0) (cn x) g)]) O (ct_MheldCode hl (z := z) (σ := u2 σ 5000 0 0) hbs (i := cn x) (by omega) hfl (g := g) hg (by omega) (w := w) hw (by omega)) ce_X14_heldCode ml_X14_302 iv_X14_heldCode cl_X14 rfl (lm_mod (σ := u2 σ 5000 0 0)) (xx_dt dd_X14_wants 19 rfl) (by decide) rfl rfl (Nat.le_of_ble_eq_true rfl) rfl ?_
        refine sw_goto (tgt := 44) O (xx_dt dd_X14_wants 20 rfl) (by decide) ?_
        refine sw_iload_n O (xx_dt dd_X14_wants 24 rfl) rfl ?_
        refine sw_callSx (as := [.int (f_MheldCode (u2 σ 5000 0 0) (cn x) g), .int (nI (cn y))]) (st := []) (st2 := [.int (f_of (f_MheldCode (u2 σ 5000 0 0) (cn x) g) (cn y))]) O (ct_X14_of hl (c := f_MheldCode (u2 σ 5000 0 0) (cn x) g) (r := cn y) (by omega)) ce_X14_of ml_X14_53 st_X14_of (xx_dt dd_X14_wants 25 rfl) (by decide) rfl rfl (Nat.le_of_ble_eq_true rfl) rfl ?_
        exact sw_iret O (xx_dt dd_X14_wants 26 rfl) rfl rfl (by rw [hQ]; exact ⟨by unfold f_Mwants; simp only [if_pos q1, if_pos q2, if_neg q3], by unfold g_Mwants; simp only [if_pos q1, if_pos q2, if_neg q3]⟩)
    · refine sw_aload_n O (xx_dt dd_X14_wants 11 rfl) rfl ?_
      refine sw_iconst (x := 1) O (xx_dt dd_X14_wants 12 rfl) (by decide) ?_
      refine sw_callVx (as := [.int 1]) (st := []) (st2 := [.int 0]) O (ct_X14_refuse hl (z := z) (σ := u2 σ 5000 0 0) hbs (x := 1)) ce_X14_refuse ml_X14_74 iv_X14_refuse cl_X14 rfl (lm_mod (σ := u2 σ 5000 0 0)) (xx_dt dd_X14_wants 13 rfl) (by decide) rfl rfl (Nat.le_of_ble_eq_true rfl) rfl ?_
      exact sw_iret O (xx_dt dd_X14_wants 14 rfl) rfl rfl (by rw [hQ]; exact ⟨by unfold f_Mwants; simp only [if_pos q1, if_neg q2], by unfold g_Mwants; simp only [if_pos q1, if_neg q2]⟩)
def f_MpriceIn (σ : XS9) (x y : Int32) (R K : Nat) : Int32 := (if n_rd x K then (if n_lt y R then σ (6000 + rn x) (cn y) else 0) else 0)
def g_MpriceIn (σ : XS9) (x y : Int32) (R K : Nat) : XS9 := (if n_rd x K then (if n_lt y R then u2 σ 5000 0 0 else u2 (u2 σ 5000 0 0) 5000 0 1) else u2 (u2 σ 5000 0 0) 5000 0 1)
theorem ct_X14_priceIn {l : Launch} {h : XH} (hl : l.stackTraces = false) {z : Int64} {σ : XS9} (hbs : xx_bs h) {R : Nat} (hR : σ 5001 900 = nI R) (hR5 : R ≤ 5) {K : Nat} (hK : σ 5003 900 = nI K) (hK60 : K ≤ 60) {x y : Int32}  : XEx l m_X14_priceIn 3 0 0 [.ref 5000, .int x, .int y] (setM z σ h) (some (.int (f_MpriceIn σ x y R K))) (setM z (g_MpriceIn σ x y R K) h) := by
  refine XMet.of hl rfl rfl (Nat.le_of_ble_eq_true rfl) (fun Y O hh hQ => ?_)
  show SW Y 0 0 (setM z σ h) 0 [.ref 5000, .int x, .int y] []
  refine sw_aload_n O (xx_dt dd_X14_priceIn 0 rfl) rfl ?_
  refine sw_iconst (x := 0) O (xx_dt dd_X14_priceIn 1 rfl) (by decide) ?_
  refine sw_put (h2 := setM z (u2 σ 5000 0 0) h) O (xx_dt dd_X14_priceIn 2 rfl) cl_X14 fl_X14_46 (lm_mod (σ := σ)) (by decide) (by omega) rfl (fun _ => ⟨rfl, rfl⟩) (pm_mod (σ := σ) (by omega)) ?_
  refine sw_aload_n O (xx_dt dd_X14_priceIn 3 rfl) rfl ?_
  refine sw_iload_n O (xx_dt dd_X14_priceIn 4 rfl) rfl ?_
  refine sw_callVx (as := [.int x]) (st := []) (st2 := [.int (bZ (n_rd x K))]) O (ct_X14_isRound hl (z := z) (σ := u2 σ 5000 0 0) hbs (K := K) hK (by omega) (x := x)) ce_X14_isRound ml_X14_314 iv_X14_isRound cl_X14 rfl (lm_mod (σ := u2 σ 5000 0 0)) (xx_dt dd_X14_priceIn 5 rfl) (by decide) rfl rfl (Nat.le_of_ble_eq_true rfl) rfl ?_
  refine sw_if_eqB (tgt := 42) O (xx_dt dd_X14_priceIn 6 rfl) (by decide) (fun q1 => ?_) (fun q1 => ?_)
  · refine sw_aload_n O (xx_dt dd_X14_priceIn 22 rfl) rfl ?_
    refine sw_iconst (x := 1) O (xx_dt dd_X14_priceIn 23 rfl) (by decide) ?_
    refine sw_callVx (as := [.int 1]) (st := []) (st2 := [.int 0]) O (ct_X14_refuse hl (z := z) (σ := u2 σ 5000 0 0) hbs (x := 1)) ce_X14_refuse ml_X14_74 iv_X14_refuse cl_X14 rfl (lm_mod (σ := u2 σ 5000 0 0)) (xx_dt dd_X14_priceIn 24 rfl) (by decide) rfl rfl (Nat.le_of_ble_eq_true rfl) rfl ?_
    exact sw_iret O (xx_dt dd_X14_priceIn 25 rfl) rfl rfl (by rw [hQ]; exact ⟨by unfold f_MpriceIn; simp only [if_neg q1], by unfold g_MpriceIn; simp only [if_neg q1]⟩)
  · have hc10 := q1
    refine sw_lsE (ls2 := [.ref 5000, .int (nI (rn x + 1)), .int y]) (by rw [← hc10.1]) ?_
    have hd10 := hc10.2
    refine sw_aload_n O (xx_dt dd_X14_priceIn 7 rfl) rfl ?_
    refine sw_iload_n O (xx_dt dd_X14_priceIn 8 rfl) rfl ?_
    refine sw_callVx (as := [.int y]) (st := []) (st2 := [.int (bZ (n_lt y R))]) O (ct_X14_isRegion hl (z := z) (σ := u2 σ 5000 0 0) hbs (R := R) hR (by omega) (x := y)) ce_X14_isRegion ml_X14_91 iv_X14_isRegion cl_X14 rfl (lm_mod (σ := u2 σ 5000 0 0)) (xx_dt dd_X14_priceIn 9 rfl) (by decide) rfl rfl (Nat.le_of_ble_eq_true rfl) rfl ?_
    refine sw_if_eqB (tgt := 42) O (xx_dt dd_X14_priceIn 10 rfl) (by decide) (fun q2 => ?_) (fun q2 => ?_)
    · refine sw_aload_n O (xx_dt dd_X14_priceIn 22 rfl) rfl ?_
      refine sw_iconst (x := 1) O (xx_dt dd_X14_priceIn 23 rfl) (by decide) ?_
      refine sw_callVx (as := [.int 1]) (st := []) (st2 := [.int 0]) O (ct_X14_refuse hl (z := z) (σ := u2 σ 5000 0 0) hbs (x := 1)) ce_X14_refuse ml_X14_74 iv_X14_refuse cl_X14 rfl (lm_mod (σ := u2 σ 5000 0 0)) (xx_dt dd_X14_priceIn 24 rfl) (by decide) rfl rfl (Nat.le_of_ble_eq_true rfl) rfl ?_
      exact sw_iret O (xx_dt dd_X14_priceIn 25 rfl) rfl rfl (by rw [hQ]; exact ⟨by unfold f_MpriceIn; simp only [if_pos q1, if_neg q2], by unfold g_MpriceIn; simp only [if_pos q1, if_neg q2]⟩)
    · have hc18 := q2
      refine sw_lsE (ls2 := [.ref 5000, .int (nI (rn x + 1)), .int (nI (cn y))]) (by rw [← hc18.1]) ?_
      have hd18 := hc18.2
      refine sw_aload_n O (xx_dt dd_X14_priceIn 11 rfl) rfl ?_
      refine sw_get (v := .ref 5003) O (xx_dt dd_X14_priceIn 12 rfl) cl_X14 fl_X14_30 (lm_mod (σ := u2 σ 5000 0 0)) (by decide) rfl ?_
      refine sw_iload_n O (xx_dt dd_X14_priceIn 13 rfl) rfl ?_
      refine sw_iconst (x := 1) O (xx_dt dd_X14_priceIn 14 rfl) (by decide) ?_
      refine sw_isub O (xx_dt dd_X14_priceIn 15 rfl) ?_
      rw [nI_s1 (rn x)]
      refine sw_callVL (ci := 6) (as := [.int (nI (rn x))]) (st := []) (st2 := [.ref (5200 + rn x)]) O (ct_get hl hbs (lm_5003 (σ := u2 σ 5000 0 0) (K := K) hK (by omega)) (by omega) (i := rn x) (x := 5200 + rn x) (by omega) (by omega) rfl) ce_Jx4a65c_get_915e3 ml_X14_61 iv_Jx4a65c_get_915e3 cl_Jx4a65c rfl (lm_5003 (σ := u2 σ 5000 0 0) (K := K) hK (by omega)) (xx_dt dd_X14_priceIn 16 rfl) (by decide) rfl rfl (Nat.le_of_ble_eq_true rfl) rfl ?_
      refine sw_castO O (xx_dt dd_X14_priceIn 17 rfl) cl_X13 (lm_rnd (σ := u2 σ 5000 0 0) (K := K) hK (by omega) (j := rn x) (by omega)) cw_X14_172 ?_
      refine sw_get (v := .ref (6000 + rn x)) O (xx_dt dd_X14_priceIn 18 rfl) cl_X13 fl_X14_183 (lm_rnd (σ := u2 σ 5000 0 0) (K := K) hK (by omega) (j := rn x) (by omega)) (by decide) (congrArg Value.ref (show 5200 + rn x + 700 + 100 * 1 = 6000 + rn x by omega)) ?_
      refine sw_iload_n O (xx_dt dd_X14_priceIn 19 rfl) rfl ?_
      refine sw_iaload (v := .int (σ (6000 + rn x) (cn y))) O (xx_dt dd_X14_priceIn 20 rfl) ((im_rpr (z := z) (σ := u2 σ 5000 0 0) (R := R) hR (by omega) (K := K) hK (by omega) (j := rn x) (by omega)).get _) (pk_in (cn y) _ (by omega)) (by rw [nI_clamp (by omega)]; exact (congrArg Value.int (congrFun (u2_ne (by omega)) (cn y)))) ?_
      refine sw_goto (tgt := 47) O (xx_dt dd_X14_priceIn 21 rfl) (by decide) ?_
      exact sw_iret O (xx_dt dd_X14_priceIn 25 rfl) rfl rfl (by rw [hQ]; exact ⟨by unfold f_MpriceIn; simp only [if_pos q1, if_pos q2], by unfold g_MpriceIn; simp only [if_pos q1, if_pos q2]⟩)
def f_McodeIn (σ : XS9) (x y v : Int32) (B K : Nat) : Int32 := (if n_rd x K then (if n_lt y B then (if v = 0 then σ (6100 + rn x) (cn y) else σ (6200 + rn x) (cn y)) else 0) else 0)
def g_McodeIn (σ : XS9) (x y v : Int32) (B K : Nat) : XS9 := (if n_rd x K then (if n_lt y B then u2 σ 5000 0 0 else u2 (u2 σ 5000 0 0) 5000 0 1) else u2 (u2 σ 5000 0 0) 5000 0 1)
theorem ct_X14_codeIn {l : Launch} {h : XH} (hl : l.stackTraces = false) {z : Int64} {σ : XS9} (hbs : xx_bs h) {B : Nat} (hB : σ 5002 900 = nI B) (hB6 : B ≤ 6) {K : Nat} (hK : σ 5003 900 = nI K) (hK60 : K ≤ 60) {x y v : Int32}  : XEx l m_X14_codeIn 3 0 0 [.ref 5000, .int x, .int y, .int v] (setM z σ h) (some (.int (f_McodeIn σ x y v B K))) (setM z (g_McodeIn σ x y v B K) h) := by
  refine XMet.of hl rfl rfl (Nat.le_of_ble_eq_true rfl) (fun Y O hh hQ => ?_)
  show SW Y 0 0 (setM z σ h) 0 [.ref 5000, .int x, .int y, .int v] []
  refine sw_aload_n O (xx_dt dd_X14_codeIn 0 rfl) rfl ?_
  refine sw_iconst (x := 0) O (xx_dt dd_X14_codeIn 1 rfl) (by decide) ?_
  refine sw_put (h2 := setM z (u2 σ 5000 0 0) h) O (xx_dt dd_X14_codeIn 2 rfl) cl_X14 fl_X14_46 (lm_mod (σ := σ)) (by decide) (by omega) rfl (fun _ => ⟨rfl, rfl⟩) (pm_mod (σ := σ) (by omega)) ?_
  refine sw_aload_n O (xx_dt dd_X14_codeIn 3 rfl) rfl ?_
  refine sw_iload_n O (xx_dt dd_X14_codeIn 4 rfl) rfl ?_
  refine sw_callVx (as := [.int x]) (st := []) (st2 := [.int (bZ (n_rd x K))]) O (ct_X14_isRound hl (z := z) (σ := u2 σ 5000 0 0) hbs (K := K) hK (by omega) (x := x)) ce_X14_isRound ml_X14_314 iv_X14_isRound cl_X14 rfl (lm_mod (σ := u2 σ 5000 0 0)) (xx_dt dd_X14_codeIn 5 rfl) (by decide) rfl rfl (Nat.le_of_ble_eq_true rfl) rfl ?_
  refine sw_if_eqB (tgt := 21) O (xx_dt dd_X14_codeIn 6 rfl) (by decide) (fun q1 => ?_) (fun q1 => ?_)
  · refine sw_aload_n O (xx_dt dd_X14_codeIn 11 rfl) rfl ?_
    refine sw_iconst (x := 1) O (xx_dt dd_X14_codeIn 12 rfl) (by decide) ?_
    refine sw_callVx (as := [.int 1]) (st := []) (st2 := [.int 0]) O (ct_X14_refuse hl (z := z) (σ := u2 σ 5000 0 0) hbs (x := 1)) ce_X14_refuse ml_X14_74 iv_X14_refuse cl_X14 rfl (lm_mod (σ := u2 σ 5000 0 0)) (xx_dt dd_X14_codeIn 13 rfl) (by decide) rfl rfl (Nat.le_of_ble_eq_true rfl) rfl ?_
    exact sw_iret O (xx_dt dd_X14_codeIn 14 rfl) rfl rfl (by rw [hQ]; exact ⟨by unfold f_McodeIn; simp only [if_neg q1], by unfold g_McodeIn; simp only [if_neg q1]⟩)
  · have hc10 := q1
    refine sw_lsE (ls2 := [.ref 5000, .int (nI (rn x + 1)), .int y, .int v]) (by rw [← hc10.1]) ?_
    have hd10 := hc10.2
    refine sw_aload_n O (xx_dt dd_X14_codeIn 7 rfl) rfl ?_
    refine sw_iload_n O (xx_dt dd_X14_codeIn 8 rfl) rfl ?_
    refine sw_callVx (as := [.int y]) (st := []) (st2 := [.int (bZ (n_lt y B))]) O (ct_X14_isBidder hl (z := z) (σ := u2 σ 5000 0 0) hbs (B := B) hB (by omega) (x := y)) ce_X14_isBidder ml_X14_156 iv_X14_isBidder cl_X14 rfl (lm_mod (σ := u2 σ 5000 0 0)) (xx_dt dd_X14_codeIn 9 rfl) (by decide) rfl rfl (Nat.le_of_ble_eq_true rfl) rfl ?_
    refine sw_if_neB (tgt := 27) O (xx_dt dd_X14_codeIn 10 rfl) (by decide) (fun q2 => ?_) (fun q2 => ?_)
    · have hc18 := q2
      refine sw_lsE (ls2 := [.ref 5000, .int (nI (rn x + 1)), .int (nI (cn y)), .int v]) (by rw [← hc18.1]) ?_
      have hd18 := hc18.2
      refine sw_iload_n O (xx_dt dd_X14_codeIn 15 rfl) rfl ?_
      refine sw_if_eq (tgt := 52) O (xx_dt dd_X14_codeIn 16 rfl) (by decide) (fun q3 => ?_) (fun q3 => ?_)
      · refine sw_aload_n O (xx_dt dd_X14_codeIn 28 rfl) rfl ?_
        refine sw_get (v := .ref 5003) O (xx_dt dd_X14_codeIn 29 rfl) cl_X14 fl_X14_30 (lm_mod (σ := u2 σ 5000 0 0)) (by decide) rfl ?_
        refine sw_iload_n O (xx_dt dd_X14_codeIn 30 rfl) rfl ?_
        refine sw_iconst (x := 1) O (xx_dt dd_X14_codeIn 31 rfl) (by decide) ?_
        refine sw_isub O (xx_dt dd_X14_codeIn 32 rfl) ?_
        rw [nI_s1 (rn x)]
        refine sw_callVL (ci := 6) (as := [.int (nI (rn x))]) (st := []) (st2 := [.ref (5200 + rn x)]) O (ct_get hl hbs (lm_5003 (σ := u2 σ 5000 0 0) (K := K) hK (by omega)) (by omega) (i := rn x) (x := 5200 + rn x) (by omega) (by omega) rfl) ce_Jx4a65c_get_915e3 ml_X14_61 iv_Jx4a65c_get_915e3 cl_Jx4a65c rfl (lm_5003 (σ := u2 σ 5000 0 0) (K := K) hK (by omega)) (xx_dt dd_X14_codeIn 33 rfl) (by decide) rfl rfl (Nat.le_of_ble_eq_true rfl) rfl ?_
        refine sw_castO O (xx_dt dd_X14_codeIn 34 rfl) cl_X13 (lm_rnd (σ := u2 σ 5000 0 0) (K := K) hK (by omega) (j := rn x) (by omega)) cw_X14_172 ?_
        refine sw_get (v := .ref (6100 + rn x)) O (xx_dt dd_X14_codeIn 35 rfl) cl_X13 fl_X14_184 (lm_rnd (σ := u2 σ 5000 0 0) (K := K) hK (by omega) (j := rn x) (by omega)) (by decide) (congrArg Value.ref (show 5200 + rn x + 700 + 100 * 2 = 6100 + rn x by omega)) ?_
        refine sw_iload_n O (xx_dt dd_X14_codeIn 36 rfl) rfl ?_
        refine sw_iaload (v := .int (σ (6100 + rn x) (cn y))) O (xx_dt dd_X14_codeIn 37 rfl) ((im_rwi (z := z) (σ := u2 σ 5000 0 0) (K := K) hK (by omega) (j := rn x) (by omega)).get _) (pk_in (cn y) _ (by omega)) (by rw [nI_clamp (by omega)]; exact (congrArg Value.int (congrFun (u2_ne (by omega)) (cn y)))) ?_
        exact sw_iret O (xx_dt dd_X14_codeIn 38 rfl) rfl rfl (by rw [hQ]; exact ⟨by unfold f_McodeIn; simp only [if_pos q1, if_pos q2, if_pos q3], by unfold g_McodeIn; simp only [if_pos q1, if_pos q2, if_pos q3]⟩)
      · refine sw_aload_n O (xx_dt dd_X14_codeIn 17 rfl) rfl ?_
        refine sw_get (v := .ref 5003) O (xx_dt dd_X14_codeIn 18 rfl) cl_X14 fl_X14_30 (lm_mod (σ := u2 σ 5000 0 0)) (by decide) rfl ?_
        refine sw_iload_n O (xx_dt dd_X14_codeIn 19 rfl) rfl ?_
        refine sw_iconst (x := 1) O (xx_dt dd_X14_codeIn 20 rfl) (by decide) ?_
        refine sw_isub O (xx_dt dd_X14_codeIn 21 rfl) ?_
        rw [nI_s1 (rn x)]
        refine sw_callVL (ci := 6) (as := [.int (nI (rn x))]) (st := []) (st2 := [.ref (5200 + rn x)]) O (ct_get hl hbs (lm_5003 (σ := u2 σ 5000 0 0) (K := K) hK (by omega)) (by omega) (i := rn x) (x := 5200 + rn x) (by omega) (by omega) rfl) ce_Jx4a65c_get_915e3 ml_X14_61 iv_Jx4a65c_get_915e3 cl_Jx4a65c rfl (lm_5003 (σ := u2 σ 5000 0 0) (K := K) hK (by omega)) (xx_dt dd_X14_codeIn 22 rfl) (by decide) rfl rfl (Nat.le_of_ble_eq_true rfl) rfl ?_
        refine sw_castO O (xx_dt dd_X14_codeIn 23 rfl) cl_X13 (lm_rnd (σ := u2 σ 5000 0 0) (K := K) hK (by omega) (j := rn x) (by omega)) cw_X14_172 ?_
        refine sw_get (v := .ref (6200 + rn x)) O (xx_dt dd_X14_codeIn 24 rfl) cl_X13 fl_X14_195 (lm_rnd (σ := u2 σ 5000 0 0) (K := K) hK (by omega) (j := rn x) (by omega)) (by decide) (congrArg Value.ref (show 5200 + rn x + 700 + 100 * 3 = 6200 + rn x by omega)) ?_
        refine sw_iload_n O (xx_dt dd_X14_codeIn 25 rfl) rfl ?_
        refine sw_iaload (v := .int (σ (6200 + rn x) (cn y))) O (xx_dt dd_X14_codeIn 26 rfl) ((im_rhe (z := z) (σ := u2 σ 5000 0 0) (K := K) hK (by omega) (j := rn x) (by omega)).get _) (pk_in (cn y) _ (by omega)) (by rw [nI_clamp (by omega)]; exact (congrArg Value.int (congrFun (u2_ne (by omega)) (cn y)))) ?_
        refine sw_goto (tgt := 70) O (xx_dt dd_X14_codeIn 27 rfl) (by decide) ?_
        exact sw_iret O (xx_dt dd_X14_codeIn 38 rfl) rfl rfl (by rw [hQ]; exact ⟨by unfold f_McodeIn; simp only [if_pos q1, if_pos q2, if_neg q3], by unfold g_McodeIn; simp only [if_pos q1, if_pos q2, if_neg q3]⟩)
    · refine sw_aload_n O (xx_dt dd_X14_codeIn 11 rfl) rfl ?_
      refine sw_iconst (x := 1) O (xx_dt dd_X14_codeIn 12 rfl) (by decide) ?_
      refine sw_callVx (as := [.int 1]) (st := []) (st2 := [.int 0]) O (ct_X14_refuse hl (z := z) (σ := u2 σ 5000 0 0) hbs (x := 1)) ce_X14_refuse ml_X14_74 iv_X14_refuse cl_X14 rfl (lm_mod (σ := u2 σ 5000 0 0)) (xx_dt dd_X14_codeIn 13 rfl) (by decide) rfl rfl (Nat.le_of_ble_eq_true rfl) rfl ?_
      exact sw_iret O (xx_dt dd_X14_codeIn 14 rfl) rfl rfl (by rw [hQ]; exact ⟨by unfold f_McodeIn; simp only [if_pos q1, if_neg q2], by unfold g_McodeIn; simp only [if_pos q1, if_neg q2]⟩)
def f_MwinsNow (σ : XS9) (i : Nat) : Int32 := (if (σ 5000 1) = 3 then σ 5005 i else σ 9001 i)
theorem ct_X14_winsNow {l : Launch} {h : XH} (hl : l.stackTraces = false) {z : Int64} {σ : XS9} (hbs : xx_bs h) (hc : σ 9000 20 = nI 1) {i : Nat} (hi : i < 6) : XEx l m_X14_winsNow 0 0 0 [.ref 5000, .int (nI i), .ref 9000] (setM z σ h) (some (.int (f_MwinsNow σ i))) (setM z σ h) := by
  refine XMet.of hl rfl rfl (Nat.le_of_ble_eq_true rfl) (fun Y O hh hQ => ?_)
  show SW Y 0 0 (setM z σ h) 0 [.ref 5000, .int (nI i), .ref 9000] []
  refine sw_aload_n O (xx_dt dd_X14_winsNow 0 rfl) rfl ?_
  refine sw_get (v := .int (σ 5000 1)) O (xx_dt dd_X14_winsNow 1 rfl) cl_X14 fl_X14_77 (lm_mod (σ := σ)) (by decide) rfl ?_
  refine sw_iconst (x := 3) O (xx_dt dd_X14_winsNow 2 rfl) (by decide) ?_
  refine sw_icmp_ne (tgt := 17) O (xx_dt dd_X14_winsNow 3 rfl) (by decide) (fun q1 => ?_) (fun q1 => ?_)
  · refine sw_aload_n O (xx_dt dd_X14_winsNow 9 rfl) rfl ?_
    refine sw_get (v := .ref 9001) O (xx_dt dd_X14_winsNow 10 rfl) cl_X10 fl_X14_221 (lm_9000 (σ := σ) (fl1 hc)) (by decide) rfl ?_
    refine sw_iload_n O (xx_dt dd_X14_winsNow 11 rfl) rfl ?_
    refine sw_iaload (v := .int (σ 9001 i)) O (xx_dt dd_X14_winsNow 12 rfl) ((im_9001 (z := z) (σ := σ) hc).get _) (pk_in i _ (by omega)) (by rw [nI_clamp (by omega)]; try exact rfl) ?_
    exact sw_iret O (xx_dt dd_X14_winsNow 13 rfl) rfl rfl (by rw [hQ]; exact ⟨by unfold f_MwinsNow; simp only [if_neg q1], rfl⟩)
  · refine sw_aload_n O (xx_dt dd_X14_winsNow 4 rfl) rfl ?_
    refine sw_get (v := .ref 5005) O (xx_dt dd_X14_winsNow 5 rfl) cl_X14 fl_X14_36 (lm_mod (σ := σ)) (by decide) rfl ?_
    refine sw_iload_n O (xx_dt dd_X14_winsNow 6 rfl) rfl ?_
    refine sw_iaload (v := .int (σ 5005 i)) O (xx_dt dd_X14_winsNow 7 rfl) ((im_5005 (z := z) (σ := σ)).get _) (pk_in i _ (by omega)) (by rw [nI_clamp (by omega)]; try exact rfl) ?_
    refine sw_goto (tgt := 23) O (xx_dt dd_X14_winsNow 8 rfl) (by decide) ?_
    exact sw_iret O (xx_dt dd_X14_winsNow 13 rfl) rfl rfl (by rw [hQ]; exact ⟨by unfold f_MwinsNow; simp only [if_pos q1], rfl⟩)
def f_Mpaid (σ : XS9) (i : Nat) : Int32 := (if (σ 5000 1) = 3 then σ 5006 i else 0)
theorem ct_X14_paid {l : Launch} {h : XH} (hl : l.stackTraces = false) {z : Int64} {σ : XS9} (hbs : xx_bs h) {i : Nat} (hi : i < 6) : XEx l m_X14_paid 0 0 0 [.ref 5000, .int (nI i)] (setM z σ h) (some (.int (f_Mpaid σ i))) (setM z σ h) := by
  refine XMet.of hl rfl rfl (Nat.le_of_ble_eq_true rfl) (fun Y O hh hQ => ?_)
  show SW Y 0 0 (setM z σ h) 0 [.ref 5000, .int (nI i)] []
  refine sw_aload_n O (xx_dt dd_X14_paid 0 rfl) rfl ?_
  refine sw_get (v := .int (σ 5000 1)) O (xx_dt dd_X14_paid 1 rfl) cl_X14 fl_X14_77 (lm_mod (σ := σ)) (by decide) rfl ?_
  refine sw_iconst (x := 3) O (xx_dt dd_X14_paid 2 rfl) (by decide) ?_
  refine sw_icmp_ne (tgt := 17) O (xx_dt dd_X14_paid 3 rfl) (by decide) (fun q1 => ?_) (fun q1 => ?_)
  · refine sw_iconst (x := 0) O (xx_dt dd_X14_paid 9 rfl) (by decide) ?_
    exact sw_iret O (xx_dt dd_X14_paid 10 rfl) rfl rfl (by rw [hQ]; exact ⟨by unfold f_Mpaid; simp only [if_neg q1], rfl⟩)
  · refine sw_aload_n O (xx_dt dd_X14_paid 4 rfl) rfl ?_
    refine sw_get (v := .ref 5006) O (xx_dt dd_X14_paid 5 rfl) cl_X14 fl_X14_40 (lm_mod (σ := σ)) (by decide) rfl ?_
    refine sw_iload_n O (xx_dt dd_X14_paid 6 rfl) rfl ?_
    refine sw_iaload (v := .int (σ 5006 i)) O (xx_dt dd_X14_paid 7 rfl) ((im_5006 (z := z) (σ := σ)).get _) (pk_in i _ (by omega)) (by rw [nI_clamp (by omega)]; try exact rfl) ?_
    refine sw_goto (tgt := 18) O (xx_dt dd_X14_paid 8 rfl) (by decide) ?_
    exact sw_iret O (xx_dt dd_X14_paid 10 rfl) rfl rfl (by rw [hQ]; exact ⟨by unfold f_Mpaid; simp only [if_pos q1], rfl⟩)
def f_Mdue (σ : XS9) (i B : Nat) : Int32 := (if (σ 5000 1) = 3 then Int64.toInt32 (((Int32.toInt64 (σ 5006 i)) * (Int32.toInt64 (100 - (σ (5020 + i) 2)))) / 100) else 0)
theorem ct_X14_due {l : Launch} {h : XH} (hl : l.stackTraces = false) {z : Int64} {σ : XS9} (hbs : xx_bs h) {B : Nat} (hB : σ 5002 900 = nI B) (hB6 : B ≤ 6) {i : Nat} (hi : i < B) : XEx l m_X14_due 3 0 0 [.ref 5000, .int (nI i)] (setM z σ h) (some (.int (f_Mdue σ i B))) (setM z σ h) := by
  refine XMet.of hl rfl rfl (Nat.le_of_ble_eq_true rfl) (fun Y O hh hQ => ?_)
  show SW Y 0 0 (setM z σ h) 0 [.ref 5000, .int (nI i)] []
  refine sw_aload_n O (xx_dt dd_X14_due 0 rfl) rfl ?_
  refine sw_get (v := .int (σ 5000 1)) O (xx_dt dd_X14_due 1 rfl) cl_X14 fl_X14_77 (lm_mod (σ := σ)) (by decide) rfl ?_
  refine sw_iconst (x := 3) O (xx_dt dd_X14_due 2 rfl) (by decide) ?_
  refine sw_icmp_ne (tgt := 42) O (xx_dt dd_X14_due 3 rfl) (by decide) (fun q1 => ?_) (fun q1 => ?_)
  · refine sw_iconst (x := 0) O (xx_dt dd_X14_due 23 rfl) (by decide) ?_
    exact sw_iret O (xx_dt dd_X14_due 24 rfl) rfl rfl (by rw [hQ]; exact ⟨by unfold f_Mdue; simp only [if_neg q1], rfl⟩)
  · refine sw_aload_n O (xx_dt dd_X14_due 4 rfl) rfl ?_
    refine sw_get (v := .ref 5006) O (xx_dt dd_X14_due 5 rfl) cl_X14 fl_X14_40 (lm_mod (σ := σ)) (by decide) rfl ?_
    refine sw_iload_n O (xx_dt dd_X14_due 6 rfl) rfl ?_
    refine sw_iaload (v := .int (σ 5006 i)) O (xx_dt dd_X14_due 7 rfl) ((im_5006 (z := z) (σ := σ)).get _) (pk_in i _ (by omega)) (by rw [nI_clamp (by omega)]; try exact rfl) ?_
    refine sw_i2l O (xx_dt dd_X14_due 8 rfl) ?_
    refine sw_bipush (x := 100) O (xx_dt dd_X14_due 9 rfl) (by decide) ?_
    refine sw_aload_n O (xx_dt dd_X14_due 10 rfl) rfl ?_
    refine sw_get (v := .ref 5002) O (xx_dt dd_X14_due 11 rfl) cl_X14 fl_X14_27 (lm_mod (σ := σ)) (by decide) rfl ?_
    refine sw_iload_n O (xx_dt dd_X14_due 12 rfl) rfl ?_
    refine sw_callVL (ci := 6) (as := [.int (nI i)]) (st := [.int 100, .long (Int32.toInt64 (σ 5006 i))]) (st2 := [.ref (5020 + i), .int 100, .long (Int32.toInt64 (σ 5006 i))]) O (ct_get hl hbs (lm_5002 (σ := σ) (B := B) hB (by omega)) (by omega) (i := i) (x := 5020 + i) (by omega) (by omega) rfl) ce_Jx4a65c_get_915e3 ml_X14_61 iv_Jx4a65c_get_915e3 cl_Jx4a65c rfl (lm_5002 (σ := σ) (B := B) hB (by omega)) (xx_dt dd_X14_due 13 rfl) (by decide) rfl rfl (Nat.le_of_ble_eq_true rfl) rfl ?_
    refine sw_castO O (xx_dt dd_X14_due 14 rfl) cl_X9 (lm_bid (σ := σ) (B := B) hB (by omega) (j := i) (by omega)) cw_X14_118 ?_
    refine sw_get (v := .int (σ (5020 + i) 2)) O (xx_dt dd_X14_due 15 rfl) cl_X9 fl_X14_127 (lm_bid (σ := σ) (B := B) hB (by omega) (j := i) (by omega)) (by decide) rfl ?_
    refine sw_isub O (xx_dt dd_X14_due 16 rfl) ?_
    refine sw_i2l O (xx_dt dd_X14_due 17 rfl) ?_
    refine sw_lmul O (xx_dt dd_X14_due 18 rfl) ?_
    refine sw_ldc2 O ct_X14_321 (xx_dt dd_X14_due 19 rfl) ?_
    refine sw_ldiv O (xx_dt dd_X14_due 20 rfl) (by decide) ?_
    refine sw_l2i O (xx_dt dd_X14_due 21 rfl) ?_
    refine sw_goto (tgt := 43) O (xx_dt dd_X14_due 22 rfl) (by decide) ?_
    exact sw_iret O (xx_dt dd_X14_due 24 rfl) rfl rfl (by rw [hQ]; exact ⟨by unfold f_Mdue; simp only [if_pos q1], rfl⟩)
def f_Mpays (σ : XS9) (x y : Int32) (B : Nat) : Int32 := (if n_lt x B then (if y = 0 then f_Mpaid (u2 σ 5000 0 0) (cn x) else f_Mdue (u2 σ 5000 0 0) (cn x) B) else 0)
def g_Mpays (σ : XS9) (x y : Int32) (B : Nat) : XS9 := (if n_lt x B then u2 σ 5000 0 0 else u2 (u2 σ 5000 0 0) 5000 0 1)
theorem ct_X14_pays {l : Launch} {h : XH} (hl : l.stackTraces = false) {z : Int64} {σ : XS9} (hbs : xx_bs h) {B : Nat} (hB : σ 5002 900 = nI B) (hB6 : B ≤ 6) {x y : Int32}  : XEx l m_X14_pays 4 0 0 [.ref 5000, .int x, .int y] (setM z σ h) (some (.int (f_Mpays σ x y B))) (setM z (g_Mpays σ x y B) h) := by
  refine XMet.of hl rfl rfl (Nat.le_of_ble_eq_true rfl) (fun Y O hh hQ => ?_)
  show SW Y 0 0 (setM z σ h) 0 [.ref 5000, .int x, .int y] []
  refine sw_aload_n O (xx_dt dd_X14_pays 0 rfl) rfl ?_
  refine sw_iconst (x := 0) O (xx_dt dd_X14_pays 1 rfl) (by decide) ?_
  refine sw_put (h2 := setM z (u2 σ 5000 0 0) h) O (xx_dt dd_X14_pays 2 rfl) cl_X14 fl_X14_46 (lm_mod (σ := σ)) (by decide) (by omega) rfl (fun _ => ⟨rfl, rfl⟩) (pm_mod (σ := σ) (by omega)) ?_
  refine sw_aload_n O (xx_dt dd_X14_pays 3 rfl) rfl ?_
  refine sw_iload_n O (xx_dt dd_X14_pays 4 rfl) rfl ?_
  refine sw_callVx (as := [.int x]) (st := []) (st2 := [.int (bZ (n_lt x B))]) O (ct_X14_isBidder hl (z := z) (σ := u2 σ 5000 0 0) hbs (B := B) hB (by omega) (x := x)) ce_X14_isBidder ml_X14_156 iv_X14_isBidder cl_X14 rfl (lm_mod (σ := u2 σ 5000 0 0)) (xx_dt dd_X14_pays 5 rfl) (by decide) rfl rfl (Nat.le_of_ble_eq_true rfl) rfl ?_
  refine sw_if_neB (tgt := 19) O (xx_dt dd_X14_pays 6 rfl) (by decide) (fun q1 => ?_) (fun q1 => ?_)
  · have hc10 := q1
    refine sw_lsE (ls2 := [.ref 5000, .int (nI (cn x)), .int y]) (by rw [← hc10.1]) ?_
    have hd10 := hc10.2
    refine sw_iload_n O (xx_dt dd_X14_pays 11 rfl) rfl ?_
    refine sw_if_eq (tgt := 31) O (xx_dt dd_X14_pays 12 rfl) (by decide) (fun q2 => ?_) (fun q2 => ?_)
    · refine sw_aload_n O (xx_dt dd_X14_pays 17 rfl) rfl ?_
      refine sw_iload_n O (xx_dt dd_X14_pays 18 rfl) rfl ?_
      refine sw_callVx (as := [.int (nI (cn x))]) (st := []) (st2 := [.int (f_Mpaid (u2 σ 5000 0 0) (cn x))]) O (ct_X14_paid hl (z := z) (σ := u2 σ 5000 0 0) hbs  (i := cn x) (by omega)) ce_X14_paid ml_X14_326 iv_X14_paid cl_X14 rfl (lm_mod (σ := u2 σ 5000 0 0)) (xx_dt dd_X14_pays 19 rfl) (by decide) rfl rfl (Nat.le_of_ble_eq_true rfl) rfl ?_
      exact sw_iret O (xx_dt dd_X14_pays 20 rfl) rfl rfl (by rw [hQ]; exact ⟨by unfold f_Mpays; simp only [if_pos q1, if_pos q2], by unfold g_Mpays; simp only [if_pos q1, if_pos q2]⟩)
    · refine sw_aload_n O (xx_dt dd_X14_pays 13 rfl) rfl ?_
      refine sw_iload_n O (xx_dt dd_X14_pays 14 rfl) rfl ?_
      refine sw_callVx (as := [.int (nI (cn x))]) (st := []) (st2 := [.int (f_Mdue (u2 σ 5000 0 0) (cn x) B)]) O (ct_X14_due hl (z := z) (σ := u2 σ 5000 0 0) hbs (B := B) hB (by omega) (i := cn x) (by omega)) ce_X14_due ml_X14_323 iv_X14_due cl_X14 rfl (lm_mod (σ := u2 σ 5000 0 0)) (xx_dt dd_X14_pays 15 rfl) (by decide) rfl rfl (Nat.le_of_ble_eq_true rfl) rfl ?_
      refine sw_goto (tgt := 36) O (xx_dt dd_X14_pays 16 rfl) (by decide) ?_
      exact sw_iret O (xx_dt dd_X14_pays 20 rfl) rfl rfl (by rw [hQ]; exact ⟨by unfold f_Mpays; simp only [if_pos q1, if_neg q2], by unfold g_Mpays; simp only [if_pos q1, if_neg q2]⟩)
  · refine sw_aload_n O (xx_dt dd_X14_pays 7 rfl) rfl ?_
    refine sw_iconst (x := 1) O (xx_dt dd_X14_pays 8 rfl) (by decide) ?_
    refine sw_callVx (as := [.int 1]) (st := []) (st2 := [.int 0]) O (ct_X14_refuse hl (z := z) (σ := u2 σ 5000 0 0) hbs (x := 1)) ce_X14_refuse ml_X14_74 iv_X14_refuse cl_X14 rfl (lm_mod (σ := u2 σ 5000 0 0)) (xx_dt dd_X14_pays 9 rfl) (by decide) rfl rfl (Nat.le_of_ble_eq_true rfl) rfl ?_
    exact sw_iret O (xx_dt dd_X14_pays 10 rfl) rfl rfl (by rw [hQ]; exact ⟨by unfold f_Mpays; simp only [if_neg q1], by unfold g_Mpays; simp only [if_neg q1]⟩)
def f_MholderNow (σ : XS9) (r : Nat) (y : Int32) (B : Nat) (tn : Nat → Nat) : Int32 := (if (σ 5000 1) = 3 then f_Mholds σ r y (tn r) B else (-1))
theorem ct_X14_holderNow {l : Launch} {h : XH} (hl : l.stackTraces = false) {z : Int64} {σ : XS9} (hbs : xx_bs h) {R : Nat} (hR : σ 5001 900 = nI R) (hR5 : R ≤ 5) {B : Nat} (hB : σ 5002 900 = nI B) (hB6 : B ≤ 6) {pk : Nat → Nat} (hpk : ∀ j, j < B → σ (5030 + j) 900 = nI (2 * pk j) ∧ pk j ≤ 6) (hkp : σ 5000 1 = 3 → ∀ j, j < B → σ 5005 j = -1 ∨ ∃ n, n < pk j ∧ σ 5005 j = nI n) {tn : Nat → Nat} (htn : ∀ r, r < 5 → σ 5007 r = nI (tn r) ∧ tn r < 6) {r : Nat} {y : Int32} (hr : r < R) : XEx l m_X14_holderNow 6 0 0 [.ref 5000, .int (nI r), .int y] (setM z σ h) (some (.int (f_MholderNow σ r y B tn))) (setM z σ h) := by
  refine XMet.of hl rfl rfl (Nat.le_of_ble_eq_true rfl) (fun Y O hh hQ => ?_)
  show SW Y 0 0 (setM z σ h) 0 [.ref 5000, .int (nI r), .int y] []
  refine sw_aload_n O (xx_dt dd_X14_holderNow 0 rfl) rfl ?_
  refine sw_get (v := .int (σ 5000 1)) O (xx_dt dd_X14_holderNow 1 rfl) cl_X14 fl_X14_77 (lm_mod (σ := σ)) (by decide) rfl ?_
  refine sw_iconst (x := 3) O (xx_dt dd_X14_holderNow 2 rfl) (by decide) ?_
  refine sw_icmp_ne (tgt := 23) O (xx_dt dd_X14_holderNow 3 rfl) (by decide) (fun q1 => ?_) (fun q1 => ?_)
  · refine sw_iconst (x := (-1)) O (xx_dt dd_X14_holderNow 13 rfl) (by decide) ?_
    exact sw_iret O (xx_dt dd_X14_holderNow 14 rfl) rfl rfl (by rw [hQ]; exact ⟨by unfold f_MholderNow; simp only [if_neg q1], rfl⟩)
  · refine sw_aload_n O (xx_dt dd_X14_holderNow 4 rfl) rfl ?_
    refine sw_iload_n O (xx_dt dd_X14_holderNow 5 rfl) rfl ?_
    refine sw_iload_n O (xx_dt dd_X14_holderNow 6 rfl) rfl ?_
    refine sw_aload_n O (xx_dt dd_X14_holderNow 7 rfl) rfl ?_
    refine sw_get (v := .ref 5007) O (xx_dt dd_X14_holderNow 8 rfl) cl_X14 fl_X14_43 (lm_mod (σ := σ)) (by decide) rfl ?_
    refine sw_iload_n O (xx_dt dd_X14_holderNow 9 rfl) rfl ?_
    have hz16 := (htn r (by omega)).2
    refine sw_iaload (v := .int (nI (tn r))) O (xx_dt dd_X14_holderNow 10 rfl) ((im_5007 (z := z) (σ := σ)).get _) (pk_in r _ (by omega)) (by rw [nI_clamp (by omega)]; exact (congrArg Value.int (htn r (by omega)).1)) ?_
    refine sw_callVx (as := [.int (nI r), .int y, .int (nI (tn r))]) (st := []) (st2 := [.int (f_Mholds σ r y (tn r) B)]) O (ct_X14_holds hl (z := z) (σ := σ) hbs (R := R) hR (by omega) (B := B) hB (by omega) (pk := pk) hpk (hkp q1) (r := r) (y := y) (tn := tn r) (by omega) (by omega)) ce_X14_holds ml_X14_243 iv_X14_holds cl_X14 rfl (lm_mod (σ := σ)) (xx_dt dd_X14_holderNow 11 rfl) (by decide) rfl rfl (Nat.le_of_ble_eq_true rfl) rfl ?_
    refine sw_goto (tgt := 24) O (xx_dt dd_X14_holderNow 12 rfl) (by decide) ?_
    exact sw_iret O (xx_dt dd_X14_holderNow 14 rfl) rfl rfl (by rw [hQ]; exact ⟨by unfold f_MholderNow; simp only [if_pos q1], rfl⟩)
def f_Mholder (σ : XS9) (x y : Int32) (R B : Nat) (tn sp : Nat → Nat) : Int32 := (if n_lt x R then (if n_bt y 0 ((nI (sp (cn x))) - 1) then f_MholderNow (u2 σ 5000 0 0) (cn x) y B tn else 0) else 0)
def g_Mholder (σ : XS9) (x y : Int32) (R B : Nat) (tn sp : Nat → Nat) : XS9 := (if n_lt x R then (if n_bt y 0 ((nI (sp (cn x))) - 1) then u2 σ 5000 0 0 else u2 (u2 σ 5000 0 0) 5000 0 1) else u2 (u2 σ 5000 0 0) 5000 0 1)
theorem ct_X14_holder {l : Launch} {h : XH} (hl : l.stackTraces = false) {z : Int64} {σ : XS9} (hbs : xx_bs h) {R : Nat} (hR : σ 5001 900 = nI R) (hR5 : R ≤ 5) {B : Nat} (hB : σ 5002 900 = nI B) (hB6 : B ≤ 6) {pk : Nat → Nat} (hpk : ∀ j, j < B → σ (5030 + j) 900 = nI (2 * pk j) ∧ pk j ≤ 6) (hkp : σ 5000 1 = 3 → ∀ j, j < B → σ 5005 j = -1 ∨ ∃ n, n < pk j ∧ σ 5005 j = nI n) {tn : Nat → Nat} (htn : ∀ r, r < 5 → σ 5007 r = nI (tn r) ∧ tn r < 6) {sp : Nat → Nat} (hsp : ∀ r, r < R → σ (5010 + r) 0 = nI (sp r) ∧ sp r ≤ 5) {x y : Int32}  : XEx l m_X14_holder 7 0 0 [.ref 5000, .int x, .int y] (setM z σ h) (some (.int (f_Mholder σ x y R B tn sp))) (setM z (g_Mholder σ x y R B tn sp) h) := by
  refine XMet.of hl rfl rfl (Nat.le_of_ble_eq_true rfl) (fun Y O hh hQ => ?_)
  show SW Y 0 0 (setM z σ h) 0 [.ref 5000, .int x, .int y] []
  refine sw_aload_n O (xx_dt dd_X14_holder 0 rfl) rfl ?_
  refine sw_iconst (x := 0) O (xx_dt dd_X14_holder 1 rfl) (by decide) ?_
  refine sw_put (h2 := setM z (u2 σ 5000 0 0) h) O (xx_dt dd_X14_holder 2 rfl) cl_X14 fl_X14_46 (lm_mod (σ := σ)) (by decide) (by omega) rfl (fun _ => ⟨rfl, rfl⟩) (pm_mod (σ := σ) (by omega)) ?_
  refine sw_aload_n O (xx_dt dd_X14_holder 3 rfl) rfl ?_
  refine sw_iload_n O (xx_dt dd_X14_holder 4 rfl) rfl ?_
  refine sw_callVx (as := [.int x]) (st := []) (st2 := [.int (bZ (n_lt x R))]) O (ct_X14_isRegion hl (z := z) (σ := u2 σ 5000 0 0) hbs (R := R) hR (by omega) (x := x)) ce_X14_isRegion ml_X14_91 iv_X14_isRegion cl_X14 rfl (lm_mod (σ := u2 σ 5000 0 0)) (xx_dt dd_X14_holder 5 rfl) (by decide) rfl rfl (Nat.le_of_ble_eq_true rfl) rfl ?_
  refine sw_if_eqB (tgt := 46) O (xx_dt dd_X14_holder 6 rfl) (by decide) (fun q1 => ?_) (fun q1 => ?_)
  · refine sw_aload_n O (xx_dt dd_X14_holder 24 rfl) rfl ?_
    refine sw_iconst (x := 1) O (xx_dt dd_X14_holder 25 rfl) (by decide) ?_
    refine sw_callVx (as := [.int 1]) (st := []) (st2 := [.int 0]) O (ct_X14_refuse hl (z := z) (σ := u2 σ 5000 0 0) hbs (x := 1)) ce_X14_refuse ml_X14_74 iv_X14_refuse cl_X14 rfl (lm_mod (σ := u2 σ 5000 0 0)) (xx_dt dd_X14_holder 26 rfl) (by decide) rfl rfl (Nat.le_of_ble_eq_true rfl) rfl ?_
    exact sw_iret O (xx_dt dd_X14_holder 27 rfl) rfl rfl (by rw [hQ]; exact ⟨by unfold f_Mholder; simp only [if_neg q1], by unfold g_Mholder; simp only [if_neg q1]⟩)
  · have hc10 := q1
    refine sw_lsE (ls2 := [.ref 5000, .int (nI (cn x)), .int y]) (by rw [← hc10.1]) ?_
    have hd10 := hc10.2
    refine sw_iload_n O (xx_dt dd_X14_holder 7 rfl) rfl ?_
    refine sw_iconst (x := 0) O (xx_dt dd_X14_holder 8 rfl) (by decide) ?_
    refine sw_aload_n O (xx_dt dd_X14_holder 9 rfl) rfl ?_
    refine sw_get (v := .ref 5001) O (xx_dt dd_X14_holder 10 rfl) cl_X14 fl_X14_23 (lm_mod (σ := u2 σ 5000 0 0)) (by decide) rfl ?_
    refine sw_iload_n O (xx_dt dd_X14_holder 11 rfl) rfl ?_
    refine sw_callVL (ci := 6) (as := [.int (nI (cn x))]) (st := [.int 0, .int y]) (st2 := [.ref (5010 + cn x), .int 0, .int y]) O (ct_get hl hbs (lm_5001 (σ := u2 σ 5000 0 0) (R := R) hR (by omega)) (by omega) (i := cn x) (x := 5010 + cn x) (by omega) (by omega) rfl) ce_Jx4a65c_get_915e3 ml_X14_61 iv_Jx4a65c_get_915e3 cl_Jx4a65c rfl (lm_5001 (σ := u2 σ 5000 0 0) (R := R) hR (by omega)) (xx_dt dd_X14_holder 12 rfl) (by decide) rfl rfl (Nat.le_of_ble_eq_true rfl) rfl ?_
    refine sw_castO O (xx_dt dd_X14_holder 13 rfl) cl_X12 (lm_reg (σ := u2 σ 5000 0 0) (R := R) hR (by omega) (j := cn x) (by omega)) cw_X14_65 ?_
    have hz26 := (hsp (cn x) (by omega)).2
    refine sw_get (v := .int (nI (sp (cn x)))) O (xx_dt dd_X14_holder 14 rfl) cl_X12 fl_X14_81 (lm_reg (σ := u2 σ 5000 0 0) (R := R) hR (by omega) (j := cn x) (by omega)) (by decide) (congrArg Value.int ((congrFun (u2_ne (by omega)) 0).trans (hsp (cn x) (by omega)).1)) ?_
    refine sw_iconst (x := 1) O (xx_dt dd_X14_holder 15 rfl) (by decide) ?_
    refine sw_isub O (xx_dt dd_X14_holder 16 rfl) ?_
    refine sw_callSx (as := [.int y, .int 0, .int ((nI (sp (cn x))) - 1)]) (st := []) (st2 := [.int (bZ (n_bt y 0 ((nI (sp (cn x))) - 1)))]) O (ct_X14_is hl) ce_X14_is ml_X14_70 st_X14_is (xx_dt dd_X14_holder 17 rfl) (by decide) rfl rfl (Nat.le_of_ble_eq_true rfl) rfl ?_
    refine sw_if_eqB (tgt := 46) O (xx_dt dd_X14_holder 18 rfl) (by decide) (fun q2 => ?_) (fun q2 => ?_)
    · refine sw_aload_n O (xx_dt dd_X14_holder 24 rfl) rfl ?_
      refine sw_iconst (x := 1) O (xx_dt dd_X14_holder 25 rfl) (by decide) ?_
      refine sw_callVx (as := [.int 1]) (st := []) (st2 := [.int 0]) O (ct_X14_refuse hl (z := z) (σ := u2 σ 5000 0 0) hbs (x := 1)) ce_X14_refuse ml_X14_74 iv_X14_refuse cl_X14 rfl (lm_mod (σ := u2 σ 5000 0 0)) (xx_dt dd_X14_holder 26 rfl) (by decide) rfl rfl (Nat.le_of_ble_eq_true rfl) rfl ?_
      exact sw_iret O (xx_dt dd_X14_holder 27 rfl) rfl rfl (by rw [hQ]; exact ⟨by unfold f_Mholder; simp only [if_pos q1, if_neg q2], by unfold g_Mholder; simp only [if_pos q1, if_neg q2]⟩)
    · refine sw_aload_n O (xx_dt dd_X14_holder 19 rfl) rfl ?_
      refine sw_iload_n O (xx_dt dd_X14_holder 20 rfl) rfl ?_
      refine sw_iload_n O (xx_dt dd_X14_holder 21 rfl) rfl ?_
      refine sw_callVx (as := [.int (nI (cn x)), .int y]) (st := []) (st2 := [.int (f_MholderNow (u2 σ 5000 0 0) (cn x) y B tn)]) O (ct_X14_holderNow hl (z := z) (σ := u2 σ 5000 0 0) hbs (R := R) hR (by omega) (B := B) hB (by omega) (pk := pk) (fun j9 hj9 => by rw [show (u2 σ 5000 0 0) (5030 + j9) 900 = σ (5030 + j9) 900 from (congrFun (u2_ne (by omega)) 900)]; exact hpk j9 hj9) hkp (tn := tn) htn (r := cn x) (y := y) (by omega)) ce_X14_holderNow ml_X14_329 iv_X14_holderNow cl_X14 rfl (lm_mod (σ := u2 σ 5000 0 0)) (xx_dt dd_X14_holder 22 rfl) (by decide) rfl rfl (Nat.le_of_ble_eq_true rfl) rfl ?_
      refine sw_goto (tgt := 51) O (xx_dt dd_X14_holder 23 rfl) (by decide) ?_
      exact sw_iret O (xx_dt dd_X14_holder 27 rfl) rfl rfl (by rw [hQ]; exact ⟨by unfold f_Mholder; simp only [if_pos q1, if_pos q2], by unfold g_Mholder; simp only [if_pos q1, if_pos q2]⟩)

