/-! ===== the reference: digest ===== -/
theorem dgB1 {Y : XY} {l : Launch} {h : XH} (O : xx_O Y m_X14_digest l 22) (hl : l.stackTraces = false) {z : Int64} {σ : XS9} (hbs : xx_bs h) (hfr : ∀ r, 5000 ≤ r → r < 20010 → h r = none) {B : Nat} (hB : σ 5002 900 = nI B) (hB6 : B ≤ 6) {pk : Nat → Nat} (hpk : ∀ j, j < B → σ (5030 + j) 900 = nI (2 * pk j) ∧ pk j ≤ 6) (hc : σ 9000 20 = nI 1) (hpi : ∀ j, j < B → σ 9001 j = -1 ∨ ∃ n, n < pk j ∧ σ 9001 j = nI n) (hterm : ∃ r, xitR (p2_step 20006 B) 20000000 0 (g_Cpay20 (g_Cpay σ 1 20005 B) 20006 B) = .inr r) (hq5 : σ 20005 20 = 0) (hq6 : σ 20006 20 = 0) {k n : Nat} (kk : SW Y k n (setM z (g_Cpay (g_Cpay σ 1 20005 B) 2 20006 B) h) 155 [.ref 5000, .ref 9000, .ref 20005, .ref 20006, .int 0, xx_d] []) : SW Y (k + 2) (n + 12) (setM z σ h) 140 [.ref 5000, .ref 9000, xx_d, xx_d, xx_d, xx_d] [] := by
  refine sw_aload_n O (xx_dt dd_X14_digest 74 rfl) rfl ?_
  refine sw_iconst (x := 1) O (xx_dt dd_X14_digest 75 rfl) (by decide) ?_
  refine xx_wid (k' := (k + 1) + 1) (n' := (n + 6) + 6) (by omega) (by omega) ?_
  refine sw_callVx (k := k + 1) (n := n + 6) (k' := 1) (n' := 6) (as := [.int 1]) (st := []) (st2 := [.ref 20005]) O ((show XEx _ _ _ _ _ [_, .int 1] _ _ _ from ct_X10_payments hl (z := z) (σ := σ) hbs hc (B := B) hB (by omega) (pk := pk) hpk hpi (qa := 20005) (by omega) hfr hq5 (w := 1) (by omega) (fun e => absurd e (by decide)))) ce_X10_payments ml_X14_233 iv_X10_payments cl_X10 rfl (lm_9000 (σ := σ) (fl1 hc)) (xx_dt dd_X14_digest 76 rfl) (by decide) rfl rfl (Nat.le_of_ble_eq_true rfl) rfl ?_
  refine sw_astore_n (ls2 := [.ref 5000, .ref 9000, .ref 20005, xx_d, xx_d, xx_d]) O (xx_dt dd_X14_digest 77 rfl) (by decide) rfl ?_
  refine sw_aload_n O (xx_dt dd_X14_digest 78 rfl) rfl ?_
  refine sw_iconst (x := 2) O (xx_dt dd_X14_digest 79 rfl) (by decide) ?_
  refine sw_callVx (k := k) (n := n) (k' := 1) (n' := 6) (as := [.int 2]) (st := []) (st2 := [.ref 20006]) O ((show XEx _ _ _ _ _ [_, .int 2] _ _ _ from ct_X10_payments hl (z := z) (σ := g_Cpay σ 1 20005 B) hbs ((congrFun (fr_Cpay ⟨by omega, by omega⟩) 20).trans hc) (B := B) ((congrFun (fr_Cpay ⟨by omega, by omega⟩) 900).trans hB) (by omega) (pk := pk) (fun j9 hj9 => by rw [show (g_Cpay σ 1 20005 B) (5030 + j9) 900 = σ (5030 + j9) 900 from (congrFun (fr_Cpay ⟨by omega, by omega⟩) 900)]; exact hpk j9 hj9) (fun j9 hj9 => by rw [show (g_Cpay σ 1 20005 B) 9001 = σ 9001 from (fr_Cpay ⟨by omega, by omega⟩)]; exact hpi j9 hj9) (qa := 20006) (by omega) hfr ((congrFun (fr_Cpay ⟨by omega, by omega⟩) 20).trans hq6) (w := 2) (by omega) (fun _ => hterm))) ce_X10_payments ml_X14_233 iv_X10_payments cl_X10 rfl (lm_9000 (σ := g_Cpay σ 1 20005 B) (fl1 ((congrFun (fr_Cpay ⟨by omega, by omega⟩) 20).trans hc))) (xx_dt dd_X14_digest 80 rfl) (by decide) rfl rfl (Nat.le_of_ble_eq_true rfl) rfl ?_
  refine sw_astore_n (ls2 := [.ref 5000, .ref 9000, .ref 20005, .ref 20006, xx_d, xx_d]) O (xx_dt dd_X14_digest 81 rfl) (by decide) rfl ?_
  refine sw_iconst (x := 0) O (xx_dt dd_X14_digest 82 rfl) (by decide) ?_
  refine sw_istore (ls2 := [.ref 5000, .ref 9000, .ref 20005, .ref 20006, .int 0, xx_d]) O (xx_dt dd_X14_digest 83 rfl) (by decide) rfl ?_
  exact kk
def x_dig_170 (σ : XS9) (R B K C : Nat) (pk : Nat → Nat) (g : Nat) (tn sp : Nat → Nat) (i155 : Nat) (y0 : Int64) : Int64 := xit (fun i170 y170 => (y170 * 31) + (Int32.toInt64 (f_MofBidderNow σ i155 R B pk g i170))) 11 0 y0
theorem dg170 {Y : XY} {l : Launch} {h : XH} (O : xx_O Y m_X14_digest l 22) (hl : l.stackTraces = false) {z : Int64} {σ : XS9} (hbs : xx_bs h) {R : Nat} (hR : σ 5001 900 = nI R) (hR5 : R ≤ 5) {B : Nat} (hB : σ 5002 900 = nI B) (hB6 : B ≤ 6) {K : Nat} (hK : σ 5003 900 = nI K) (hK60 : K ≤ 60) {C : Nat} (hS : σ 5004 900 = nI (2 * C)) (hC10 : C ≤ 10) {pk : Nat → Nat} (hpk : ∀ j, j < B → σ (5030 + j) 900 = nI (2 * pk j) ∧ pk j ≤ 6) (hfl : σ 7000 25 = nI 0 ∨ (σ 7000 25 = nI 1 ∧ σ 7000 20 = nI 1)) {g : Nat} (hg : σ 7000 23 = nI g) (hg1 : g < 200) {w : Nat} (hw : σ 7000 24 = nI w) (hw1 : w < 200) (hkp : σ 5000 1 = 3 → ∀ j, j < B → σ 5005 j = -1 ∨ ∃ n, n < pk j ∧ σ 5005 j = nI n) {tn : Nat → Nat} (htn : ∀ r, r < 5 → σ 5007 r = nI (tn r) ∧ tn r < 6) {sp : Nat → Nat} (hsp : ∀ r, r < R → σ (5010 + r) 0 = nI (sp r) ∧ sp r ≤ 5) (hc : σ 9000 20 = nI 1) (h20005 : σ 20005 20 = nI 1 ∧ σ 20005 21 = nI 6) (h20006 : σ 20006 20 = nI 1 ∧ σ 20006 21 = nI 6) {i155 : Nat} (hi155 : i155 < B) {k n : Nat} (kk : SW Y k n (setM (x_dig_170 σ R B K C pk g tn sp i155 z) σ h) 196 [.ref 5000, .ref 9000, .ref 20005, .ref 20006, .int (nI i155), .int (nI 11)] []) : SW Y k n (setM z σ h) 170 [.ref 5000, .ref 9000, .ref 20005, .ref 20006, .int (nI i155), .int 0] [] := by
  refine sw_for (S := Int64) (fun i170 y170 => (y170 * 31) + (Int32.toInt64 (f_MofBidderNow σ i155 R B pk g i170))) (fun _ _ => True) (hp := fun y => setM y σ h) (hd := 170) (lc := fun i170 _ => [.ref 5000, .ref 9000, .ref 20005, .ref 20006, .int (nI i155), .int (nI i170)]) (N := 11) (fun i170 y170 hi170 _ => ⟨trivial, fun kk170 => ?_⟩) 11 0 z (by omega) trivial (fun _ => ?_)
  · refine sw_iload O (xx_dt dd_X14_digest 91 rfl) rfl ?_
    refine sw_bipush (x := 11) O (xx_dt dd_X14_digest 92 rfl) (by decide) ?_
    refine sw_icmp_ge (tgt := 196) O (xx_dt dd_X14_digest 93 rfl) (by decide) (fun q => absurd q (nI_ge (b := 11) hi170 (by omega))) (fun _ => ?_)
    refine sw_aload_n O (xx_dt dd_X14_digest 94 rfl) rfl ?_
    refine sw_aload_n O (xx_dt dd_X14_digest 95 rfl) rfl ?_
    refine sw_iload O (xx_dt dd_X14_digest 96 rfl) rfl ?_
    refine sw_iload O (xx_dt dd_X14_digest 97 rfl) rfl ?_
    refine sw_callVx (as := [.int (nI i155), .int (nI i170)]) (st := [.ref 5000]) (st2 := [.int (f_MofBidderNow σ i155 R B pk g i170), .ref 5000]) O (ct_X14_ofBidderNow hl (z := y170) (σ := σ) hbs (R := R) hR (by omega) (B := B) hB (by omega) (pk := pk) hpk (i := i155) (by omega) hfl (g := g) hg (by omega) (w := w) hw (by omega) (v := i170) (by omega)) ce_X14_ofBidderNow ml_X14_311 iv_X14_ofBidderNow cl_X14 rfl (lm_mod (σ := σ)) (xx_dt dd_X14_digest 98 rfl) (by decide) rfl rfl (Nat.le_of_ble_eq_true rfl) rfl ?_
    refine sw_i2l O (xx_dt dd_X14_digest 99 rfl) ?_
    refine sw_callVx (as := [.long (Int32.toInt64 (f_MofBidderNow σ i155 R B pk g i170))]) (st := []) (st2 := []) O (ct_X14_add hl (z := y170) (σ := σ) (v := Int32.toInt64 (f_MofBidderNow σ i155 R B pk g i170))) ce_X14_add ml_X14_415 iv_X14_add cl_X14 rfl (lm_mod (σ := σ)) (xx_dt dd_X14_digest 100 rfl) (by decide) rfl rfl (Nat.le_of_ble_eq_true rfl) rfl ?_
    refine sw_iinc (y := nI (i170 + 1)) (ls2 := [.ref 5000, .ref 9000, .ref 20005, .ref 20006, .int (nI i155), .int (nI (i170 + 1))]) O (xx_dt dd_X14_digest 101 rfl) rfl (nI_1 _) (by decide) rfl ?_
    refine sw_goto (tgt := 170) O (xx_dt dd_X14_digest 102 rfl) (by decide) ?_
    exact kk170
  · show SW Y _ _ (setM (x_dig_170 σ R B K C pk g tn sp i155 z) σ h) 170 [.ref 5000, .ref 9000, .ref 20005, .ref 20006, .int (nI i155), .int (nI 11)] []
    refine sw_iload O (xx_dt dd_X14_digest 91 rfl) rfl ?_
    refine sw_bipush (x := 11) O (xx_dt dd_X14_digest 92 rfl) (by decide) ?_
    refine sw_icmp_ge (tgt := 196) O (xx_dt dd_X14_digest 93 rfl) (by decide) (fun _ => ?_) (fun q => absurd (Int32.le_refl _) q)
    exact kk
theorem dg196 {Y : XY} {l : Launch} {h : XH} (O : xx_O Y m_X14_digest l 22) (hl : l.stackTraces = false) {z : Int64} {σ : XS9} (hbs : xx_bs h) {R : Nat} (hR : σ 5001 900 = nI R) (hR5 : R ≤ 5) {B : Nat} (hB : σ 5002 900 = nI B) (hB6 : B ≤ 6) {K : Nat} (hK : σ 5003 900 = nI K) (hK60 : K ≤ 60) {C : Nat} (hS : σ 5004 900 = nI (2 * C)) (hC10 : C ≤ 10) {pk : Nat → Nat} (hpk : ∀ j, j < B → σ (5030 + j) 900 = nI (2 * pk j) ∧ pk j ≤ 6) (hfl : σ 7000 25 = nI 0 ∨ (σ 7000 25 = nI 1 ∧ σ 7000 20 = nI 1)) {g : Nat} (hg : σ 7000 23 = nI g) (hg1 : g < 200) {w : Nat} (hw : σ 7000 24 = nI w) (hw1 : w < 200) (hkp : σ 5000 1 = 3 → ∀ j, j < B → σ 5005 j = -1 ∨ ∃ n, n < pk j ∧ σ 5005 j = nI n) {tn : Nat → Nat} (htn : ∀ r, r < 5 → σ 5007 r = nI (tn r) ∧ tn r < 6) {sp : Nat → Nat} (hsp : ∀ r, r < R → σ (5010 + r) 0 = nI (sp r) ∧ sp r ≤ 5) (hc : σ 9000 20 = nI 1) (h20005 : σ 20005 20 = nI 1 ∧ σ 20005 21 = nI 6) (h20006 : σ 20006 20 = nI 1 ∧ σ 20006 21 = nI 6) {i155 : Nat} (hi155 : i155 < B) {k n : Nat} (kk : SW Y k n (setM ((((((((((z * 31) + (Int32.toInt64 (f_MwinsNow σ i155))) * 31) + (Int32.toInt64 (f_Mpaid σ i155))) * 31) + (Int32.toInt64 (f_Mdue σ i155 B))) * 31) + (Int32.toInt64 (σ 20005 i155))) * 31) + (Int32.toInt64 (σ 20006 i155))) σ h) 251 [.ref 5000, .ref 9000, .ref 20005, .ref 20006, .int (nI i155), .int 0] []) : SW Y k n (setM z σ h) 196 [.ref 5000, .ref 9000, .ref 20005, .ref 20006, .int (nI i155), .int (nI 11)] [] := by
  refine sw_aload_n O (xx_dt dd_X14_digest 103 rfl) rfl ?_
  refine sw_aload_n O (xx_dt dd_X14_digest 104 rfl) rfl ?_
  refine sw_iload O (xx_dt dd_X14_digest 105 rfl) rfl ?_
  refine sw_aload_n O (xx_dt dd_X14_digest 106 rfl) rfl ?_
  refine sw_callVx (as := [.int (nI i155), .ref 9000]) (st := [.ref 5000]) (st2 := [.int (f_MwinsNow σ i155), .ref 5000]) O (ct_X14_winsNow hl (z := z) (σ := σ) hbs hc (i := i155) (by omega)) ce_X14_winsNow ml_X14_317 iv_X14_winsNow cl_X14 rfl (lm_mod (σ := σ)) (xx_dt dd_X14_digest 107 rfl) (by decide) rfl rfl (Nat.le_of_ble_eq_true rfl) rfl ?_
  refine sw_i2l O (xx_dt dd_X14_digest 108 rfl) ?_
  refine sw_callVx (as := [.long (Int32.toInt64 (f_MwinsNow σ i155))]) (st := []) (st2 := []) O (ct_X14_add hl (z := z) (σ := σ) (v := Int32.toInt64 (f_MwinsNow σ i155))) ce_X14_add ml_X14_415 iv_X14_add cl_X14 rfl (lm_mod (σ := σ)) (xx_dt dd_X14_digest 109 rfl) (by decide) rfl rfl (Nat.le_of_ble_eq_true rfl) rfl ?_
  refine sw_aload_n O (xx_dt dd_X14_digest 110 rfl) rfl ?_
  refine sw_aload_n O (xx_dt dd_X14_digest 111 rfl) rfl ?_
  refine sw_iload O (xx_dt dd_X14_digest 112 rfl) rfl ?_
  refine sw_callVx (as := [.int (nI i155)]) (st := [.ref 5000]) (st2 := [.int (f_Mpaid σ i155), .ref 5000]) O (ct_X14_paid hl (z := (z * 31) + (Int32.toInt64 (f_MwinsNow σ i155))) (σ := σ) hbs  (i := i155) (by omega)) ce_X14_paid ml_X14_326 iv_X14_paid cl_X14 rfl (lm_mod (σ := σ)) (xx_dt dd_X14_digest 113 rfl) (by decide) rfl rfl (Nat.le_of_ble_eq_true rfl) rfl ?_
  refine sw_i2l O (xx_dt dd_X14_digest 114 rfl) ?_
  refine sw_callVx (as := [.long (Int32.toInt64 (f_Mpaid σ i155))]) (st := []) (st2 := []) O (ct_X14_add hl (z := (z * 31) + (Int32.toInt64 (f_MwinsNow σ i155))) (σ := σ) (v := Int32.toInt64 (f_Mpaid σ i155))) ce_X14_add ml_X14_415 iv_X14_add cl_X14 rfl (lm_mod (σ := σ)) (xx_dt dd_X14_digest 115 rfl) (by decide) rfl rfl (Nat.le_of_ble_eq_true rfl) rfl ?_
  refine sw_aload_n O (xx_dt dd_X14_digest 116 rfl) rfl ?_
  refine sw_aload_n O (xx_dt dd_X14_digest 117 rfl) rfl ?_
  refine sw_iload O (xx_dt dd_X14_digest 118 rfl) rfl ?_
  refine sw_callVx (as := [.int (nI i155)]) (st := [.ref 5000]) (st2 := [.int (f_Mdue σ i155 B), .ref 5000]) O (ct_X14_due hl (z := (((z * 31) + (Int32.toInt64 (f_MwinsNow σ i155))) * 31) + (Int32.toInt64 (f_Mpaid σ i155))) (σ := σ) hbs (B := B) hB (by omega) (i := i155) (by omega)) ce_X14_due ml_X14_323 iv_X14_due cl_X14 rfl (lm_mod (σ := σ)) (xx_dt dd_X14_digest 119 rfl) (by decide) rfl rfl (Nat.le_of_ble_eq_true rfl) rfl ?_
  refine sw_i2l O (xx_dt dd_X14_digest 120 rfl) ?_
  refine sw_callVx (as := [.long (Int32.toInt64 (f_Mdue σ i155 B))]) (st := []) (st2 := []) O (ct_X14_add hl (z := (((z * 31) + (Int32.toInt64 (f_MwinsNow σ i155))) * 31) + (Int32.toInt64 (f_Mpaid σ i155))) (σ := σ) (v := Int32.toInt64 (f_Mdue σ i155 B))) ce_X14_add ml_X14_415 iv_X14_add cl_X14 rfl (lm_mod (σ := σ)) (xx_dt dd_X14_digest 121 rfl) (by decide) rfl rfl (Nat.le_of_ble_eq_true rfl) rfl ?_
  refine sw_aload_n O (xx_dt dd_X14_digest 122 rfl) rfl ?_
  refine sw_aload_n O (xx_dt dd_X14_digest 123 rfl) rfl ?_
  refine sw_iload O (xx_dt dd_X14_digest 124 rfl) rfl ?_
  refine sw_iaload (v := .int (σ 20005 i155)) O (xx_dt dd_X14_digest 125 rfl) ((lm_tmp (z := (((((z * 31) + (Int32.toInt64 (f_MwinsNow σ i155))) * 31) + (Int32.toInt64 (f_Mpaid σ i155))) * 31) + (Int32.toInt64 (f_Mdue σ i155 B))) (σ := σ) (h := h) (q := 20005) (by omega) (fl1 h20005.1) h20005.2 (by omega)).get _) (pk_in i155 _ (by omega)) (by rw [nI_clamp (by omega)]; try exact rfl) ?_
  refine sw_i2l O (xx_dt dd_X14_digest 126 rfl) ?_
  refine sw_callVx (as := [.long (Int32.toInt64 (σ 20005 i155))]) (st := []) (st2 := []) O (ct_X14_add hl (z := (((((z * 31) + (Int32.toInt64 (f_MwinsNow σ i155))) * 31) + (Int32.toInt64 (f_Mpaid σ i155))) * 31) + (Int32.toInt64 (f_Mdue σ i155 B))) (σ := σ) (v := Int32.toInt64 (σ 20005 i155))) ce_X14_add ml_X14_415 iv_X14_add cl_X14 rfl (lm_mod (σ := σ)) (xx_dt dd_X14_digest 127 rfl) (by decide) rfl rfl (Nat.le_of_ble_eq_true rfl) rfl ?_
  refine sw_aload_n O (xx_dt dd_X14_digest 128 rfl) rfl ?_
  refine sw_aload_n O (xx_dt dd_X14_digest 129 rfl) rfl ?_
  refine sw_iload O (xx_dt dd_X14_digest 130 rfl) rfl ?_
  refine sw_iaload (v := .int (σ 20006 i155)) O (xx_dt dd_X14_digest 131 rfl) ((lm_tmp (z := (((((((z * 31) + (Int32.toInt64 (f_MwinsNow σ i155))) * 31) + (Int32.toInt64 (f_Mpaid σ i155))) * 31) + (Int32.toInt64 (f_Mdue σ i155 B))) * 31) + (Int32.toInt64 (σ 20005 i155))) (σ := σ) (h := h) (q := 20006) (by omega) (fl1 h20006.1) h20006.2 (by omega)).get _) (pk_in i155 _ (by omega)) (by rw [nI_clamp (by omega)]; try exact rfl) ?_
  refine sw_i2l O (xx_dt dd_X14_digest 132 rfl) ?_
  refine sw_callVx (as := [.long (Int32.toInt64 (σ 20006 i155))]) (st := []) (st2 := []) O (ct_X14_add hl (z := (((((((z * 31) + (Int32.toInt64 (f_MwinsNow σ i155))) * 31) + (Int32.toInt64 (f_Mpaid σ i155))) * 31) + (Int32.toInt64 (f_Mdue σ i155 B))) * 31) + (Int32.toInt64 (σ 20005 i155))) (σ := σ) (v := Int32.toInt64 (σ 20006 i155))) ce_X14_add ml_X14_415 iv_X14_add cl_X14 rfl (lm_mod (σ := σ)) (xx_dt dd_X14_digest 133 rfl) (by decide) rfl rfl (Nat.le_of_ble_eq_true rfl) rfl ?_
  refine sw_iconst (x := 0) O (xx_dt dd_X14_digest 134 rfl) (by decide) ?_
  refine sw_istore (ls2 := [.ref 5000, .ref 9000, .ref 20005, .ref 20006, .int (nI i155), .int 0]) O (xx_dt dd_X14_digest 135 rfl) (by decide) rfl ?_
  exact kk
def x_dig_251 (σ : XS9) (R B K C : Nat) (pk : Nat → Nat) (g : Nat) (tn sp : Nat → Nat) (i155 : Nat) (y0 : Int64) : Int64 := xit (fun i251 y251 => (((y251 * 31) + (Int32.toInt64 (f_Bamount σ i155 i251))) * 31) + (Int32.toInt64 (f_Bcode σ i155 i251))) (pk i155) 0 y0
theorem dg251 {Y : XY} {l : Launch} {h : XH} (O : xx_O Y m_X14_digest l 22) (hl : l.stackTraces = false) {z : Int64} {σ : XS9} (hbs : xx_bs h) {R : Nat} (hR : σ 5001 900 = nI R) (hR5 : R ≤ 5) {B : Nat} (hB : σ 5002 900 = nI B) (hB6 : B ≤ 6) {K : Nat} (hK : σ 5003 900 = nI K) (hK60 : K ≤ 60) {C : Nat} (hS : σ 5004 900 = nI (2 * C)) (hC10 : C ≤ 10) {pk : Nat → Nat} (hpk : ∀ j, j < B → σ (5030 + j) 900 = nI (2 * pk j) ∧ pk j ≤ 6) (hfl : σ 7000 25 = nI 0 ∨ (σ 7000 25 = nI 1 ∧ σ 7000 20 = nI 1)) {g : Nat} (hg : σ 7000 23 = nI g) (hg1 : g < 200) {w : Nat} (hw : σ 7000 24 = nI w) (hw1 : w < 200) (hkp : σ 5000 1 = 3 → ∀ j, j < B → σ 5005 j = -1 ∨ ∃ n, n < pk j ∧ σ 5005 j = nI n) {tn : Nat → Nat} (htn : ∀ r, r < 5 → σ 5007 r = nI (tn r) ∧ tn r < 6) {sp : Nat → Nat} (hsp : ∀ r, r < R → σ (5010 + r) 0 = nI (sp r) ∧ sp r ≤ 5) (hc : σ 9000 20 = nI 1) (h20005 : σ 20005 20 = nI 1 ∧ σ 20005 21 = nI 6) (h20006 : σ 20006 20 = nI 1 ∧ σ 20006 21 = nI 6) {i155 : Nat} (hi155 : i155 < B) {k n : Nat} (kk : SW Y k n (setM (x_dig_251 σ R B K C pk g tn sp i155 z) σ h) 321 [.ref 5000, .ref 9000, .ref 20005, .ref 20006, .int (nI i155), .int (nI ((pk i155)))] []) : SW Y k n (setM z σ h) 251 [.ref 5000, .ref 9000, .ref 20005, .ref 20006, .int (nI i155), .int 0] [] := by
  refine sw_for (S := Int64) (fun i251 y251 => (((y251 * 31) + (Int32.toInt64 (f_Bamount σ i155 i251))) * 31) + (Int32.toInt64 (f_Bcode σ i155 i251))) (fun _ _ => True) (hp := fun y => setM y σ h) (hd := 251) (lc := fun i251 _ => [.ref 5000, .ref 9000, .ref 20005, .ref 20006, .int (nI i155), .int (nI i251)]) (N := (pk i155)) (fun i251 y251 hi251 _ => ⟨trivial, fun kk251 => ?_⟩) (pk i155) 0 z (by omega) trivial (fun _ => ?_)
  · refine sw_iload O (xx_dt dd_X14_digest 136 rfl) rfl ?_
    refine sw_aload_n O (xx_dt dd_X14_digest 137 rfl) rfl ?_
    refine sw_get (v := .ref 5002) O (xx_dt dd_X14_digest 138 rfl) cl_X14 fl_X14_27 (lm_mod (σ := σ)) (by decide) rfl ?_
    refine sw_iload O (xx_dt dd_X14_digest 139 rfl) rfl ?_
    refine sw_callVL (ci := 6) (as := [.int (nI i155)]) (st := [.int (nI i251)]) (st2 := [.ref (5020 + i155), .int (nI i251)]) O (ct_get hl hbs (lm_5002 (σ := σ) (B := B) hB (by omega)) (by omega) (i := i155) (x := 5020 + i155) (by omega) (by omega) rfl) ce_Jx4a65c_get_915e3 ml_X14_61 iv_Jx4a65c_get_915e3 cl_Jx4a65c rfl (lm_5002 (σ := σ) (B := B) hB (by omega)) (xx_dt dd_X14_digest 140 rfl) (by decide) rfl rfl (Nat.le_of_ble_eq_true rfl) rfl ?_
    refine sw_castO O (xx_dt dd_X14_digest 141 rfl) cl_X9 (lm_bid (σ := σ) (B := B) hB (by omega) (j := i155) (by omega)) cw_X14_118 ?_
    have hq265 := (hpk i155 (by omega)).2
    refine sw_callVx (as := []) (st := [.int (nI i251)]) (st2 := [.int (nI (pk i155)), .int (nI i251)]) O ((show XEx _ _ _ _ _ _ _ (some (.int (nI (pk i155)))) _ from ct_X9_many hl (z := y251) (σ := σ) hbs (B := B) hB (by omega) (j := i155) (by omega) (p := pk i155) (hpk i155 (by omega)).1 (by have h9 := (hpk i155 (by omega)).2; omega))) ce_X9_many ml_X14_210 iv_X9_many cl_X9 rfl (lm_bid (σ := σ) (B := B) hB (by omega) (j := i155) (by omega)) (xx_dt dd_X14_digest 142 rfl) (by decide) rfl rfl (Nat.le_of_ble_eq_true rfl) rfl ?_
    refine sw_icmp_ge (tgt := 321) O (xx_dt dd_X14_digest 143 rfl) (by decide) (fun q => absurd q (nI_ge (b := (pk i155)) hi251 (by omega))) (fun _ => ?_)
    refine sw_aload_n O (xx_dt dd_X14_digest 144 rfl) rfl ?_
    refine sw_aload_n O (xx_dt dd_X14_digest 145 rfl) rfl ?_
    refine sw_get (v := .ref 5002) O (xx_dt dd_X14_digest 146 rfl) cl_X14 fl_X14_27 (lm_mod (σ := σ)) (by decide) rfl ?_
    refine sw_iload O (xx_dt dd_X14_digest 147 rfl) rfl ?_
    refine sw_callVL (ci := 6) (as := [.int (nI i155)]) (st := [.ref 5000]) (st2 := [.ref (5020 + i155), .ref 5000]) O (ct_get hl hbs (lm_5002 (σ := σ) (B := B) hB (by omega)) (by omega) (i := i155) (x := 5020 + i155) (by omega) (by omega) rfl) ce_Jx4a65c_get_915e3 ml_X14_61 iv_Jx4a65c_get_915e3 cl_Jx4a65c rfl (lm_5002 (σ := σ) (B := B) hB (by omega)) (xx_dt dd_X14_digest 148 rfl) (by decide) rfl rfl (Nat.le_of_ble_eq_true rfl) rfl ?_
    refine sw_castO O (xx_dt dd_X14_digest 149 rfl) cl_X9 (lm_bid (σ := σ) (B := B) hB (by omega) (j := i155) (by omega)) cw_X14_118 ?_
    refine sw_iload O (xx_dt dd_X14_digest 150 rfl) rfl ?_
    refine sw_callVx (as := [.int (nI i251)]) (st := [.ref 5000]) (st2 := [.int (f_Bamount σ i155 i251), .ref 5000]) O (ct_X9_amount hl (z := y251) (σ := σ) hbs (B := B) hB (by omega) (j := i155) (by omega) (p := pk i155) (hpk i155 (by omega)).1 (by have h9 := (hpk i155 (by omega)).2; omega) (k := i251) (by first | omega | (have h9 := (hpk i155 (by omega)).2; omega))) ce_X9_amount ml_X14_252 iv_X9_amount cl_X9 rfl (lm_bid (σ := σ) (B := B) hB (by omega) (j := i155) (by omega)) (xx_dt dd_X14_digest 151 rfl) (by decide) rfl rfl (Nat.le_of_ble_eq_true rfl) rfl ?_
    refine sw_i2l O (xx_dt dd_X14_digest 152 rfl) ?_
    refine sw_callVx (as := [.long (Int32.toInt64 (f_Bamount σ i155 i251))]) (st := []) (st2 := []) O (ct_X14_add hl (z := y251) (σ := σ) (v := Int32.toInt64 (f_Bamount σ i155 i251))) ce_X14_add ml_X14_415 iv_X14_add cl_X14 rfl (lm_mod (σ := σ)) (xx_dt dd_X14_digest 153 rfl) (by decide) rfl rfl (Nat.le_of_ble_eq_true rfl) rfl ?_
    refine sw_aload_n O (xx_dt dd_X14_digest 154 rfl) rfl ?_
    refine sw_aload_n O (xx_dt dd_X14_digest 155 rfl) rfl ?_
    refine sw_get (v := .ref 5002) O (xx_dt dd_X14_digest 156 rfl) cl_X14 fl_X14_27 (lm_mod (σ := σ)) (by decide) rfl ?_
    refine sw_iload O (xx_dt dd_X14_digest 157 rfl) rfl ?_
    refine sw_callVL (ci := 6) (as := [.int (nI i155)]) (st := [.ref 5000]) (st2 := [.ref (5020 + i155), .ref 5000]) O (ct_get hl hbs (lm_5002 (σ := σ) (B := B) hB (by omega)) (by omega) (i := i155) (x := 5020 + i155) (by omega) (by omega) rfl) ce_Jx4a65c_get_915e3 ml_X14_61 iv_Jx4a65c_get_915e3 cl_Jx4a65c rfl (lm_5002 (σ := σ) (B := B) hB (by omega)) (xx_dt dd_X14_digest 158 rfl) (by decide) rfl rfl (Nat.le_of_ble_eq_true rfl) rfl ?_
    refine sw_castO O (xx_dt dd_X14_digest 159 rfl) cl_X9 (lm_bid (σ := σ) (B := B) hB (by omega) (j := i155) (by omega)) cw_X14_118 ?_
    refine sw_iload O (xx_dt dd_X14_digest 160 rfl) rfl ?_
    refine sw_callVx (as := [.int (nI i251)]) (st := [.ref 5000]) (st2 := [.int (f_Bcode σ i155 i251), .ref 5000]) O (ct_X9_code hl (z := (y251 * 31) + (Int32.toInt64 (f_Bamount σ i155 i251))) (σ := σ) hbs (B := B) hB (by omega) (j := i155) (by omega) (p := pk i155) (hpk i155 (by omega)).1 (by have h9 := (hpk i155 (by omega)).2; omega) (k := i251) (by first | omega | (have h9 := (hpk i155 (by omega)).2; omega))) ce_X9_code ml_X14_240 iv_X9_code cl_X9 rfl (lm_bid (σ := σ) (B := B) hB (by omega) (j := i155) (by omega)) (xx_dt dd_X14_digest 161 rfl) (by decide) rfl rfl (Nat.le_of_ble_eq_true rfl) rfl ?_
    refine sw_i2l O (xx_dt dd_X14_digest 162 rfl) ?_
    refine sw_callVx (as := [.long (Int32.toInt64 (f_Bcode σ i155 i251))]) (st := []) (st2 := []) O (ct_X14_add hl (z := (y251 * 31) + (Int32.toInt64 (f_Bamount σ i155 i251))) (σ := σ) (v := Int32.toInt64 (f_Bcode σ i155 i251))) ce_X14_add ml_X14_415 iv_X14_add cl_X14 rfl (lm_mod (σ := σ)) (xx_dt dd_X14_digest 163 rfl) (by decide) rfl rfl (Nat.le_of_ble_eq_true rfl) rfl ?_
    refine sw_iinc (y := nI (i251 + 1)) (ls2 := [.ref 5000, .ref 9000, .ref 20005, .ref 20006, .int (nI i155), .int (nI (i251 + 1))]) O (xx_dt dd_X14_digest 164 rfl) rfl (nI_1 _) (by decide) rfl ?_
    refine sw_goto (tgt := 251) O (xx_dt dd_X14_digest 165 rfl) (by decide) ?_
    exact kk251
  · show SW Y _ _ (setM (x_dig_251 σ R B K C pk g tn sp i155 z) σ h) 251 [.ref 5000, .ref 9000, .ref 20005, .ref 20006, .int (nI i155), .int (nI ((pk i155)))] []
    refine sw_iload O (xx_dt dd_X14_digest 136 rfl) rfl ?_
    refine sw_aload_n O (xx_dt dd_X14_digest 137 rfl) rfl ?_
    refine sw_get (v := .ref 5002) O (xx_dt dd_X14_digest 138 rfl) cl_X14 fl_X14_27 (lm_mod (σ := σ)) (by decide) rfl ?_
    refine sw_iload O (xx_dt dd_X14_digest 139 rfl) rfl ?_
    refine sw_callVL (ci := 6) (as := [.int (nI i155)]) (st := [.int (nI ((pk i155)))]) (st2 := [.ref (5020 + i155), .int (nI ((pk i155)))]) O (ct_get hl hbs (lm_5002 (σ := σ) (B := B) hB (by omega)) (by omega) (i := i155) (x := 5020 + i155) (by omega) (by omega) rfl) ce_Jx4a65c_get_915e3 ml_X14_61 iv_Jx4a65c_get_915e3 cl_Jx4a65c rfl (lm_5002 (σ := σ) (B := B) hB (by omega)) (xx_dt dd_X14_digest 140 rfl) (by decide) rfl rfl (Nat.le_of_ble_eq_true rfl) rfl ?_
    refine sw_castO O (xx_dt dd_X14_digest 141 rfl) cl_X9 (lm_bid (σ := σ) (B := B) hB (by omega) (j := i155) (by omega)) cw_X14_118 ?_
    have hq265 := (hpk i155 (by omega)).2
    refine sw_callVx (as := []) (st := [.int (nI ((pk i155)))]) (st2 := [.int (nI (pk i155)), .int (nI ((pk i155)))]) O ((show XEx _ _ _ _ _ _ _ (some (.int (nI (pk i155)))) _ from ct_X9_many hl (z := x_dig_251 σ R B K C pk g tn sp i155 z) (σ := σ) hbs (B := B) hB (by omega) (j := i155) (by omega) (p := pk i155) (hpk i155 (by omega)).1 (by have h9 := (hpk i155 (by omega)).2; omega))) ce_X9_many ml_X14_210 iv_X9_many cl_X9 rfl (lm_bid (σ := σ) (B := B) hB (by omega) (j := i155) (by omega)) (xx_dt dd_X14_digest 142 rfl) (by decide) rfl rfl (Nat.le_of_ble_eq_true rfl) rfl ?_
    refine sw_icmp_ge (tgt := 321) O (xx_dt dd_X14_digest 143 rfl) (by decide) (fun _ => ?_) (fun q => absurd (Int32.le_refl _) q)
    exact kk
def x_dig_196 (σ : XS9) (R B K C : Nat) (pk : Nat → Nat) (g : Nat) (tn sp : Nat → Nat) (i155 : Nat) (y0 : Int64) : Int64 := (((((((((y0 * 31) + (Int32.toInt64 (f_MwinsNow σ i155))) * 31) + (Int32.toInt64 (f_Mpaid σ i155))) * 31) + (Int32.toInt64 (f_Mdue σ i155 B))) * 31) + (Int32.toInt64 (σ 20005 i155))) * 31) + (Int32.toInt64 (σ 20006 i155))
def x_dig_155 (σ : XS9) (R B K C : Nat) (pk : Nat → Nat) (g : Nat) (tn sp : Nat → Nat) (y0 : Int64) : Int64 := xit (fun i155 y155 => x_dig_251 σ R B K C pk g tn sp i155 (x_dig_196 σ R B K C pk g tn sp i155 (x_dig_170 σ R B K C pk g tn sp i155 y155))) B 0 y0
def x_digB (σ : XS9) (R B K C : Nat) (pk : Nat → Nat) (g : Nat) (tn sp : Nat → Nat) (y0 : Int64) : Int64 := x_dig_155 σ R B K C pk g tn sp y0
theorem dgB {Y : XY} {l : Launch} {h : XH} (O : xx_O Y m_X14_digest l 22) (hl : l.stackTraces = false) {z : Int64} {σ : XS9} (hbs : xx_bs h) {R : Nat} (hR : σ 5001 900 = nI R) (hR5 : R ≤ 5) {B : Nat} (hB : σ 5002 900 = nI B) (hB6 : B ≤ 6) {K : Nat} (hK : σ 5003 900 = nI K) (hK60 : K ≤ 60) {C : Nat} (hS : σ 5004 900 = nI (2 * C)) (hC10 : C ≤ 10) {pk : Nat → Nat} (hpk : ∀ j, j < B → σ (5030 + j) 900 = nI (2 * pk j) ∧ pk j ≤ 6) (hfl : σ 7000 25 = nI 0 ∨ (σ 7000 25 = nI 1 ∧ σ 7000 20 = nI 1)) {g : Nat} (hg : σ 7000 23 = nI g) (hg1 : g < 200) {w : Nat} (hw : σ 7000 24 = nI w) (hw1 : w < 200) (hkp : σ 5000 1 = 3 → ∀ j, j < B → σ 5005 j = -1 ∨ ∃ n, n < pk j ∧ σ 5005 j = nI n) {tn : Nat → Nat} (htn : ∀ r, r < 5 → σ 5007 r = nI (tn r) ∧ tn r < 6) {sp : Nat → Nat} (hsp : ∀ r, r < R → σ (5010 + r) 0 = nI (sp r) ∧ sp r ≤ 5) (hc : σ 9000 20 = nI 1) (h20005 : σ 20005 20 = nI 1 ∧ σ 20005 21 = nI 6) (h20006 : σ 20006 20 = nI 1 ∧ σ 20006 21 = nI 6) {k n : Nat} (kk : SW Y k n (setM (x_digB σ R B K C pk g tn sp z) σ h) 327 [.ref 5000, .ref 9000, .ref 20005, .ref 20006, .int (nI B), xx_d] []) : SW Y k n (setM z σ h) 155 [.ref 5000, .ref 9000, .ref 20005, .ref 20006, .int 0, xx_d] [] := by
  refine sw_for (S := Int64) (fun i155 y155 => x_dig_251 σ R B K C pk g tn sp i155 (x_dig_196 σ R B K C pk g tn sp i155 (x_dig_170 σ R B K C pk g tn sp i155 y155))) (fun _ _ => True) (hp := fun y => setM y σ h) (hd := 155) (lc := fun i155 _ => [.ref 5000, .ref 9000, .ref 20005, .ref 20006, .int (nI i155), xx_d]) (N := B) (fun i155 y155 hi155 _ => ⟨trivial, fun kk155 => ?_⟩) B 0 z (by omega) trivial (fun _ => ?_)
  · refine sw_iload O (xx_dt dd_X14_digest 84 rfl) rfl ?_
    refine sw_aload_n O (xx_dt dd_X14_digest 85 rfl) rfl ?_
    refine sw_get (v := .ref 5002) O (xx_dt dd_X14_digest 86 rfl) cl_X14 fl_X14_27 (lm_mod (σ := σ)) (by decide) rfl ?_
    refine sw_callVL (ci := 6) (as := []) (st := [.int (nI i155)]) (st2 := [.int (nI B), .int (nI i155)]) O (ct_AL_size hl (lm_5002 (σ := σ) (B := B) hB (by omega))) ce_Jx4a65c_size_8abf5 ml_X14_57 iv_Jx4a65c_size_8abf5 cl_Jx4a65c rfl (lm_5002 (σ := σ) (B := B) hB (by omega)) (xx_dt dd_X14_digest 87 rfl) (by decide) rfl rfl (Nat.le_of_ble_eq_true rfl) rfl ?_
    refine sw_icmp_ge (tgt := 327) O (xx_dt dd_X14_digest 88 rfl) (by decide) (fun q => absurd q (nI_ge (b := B) hi155 (by omega))) (fun _ => ?_)
    refine sw_iconst (x := 0) O (xx_dt dd_X14_digest 89 rfl) (by decide) ?_
    refine sw_istore (ls2 := [.ref 5000, .ref 9000, .ref 20005, .ref 20006, .int (nI i155), .int 0]) O (xx_dt dd_X14_digest 90 rfl) (by decide) rfl ?_
    refine dg170 O hl hbs hR hR5 hB hB6 hK hK60 hS hC10 hpk hfl hg hg1 hw hw1 hkp htn hsp hc h20005 h20006 hi155 ?_
    refine dg196 O hl hbs hR hR5 hB hB6 hK hK60 hS hC10 hpk hfl hg hg1 hw hw1 hkp htn hsp hc h20005 h20006 hi155 ?_
    show SW Y _ _ (setM (x_dig_196 σ R B K C pk g tn sp i155 (x_dig_170 σ R B K C pk g tn sp i155 y155)) σ h) 251 [.ref 5000, .ref 9000, .ref 20005, .ref 20006, .int (nI i155), .int 0] []
    refine dg251 O hl hbs hR hR5 hB hB6 hK hK60 hS hC10 hpk hfl hg hg1 hw hw1 hkp htn hsp hc h20005 h20006 hi155 ?_
    refine sw_iinc (y := nI (i155 + 1)) (ls2 := [.ref 5000, .ref 9000, .ref 20005, .ref 20006, .int (nI (i155 + 1)), .int (nI ((pk i155)))]) O (xx_dt dd_X14_digest 166 rfl) rfl (nI_1 _) (by decide) rfl ?_
    refine sw_goto (tgt := 155) O (xx_dt dd_X14_digest 167 rfl) (by decide) ?_
    refine sw_dum (ls2 := [.ref 5000, .ref 9000, .ref 20005, .ref 20006, .int (nI (i155 + 1)), xx_d]) ⟨.inr rfl, .inr rfl, .inr rfl, .inr rfl, .inr rfl, .inl rfl, trivial⟩ ?_
    exact kk155
  · show SW Y _ _ (setM (x_dig_155 σ R B K C pk g tn sp z) σ h) 155 [.ref 5000, .ref 9000, .ref 20005, .ref 20006, .int (nI B), xx_d] []
    refine sw_iload O (xx_dt dd_X14_digest 84 rfl) rfl ?_
    refine sw_aload_n O (xx_dt dd_X14_digest 85 rfl) rfl ?_
    refine sw_get (v := .ref 5002) O (xx_dt dd_X14_digest 86 rfl) cl_X14 fl_X14_27 (lm_mod (σ := σ)) (by decide) rfl ?_
    refine sw_callVL (ci := 6) (as := []) (st := [.int (nI B)]) (st2 := [.int (nI B), .int (nI B)]) O (ct_AL_size hl (lm_5002 (σ := σ) (B := B) hB (by omega))) ce_Jx4a65c_size_8abf5 ml_X14_57 iv_Jx4a65c_size_8abf5 cl_Jx4a65c rfl (lm_5002 (σ := σ) (B := B) hB (by omega)) (xx_dt dd_X14_digest 87 rfl) (by decide) rfl rfl (Nat.le_of_ble_eq_true rfl) rfl ?_
    refine sw_icmp_ge (tgt := 327) O (xx_dt dd_X14_digest 88 rfl) (by decide) (fun _ => ?_) (fun q => absurd (Int32.le_refl _) q)
    exact kk
theorem nI_prd1 {a : Nat} (ha : 0 < a) : nI a - 1 = nI (a - 1) := by
  obtain ⟨b, rfl⟩ : ∃ b, a = b + 1 := ⟨a - 1, by omega⟩
  rw [nI_s1]
  rfl
def x_dig_361 (σ : XS9) (R B K : Nat) (y0 : Int64) : Int64 := xit (fun i361 y361 => (y361 * 31) + (Int32.toInt64 (σ (6000 + (K - 1)) i361))) R 0 y0
def x_dig_395 (σ : XS9) (R B K : Nat) (y0 : Int64) : Int64 := xit (fun i395 y395 => (y395 * 31) + (Int32.toInt64 (σ (6100 + (K - 1)) i395))) B 0 y0
def x_digC (σ : XS9) (R B K : Nat) (y0 : Int64) : Int64 := if K = 0 then y0 else x_dig_395 σ R B K (x_dig_361 σ R B K y0)
theorem dgC {Y : XY} {l : Launch} {h : XH} (O : xx_O Y m_X14_digest l 22) (hl : l.stackTraces = false) {z : Int64} {σ : XS9} (hbs : xx_bs h) {R : Nat} (hR : σ 5001 900 = nI R) (hR5 : R ≤ 5) {B : Nat} (hB : σ 5002 900 = nI B) (hB6 : B ≤ 6) {K : Nat} (hK : σ 5003 900 = nI K) (hK60 : K ≤ 60) {k n : Nat} (kk : SW Y k n (setM (x_digC σ R B K z) σ h) 426 [.ref 5000, xx_d, xx_d, xx_d, xx_d, xx_d] []) : SW Y k n (setM z σ h) 327 [.ref 5000, xx_d, xx_d, xx_d, xx_d, xx_d] [] := by
  unfold x_digC at kk
  refine sw_aload_n O (xx_dt dd_X14_digest 168 rfl) rfl ?_
  refine sw_get (v := .ref 5003) O (xx_dt dd_X14_digest 169 rfl) cl_X14 fl_X14_30 (lm_mod (σ := σ)) (by decide) rfl ?_
  refine sw_callVL (ci := 6) (as := []) (st := []) (st2 := [.int (bZ (K = 0))]) O (ct_AL_isEmpty hl (lm_5003 (σ := σ) (K := K) hK (by omega)) (by omega)) ce_Jx4a65c_isEmpty_aae02 ml_X14_133 iv_Jx4a65c_isEmpty_aae02 cl_Jx4a65c rfl (lm_5003 (σ := σ) (K := K) hK (by omega)) (xx_dt dd_X14_digest 170 rfl) (by decide) rfl rfl (Nat.le_of_ble_eq_true rfl) rfl ?_
  refine sw_if_neB (tgt := 426) O (xx_dt dd_X14_digest 171 rfl) (by decide) (fun q => ?_) (fun q => ?_)
  · rw [if_pos q] at kk
    exact kk
  · rw [if_neg q] at kk
    refine sw_aload_n O (xx_dt dd_X14_digest 172 rfl) rfl ?_
    refine sw_get (v := .ref 5003) O (xx_dt dd_X14_digest 173 rfl) cl_X14 fl_X14_30 (lm_mod (σ := σ)) (by decide) rfl ?_
    refine sw_aload_n O (xx_dt dd_X14_digest 174 rfl) rfl ?_
    refine sw_get (v := .ref 5003) O (xx_dt dd_X14_digest 175 rfl) cl_X14 fl_X14_30 (lm_mod (σ := σ)) (by decide) rfl ?_
    refine sw_callVL (ci := 6) (as := []) (st := [.ref 5003]) (st2 := [.int (nI K), .ref 5003]) O (ct_AL_size hl (lm_5003 (σ := σ) (K := K) hK (by omega))) ce_Jx4a65c_size_8abf5 ml_X14_57 iv_Jx4a65c_size_8abf5 cl_Jx4a65c rfl (lm_5003 (σ := σ) (K := K) hK (by omega)) (xx_dt dd_X14_digest 176 rfl) (by decide) rfl rfl (Nat.le_of_ble_eq_true rfl) rfl ?_
    refine sw_iconst (x := 1) O (xx_dt dd_X14_digest 177 rfl) (by decide) ?_
    refine sw_isub O (xx_dt dd_X14_digest 178 rfl) ?_
    have hx349 := trivial
    rw [nI_prd1 (by omega)]
    refine sw_callVL (ci := 6) (as := [.int (nI ((K - 1)))]) (st := []) (st2 := [.ref (5200 + (K - 1))]) O (ct_get hl hbs (lm_5003 (σ := σ) (K := K) hK (by omega)) (by omega) (i := (K - 1)) (x := 5200 + (K - 1)) (by omega) (by omega) rfl) ce_Jx4a65c_get_915e3 ml_X14_61 iv_Jx4a65c_get_915e3 cl_Jx4a65c rfl (lm_5003 (σ := σ) (K := K) hK (by omega)) (xx_dt dd_X14_digest 179 rfl) (by decide) rfl rfl (Nat.le_of_ble_eq_true rfl) rfl ?_
    refine sw_castO O (xx_dt dd_X14_digest 180 rfl) cl_X13 (lm_rnd (σ := σ) (K := K) hK (by omega) (j := (K - 1)) (by omega)) cw_X14_172 ?_
    refine sw_astore (ls2 := [.ref 5000, xx_d, xx_d, xx_d, .ref (5200 + (K - 1)), xx_d]) O (xx_dt dd_X14_digest 181 rfl) (by decide) rfl ?_
    refine sw_iconst (x := 0) O (xx_dt dd_X14_digest 182 rfl) (by decide) ?_
    refine sw_istore (ls2 := [.ref 5000, xx_d, xx_d, xx_d, .ref (5200 + (K - 1)), .int 0]) O (xx_dt dd_X14_digest 183 rfl) (by decide) rfl ?_
    refine sw_for (S := Int64) (fun i361 y361 => (y361 * 31) + (Int32.toInt64 (σ (6000 + (K - 1)) i361))) (fun _ _ => True) (hp := fun y => setM y σ h) (hd := 361) (lc := fun i361 _ => [.ref 5000, xx_d, xx_d, xx_d, .ref (5200 + (K - 1)), .int (nI i361)]) (N := R) (fun i361 y361 hi361 _ => ⟨trivial, fun kk361 => ?_⟩) R 0 z (by omega) trivial (fun _ => ?_)
    · refine sw_iload O (xx_dt dd_X14_digest 184 rfl) rfl ?_
      refine sw_aload_n O (xx_dt dd_X14_digest 185 rfl) rfl ?_
      refine sw_get (v := .ref 5001) O (xx_dt dd_X14_digest 186 rfl) cl_X14 fl_X14_23 (lm_mod (σ := σ)) (by decide) rfl ?_
      refine sw_callVL (ci := 6) (as := []) (st := [.int (nI i361)]) (st2 := [.int (nI R), .int (nI i361)]) O (ct_AL_size hl (lm_5001 (σ := σ) (R := R) hR (by omega))) ce_Jx4a65c_size_8abf5 ml_X14_57 iv_Jx4a65c_size_8abf5 cl_Jx4a65c rfl (lm_5001 (σ := σ) (R := R) hR (by omega)) (xx_dt dd_X14_digest 187 rfl) (by decide) rfl rfl (Nat.le_of_ble_eq_true rfl) rfl ?_
      refine sw_icmp_ge (tgt := 392) O (xx_dt dd_X14_digest 188 rfl) (by decide) (fun q => absurd q (nI_ge (b := R) hi361 (by omega))) (fun _ => ?_)
      refine sw_aload_n O (xx_dt dd_X14_digest 189 rfl) rfl ?_
      refine sw_aload O (xx_dt dd_X14_digest 190 rfl) rfl ?_
      refine sw_get (v := .ref (6000 + (K - 1))) O (xx_dt dd_X14_digest 191 rfl) cl_X13 fl_X14_183 (lm_rnd (σ := σ) (K := K) hK (by omega) (j := (K - 1)) (by omega)) (by decide) (congrArg Value.ref (show 5200 + (K - 1) + 700 + 100 * 1 = 6000 + (K - 1) by omega)) ?_
      refine sw_iload O (xx_dt dd_X14_digest 192 rfl) rfl ?_
      refine sw_iaload (v := .int (σ (6000 + (K - 1)) i361)) O (xx_dt dd_X14_digest 193 rfl) ((im_rpr (z := y361) (σ := σ) (R := R) hR (by omega) (K := K) hK (by omega) (j := (K - 1)) (by omega)).get _) (pk_in i361 _ (by omega)) (by rw [nI_clamp (by omega)]; try exact rfl) ?_
      refine sw_i2l O (xx_dt dd_X14_digest 194 rfl) ?_
      refine sw_callVx (as := [.long (Int32.toInt64 (σ (6000 + (K - 1)) i361))]) (st := []) (st2 := []) O (ct_X14_add hl (z := y361) (σ := σ) (v := Int32.toInt64 (σ (6000 + (K - 1)) i361))) ce_X14_add ml_X14_415 iv_X14_add cl_X14 rfl (lm_mod (σ := σ)) (xx_dt dd_X14_digest 195 rfl) (by decide) rfl rfl (Nat.le_of_ble_eq_true rfl) rfl ?_
      refine sw_iinc (y := nI (i361 + 1)) (ls2 := [.ref 5000, xx_d, xx_d, xx_d, .ref (5200 + (K - 1)), .int (nI (i361 + 1))]) O (xx_dt dd_X14_digest 196 rfl) rfl (nI_1 _) (by decide) rfl ?_
      refine sw_goto (tgt := 361) O (xx_dt dd_X14_digest 197 rfl) (by decide) ?_
      exact kk361
    · show SW Y _ _ (setM (x_dig_361 σ R B K z) σ h) 361 [.ref 5000, xx_d, xx_d, xx_d, .ref (5200 + (K - 1)), .int (nI R)] []
      refine sw_iload O (xx_dt dd_X14_digest 184 rfl) rfl ?_
      refine sw_aload_n O (xx_dt dd_X14_digest 185 rfl) rfl ?_
      refine sw_get (v := .ref 5001) O (xx_dt dd_X14_digest 186 rfl) cl_X14 fl_X14_23 (lm_mod (σ := σ)) (by decide) rfl ?_
      refine sw_callVL (ci := 6) (as := []) (st := [.int (nI R)]) (st2 := [.int (nI R), .int (nI R)]) O (ct_AL_size hl (lm_5001 (σ := σ) (R := R) hR (by omega))) ce_Jx4a65c_size_8abf5 ml_X14_57 iv_Jx4a65c_size_8abf5 cl_Jx4a65c rfl (lm_5001 (σ := σ) (R := R) hR (by omega)) (xx_dt dd_X14_digest 187 rfl) (by decide) rfl rfl (Nat.le_of_ble_eq_true rfl) rfl ?_
      refine sw_icmp_ge (tgt := 392) O (xx_dt dd_X14_digest 188 rfl) (by decide) (fun _ => ?_) (fun q => absurd (Int32.le_refl _) q)
      refine sw_iconst (x := 0) O (xx_dt dd_X14_digest 198 rfl) (by decide) ?_
      refine sw_istore (ls2 := [.ref 5000, xx_d, xx_d, xx_d, .ref (5200 + (K - 1)), .int 0]) O (xx_dt dd_X14_digest 199 rfl) (by decide) rfl ?_
      refine sw_for (S := Int64) (fun i395 y395 => (y395 * 31) + (Int32.toInt64 (σ (6100 + (K - 1)) i395))) (fun _ _ => True) (hp := fun y => setM y σ h) (hd := 395) (lc := fun i395 _ => [.ref 5000, xx_d, xx_d, xx_d, .ref (5200 + (K - 1)), .int (nI i395)]) (N := B) (fun i395 y395 hi395 _ => ⟨trivial, fun kk395 => ?_⟩) B 0 (x_dig_361 σ R B K z) (by omega) trivial (fun _ => ?_)
      · refine sw_iload O (xx_dt dd_X14_digest 200 rfl) rfl ?_
        refine sw_aload_n O (xx_dt dd_X14_digest 201 rfl) rfl ?_
        refine sw_get (v := .ref 5002) O (xx_dt dd_X14_digest 202 rfl) cl_X14 fl_X14_27 (lm_mod (σ := σ)) (by decide) rfl ?_
        refine sw_callVL (ci := 6) (as := []) (st := [.int (nI i395)]) (st2 := [.int (nI B), .int (nI i395)]) O (ct_AL_size hl (lm_5002 (σ := σ) (B := B) hB (by omega))) ce_Jx4a65c_size_8abf5 ml_X14_57 iv_Jx4a65c_size_8abf5 cl_Jx4a65c rfl (lm_5002 (σ := σ) (B := B) hB (by omega)) (xx_dt dd_X14_digest 203 rfl) (by decide) rfl rfl (Nat.le_of_ble_eq_true rfl) rfl ?_
        refine sw_icmp_ge (tgt := 426) O (xx_dt dd_X14_digest 204 rfl) (by decide) (fun q => absurd q (nI_ge (b := B) hi395 (by omega))) (fun _ => ?_)
        refine sw_aload_n O (xx_dt dd_X14_digest 205 rfl) rfl ?_
        refine sw_aload O (xx_dt dd_X14_digest 206 rfl) rfl ?_
        refine sw_get (v := .ref (6100 + (K - 1))) O (xx_dt dd_X14_digest 207 rfl) cl_X13 fl_X14_184 (lm_rnd (σ := σ) (K := K) hK (by omega) (j := (K - 1)) (by omega)) (by decide) (congrArg Value.ref (show 5200 + (K - 1) + 700 + 100 * 2 = 6100 + (K - 1) by omega)) ?_
        refine sw_iload O (xx_dt dd_X14_digest 208 rfl) rfl ?_
        refine sw_iaload (v := .int (σ (6100 + (K - 1)) i395)) O (xx_dt dd_X14_digest 209 rfl) ((im_rwi (z := y395) (σ := σ) (K := K) hK (by omega) (j := (K - 1)) (by omega)).get _) (pk_in i395 _ (by omega)) (by rw [nI_clamp (by omega)]; try exact rfl) ?_
        refine sw_i2l O (xx_dt dd_X14_digest 210 rfl) ?_
        refine sw_callVx (as := [.long (Int32.toInt64 (σ (6100 + (K - 1)) i395))]) (st := []) (st2 := []) O (ct_X14_add hl (z := y395) (σ := σ) (v := Int32.toInt64 (σ (6100 + (K - 1)) i395))) ce_X14_add ml_X14_415 iv_X14_add cl_X14 rfl (lm_mod (σ := σ)) (xx_dt dd_X14_digest 211 rfl) (by decide) rfl rfl (Nat.le_of_ble_eq_true rfl) rfl ?_
        refine sw_iinc (y := nI (i395 + 1)) (ls2 := [.ref 5000, xx_d, xx_d, xx_d, .ref (5200 + (K - 1)), .int (nI (i395 + 1))]) O (xx_dt dd_X14_digest 212 rfl) rfl (nI_1 _) (by decide) rfl ?_
        refine sw_goto (tgt := 395) O (xx_dt dd_X14_digest 213 rfl) (by decide) ?_
        exact kk395
      · show SW Y _ _ (setM (x_dig_395 σ R B K (x_dig_361 σ R B K z)) σ h) 395 [.ref 5000, xx_d, xx_d, xx_d, .ref (5200 + (K - 1)), .int (nI B)] []
        refine sw_iload O (xx_dt dd_X14_digest 200 rfl) rfl ?_
        refine sw_aload_n O (xx_dt dd_X14_digest 201 rfl) rfl ?_
        refine sw_get (v := .ref 5002) O (xx_dt dd_X14_digest 202 rfl) cl_X14 fl_X14_27 (lm_mod (σ := σ)) (by decide) rfl ?_
        refine sw_callVL (ci := 6) (as := []) (st := [.int (nI B)]) (st2 := [.int (nI B), .int (nI B)]) O (ct_AL_size hl (lm_5002 (σ := σ) (B := B) hB (by omega))) ce_Jx4a65c_size_8abf5 ml_X14_57 iv_Jx4a65c_size_8abf5 cl_Jx4a65c rfl (lm_5002 (σ := σ) (B := B) hB (by omega)) (xx_dt dd_X14_digest 203 rfl) (by decide) rfl rfl (Nat.le_of_ble_eq_true rfl) rfl ?_
        refine sw_icmp_ge (tgt := 426) O (xx_dt dd_X14_digest 204 rfl) (by decide) (fun _ => ?_) (fun q => absurd (Int32.le_refl _) q)
        refine sw_dum (ls2 := [.ref 5000, xx_d, xx_d, xx_d, xx_d, xx_d]) ⟨.inr rfl, .inr rfl, .inr rfl, .inr rfl, .inl rfl, .inl rfl, trivial⟩ ?_
        exact kk
theorem ct_clearNow {l : Launch} {h : XH} (hl : l.stackTraces = false) {z : Int64} {σ : XS9} (hbs : xx_bs h) (hfr : ∀ r, 5000 ≤ r → r < 20010 → h r = none) (hme : mem_eq σ σ) {R : Nat} (hR : σ 5001 900 = nI R) (hR5 : R ≤ 5) {C : Nat} (hS : σ 5004 900 = nI (2 * C)) (hC10 : C ≤ 10) {rg : Nat → Nat} (hrg : ∀ q, q < C → σ 5004 (2 * q) = nI (rg q) ∧ rg q < R) {ch : Nat} (hch : ch ≤ 6) : XEx l m_X14_clearNow 18 1 6 [.ref 5000, .int (nI ch)] (setM z σ h) (some (.int (f_MclearNow σ ch R C rg))) (setM z σ h) := by
  have t := ct_X14_clearNow hl (z := z) (σ := σ) hbs hfr hme hR hR5 hS hC10 hrg hch
  have e20 : g_MclearNow σ ch R C rg 20000 20 = 0 := by unfold g_MclearNow; exact u2_v
  have F : ∀ q, q ≠ 20000 → g_MclearNow σ ch R C rg q = σ q := fun q hq => fr_MclearNow ⟨hq, hch⟩
  rwa [setM_same (σ := σ) (τ := g_MclearNow σ ch R C rg) (mem_eq.frame (τ0 := σ) hme (fun q _ h2 _ => F q (by omega)) (by rw [F 9000 (by omega)]; exact hme.2.1.1.1) (fun q h1 h2 => by
    by_cases e : q = 20000
    · rw [e]; exact e20
    · rw [F q e]; exact (hme.2.2 q h1 h2).1)) (fun q _ h2 => F q (by omega))] at t
def x_digD (σ : XS9) (R C : Nat) (rg : Nat → Nat) (y0 : Int64) : Int64 := if 2 * C = 0 then y0 else (((y0 * 31) + (Int32.toInt64 (f_MclearNow σ 1 R C rg))) * 31) + (Int32.toInt64 (f_MclearNow σ 2 R C rg))
theorem dgD {Y : XY} {l : Launch} {h : XH} (O : xx_O Y m_X14_digest l 22) (hl : l.stackTraces = false) {z : Int64} {σ : XS9} (hbs : xx_bs h) (hfr : ∀ r, 5000 ≤ r → r < 20010 → h r = none) (hme : mem_eq σ σ) {R : Nat} (hR : σ 5001 900 = nI R) (hR5 : R ≤ 5) {C : Nat} (hS : σ 5004 900 = nI (2 * C)) (hC10 : C ≤ 10) {rg : Nat → Nat} (hrg : ∀ q, q < C → σ 5004 (2 * q) = nI (rg q) ∧ rg q < R) {k n : Nat} (kk : SW Y k n (setM (x_digD σ R C rg z) σ h) 456 [.ref 5000, xx_d, xx_d, xx_d, xx_d, xx_d] []) : SW Y (k + 2) (n + 12) (setM z σ h) 426 [.ref 5000, xx_d, xx_d, xx_d, xx_d, xx_d] [] := by
  unfold x_digD at kk
  obtain ⟨kT, ekT⟩ : ∃ q, q = k + 2 := ⟨_, rfl⟩
  obtain ⟨nT, enT⟩ : ∃ q, q = n + 12 := ⟨_, rfl⟩
  refine xx_wid (k' := kT) (n' := nT) (by omega) (by omega) ?_
  refine sw_aload_n O (xx_dt dd_X14_digest 214 rfl) rfl ?_
  refine sw_get (v := .ref 5004) O (xx_dt dd_X14_digest 215 rfl) cl_X14 fl_X14_33 (lm_mod (σ := σ)) (by decide) rfl ?_
  refine sw_callVL (ci := 6) (as := []) (st := []) (st2 := [.int (bZ (2 * C = 0))]) O (ct_AL_isEmpty hl (lm_5004 (σ := σ) (S := 2 * C) hS (by omega)) (by omega)) ce_Jx4a65c_isEmpty_aae02 ml_X14_133 iv_Jx4a65c_isEmpty_aae02 cl_Jx4a65c rfl (lm_5004 (σ := σ) (S := 2 * C) hS (by omega)) (xx_dt dd_X14_digest 216 rfl) (by decide) rfl rfl (Nat.le_of_ble_eq_true rfl) rfl ?_
  refine sw_if_neB (tgt := 456) O (xx_dt dd_X14_digest 217 rfl) (by decide) (fun q => ?_) (fun q => ?_)
  · rw [if_pos q] at kk
    refine xx_wid (k' := k) (n' := n) (by omega) (by omega) ?_
    exact kk
  · rw [if_neg q] at kk
    refine xx_wid (k' := (k + 1) + 1) (n' := (n + 6) + 6) (by omega) (by omega) ?_
    refine sw_aload_n O (xx_dt dd_X14_digest 218 rfl) rfl ?_
    refine sw_aload_n O (xx_dt dd_X14_digest 219 rfl) rfl ?_
    refine sw_iconst (x := 1) O (xx_dt dd_X14_digest 220 rfl) (by decide) ?_
    refine sw_callVx (k := k + 1) (n := n + 6) (k' := 1) (n' := 6) (as := [.int 1]) (st := [.ref 5000]) (st2 := [.int (f_MclearNow σ 1 R C rg), .ref 5000]) O ((show XEx _ _ _ _ _ [_, .int 1] _ _ _ from ct_clearNow hl (z := z) (σ := σ) hbs hfr hme (R := R) hR (by omega) (C := C) hS (by omega) (rg := rg) hrg (ch := 1) (by omega))) ce_X14_clearNow ml_X14_287 iv_X14_clearNow cl_X14 rfl (lm_mod (σ := σ)) (xx_dt dd_X14_digest 221 rfl) (by decide) rfl rfl (Nat.le_of_ble_eq_true rfl) rfl ?_
    obtain ⟨kT, ekT⟩ : ∃ q, q = k + 1 := ⟨_, rfl⟩
    obtain ⟨nT, enT⟩ : ∃ q, q = n + 6 := ⟨_, rfl⟩
    refine xx_wid (k' := kT) (n' := nT) (by omega) (by omega) ?_
    refine sw_i2l O (xx_dt dd_X14_digest 222 rfl) ?_
    refine sw_callVx (as := [.long (Int32.toInt64 (f_MclearNow σ 1 R C rg))]) (st := []) (st2 := []) O (ct_X14_add hl (z := z) (σ := σ) (v := Int32.toInt64 (f_MclearNow σ 1 R C rg))) ce_X14_add ml_X14_415 iv_X14_add cl_X14 rfl (lm_mod (σ := σ)) (xx_dt dd_X14_digest 223 rfl) (by decide) rfl rfl (Nat.le_of_ble_eq_true rfl) rfl ?_
    refine sw_aload_n O (xx_dt dd_X14_digest 224 rfl) rfl ?_
    refine sw_aload_n O (xx_dt dd_X14_digest 225 rfl) rfl ?_
    refine sw_iconst (x := 2) O (xx_dt dd_X14_digest 226 rfl) (by decide) ?_
    refine xx_wid (k' := k + 1) (n' := n + 6) (by omega) (by omega) ?_
    refine sw_callVx (k := k) (n := n) (k' := 1) (n' := 6) (as := [.int 2]) (st := [.ref 5000]) (st2 := [.int (f_MclearNow σ 2 R C rg), .ref 5000]) O ((show XEx _ _ _ _ _ [_, .int 2] _ _ _ from ct_clearNow hl (z := (z * 31) + (Int32.toInt64 (f_MclearNow σ 1 R C rg))) (σ := σ) hbs hfr hme (R := R) hR (by omega) (C := C) hS (by omega) (rg := rg) hrg (ch := 2) (by omega))) ce_X14_clearNow ml_X14_287 iv_X14_clearNow cl_X14 rfl (lm_mod (σ := σ)) (xx_dt dd_X14_digest 227 rfl) (by decide) rfl rfl (Nat.le_of_ble_eq_true rfl) rfl ?_
    refine sw_i2l O (xx_dt dd_X14_digest 228 rfl) ?_
    refine sw_callVx (as := [.long (Int32.toInt64 (f_MclearNow σ 2 R C rg))]) (st := []) (st2 := []) O (ct_X14_add hl (z := (z * 31) + (Int32.toInt64 (f_MclearNow σ 1 R C rg))) (σ := σ) (v := Int32.toInt64 (f_MclearNow σ 2 R C rg))) ce_X14_add ml_X14_415 iv_X14_add cl_X14 rfl (lm_mod (σ := σ)) (xx_dt dd_X14_digest 229 rfl) (by decide) rfl rfl (Nat.le_of_ble_eq_true rfl) rfl ?_
    exact kk
def x_digE (v : Int32) (y0 : Int64) : Int64 := if v = 0 then (y0 * 31) + (Int64.ofNat (0 : Fin 2)) else (y0 * 31) + (Int64.ofNat (1 : Fin 2))
theorem dgE {Y : XY} {l : Launch} {h : XH} (O : xx_O Y m_X14_digest l 22) (hl : l.stackTraces = false) {z : Int64} {σ : XS9} {v : Int32} (hs : ∀ y, XEx l m_X14_isSoundNow 12 495 8668 [.ref 5000] (setM y σ h) (some (.int v)) (setM y σ h)) (hq : xy_Q Y (.inl (some (.long (x_digE v z)))) (setM (x_digE v z) σ h)) : SW Y 495 8668 (setM z σ h) 456 [.ref 5000, xx_d, xx_d, xx_d, xx_d, xx_d] [] := by
  refine sw_aload_n O (xx_dt dd_X14_digest 230 rfl) rfl ?_
  refine sw_aload_n O (xx_dt dd_X14_digest 231 rfl) rfl ?_
  refine xx_wid (k' := 0 + 495) (n' := 0 + 8668) (by omega) (by omega) ?_
  refine sw_callVx (k := 0) (n := 0) (k' := 495) (n' := 8668) (as := []) (st := [.ref 5000]) (st2 := [.int v, .ref 5000]) O (hs _) ce_X14_isSoundNow ml_X14_404 iv_X14_isSoundNow cl_X14 rfl (lm_mod (σ := σ)) (xx_dt dd_X14_digest 232 rfl) (by decide) rfl rfl (Nat.le_of_ble_eq_true rfl) rfl ?_
  refine sw_if_eq (tgt := 468) O (xx_dt dd_X14_digest 233 rfl) (by decide) (fun q => ?_) (fun q => ?_)
  · refine sw_lconst O (xx_dt dd_X14_digest 236 rfl) ?_
    refine sw_callVx (as := [.long (Int64.ofNat (0 : Fin 2))]) (st := []) (st2 := []) O (ct_X14_add hl (z := z) (σ := σ) (v := Int64.ofNat (0 : Fin 2))) ce_X14_add ml_X14_415 iv_X14_add cl_X14 rfl (lm_mod (σ := σ)) (xx_dt dd_X14_digest 237 rfl) (by decide) rfl rfl (Nat.le_of_ble_eq_true rfl) rfl ?_
    refine sw_aload_n O (xx_dt dd_X14_digest 238 rfl) rfl ?_
    refine sw_get (v := .long ((z * 31) + (Int64.ofNat (0 : Fin 2)))) O (xx_dt dd_X14_digest 239 rfl) cl_X14 fl_X14_407 (lm_mod (σ := σ)) (by decide) rfl ?_
    exact sw_lret O (xx_dt dd_X14_digest 240 rfl) rfl (by unfold x_digE at hq; rw [if_pos q] at hq; exact hq)
  · refine sw_lconst O (xx_dt dd_X14_digest 234 rfl) ?_
    refine sw_goto (tgt := 469) O (xx_dt dd_X14_digest 235 rfl) (by decide) ?_
    refine sw_callVx (as := [.long (Int64.ofNat (1 : Fin 2))]) (st := []) (st2 := []) O (ct_X14_add hl (z := z) (σ := σ) (v := Int64.ofNat (1 : Fin 2))) ce_X14_add ml_X14_415 iv_X14_add cl_X14 rfl (lm_mod (σ := σ)) (xx_dt dd_X14_digest 237 rfl) (by decide) rfl rfl (Nat.le_of_ble_eq_true rfl) rfl ?_
    refine sw_aload_n O (xx_dt dd_X14_digest 238 rfl) rfl ?_
    refine sw_get (v := .long ((z * 31) + (Int64.ofNat (1 : Fin 2)))) O (xx_dt dd_X14_digest 239 rfl) cl_X14 fl_X14_407 (lm_mod (σ := σ)) (by decide) rfl ?_
    exact sw_lret O (xx_dt dd_X14_digest 240 rfl) rfl (by unfold x_digE at hq; rw [if_neg q] at hq; exact hq)
