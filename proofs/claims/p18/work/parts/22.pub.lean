section
/-! ===== public methods ===== -/
theorem fr_addRegion {σ : XS9} {R : Nat} {x y z : Int32} {q : Nat} (h : q ≠ 1001 ∧ q ≠ 1010 ∧ q ≠ 1011 ∧ q ≠ 1012) : g_addRegion σ x y z R q = σ q := by
  unfold g_addRegion
  (repeat' split) <;> first | rfl | simp (disch := omega) only [u2_ne, uR_ne, fr_fill, fr_useWaiver, fr_undoContradictions, fr_lowerEligible, fr_moveHeld, fr_raisePrices, fr_begin, fr_closeRound, fr_moveTaken, fr_findDisturbed]
theorem fr_addBidder {σ : XS9} {B : Nat} {x y z w : Int32} {q : Nat} (h : q ≠ 1001 ∧ q ≠ 1014 ∧ q ≠ 1015 ∧ q ≠ 1016 ∧ q ≠ 1017) : g_addBidder σ x y z w B q = σ q := by
  unfold g_addBidder
  (repeat' split) <;> first | rfl | simp (disch := omega) only [u2_ne, uR_ne, fr_fill, fr_useWaiver, fr_undoContradictions, fr_lowerEligible, fr_moveHeld, fr_raisePrices, fr_begin, fr_closeRound, fr_moveTaken, fr_findDisturbed, fr_addRegion]
def o_region (σ : XS9) (x y z : Int32) (R : Nat) : Int32 ⊕ String := (if n_bt x 1 5 then (if n_bt y 1 9 then (if n_bt z 1 999 then (if σ 1000 7 = 0 then (if (nI R) < 5 then .inl (f_addRegion σ x y z R) else .inr eISE) else .inr eISE) else .inr eIAE) else .inr eIAE) else .inr eIAE)
def g_region (σ : XS9) (x y z : Int32) (R : Nat) : XS9 := (if n_bt x 1 5 then (if n_bt y 1 9 then (if n_bt z 1 999 then (if σ 1000 7 = 0 then (if (nI R) < 5 then g_begin (g_addRegion σ x y z R) 2000 else σ) else σ) else σ) else σ) else σ)
theorem ct_X7_region {l : Launch} {h : XH} (hl : l.stackTraces = false) {σ : XS9} {R : Nat} (hR : σ 1001 4 = nI R) (hR5 : R ≤ 5) {x y z : Int32} : XEo l m_X7_region 7 1 6 [.ref 1000, .int x, .int y, .int z] (setC σ h) ((xoi (o_region σ x y z R))) (setC (g_region σ x y z R) h) := by
  refine XMet.of hl rfl rfl (Nat.le_of_ble_eq_true rfl) (fun Y O hh hQ => ?_)
  show SW Y 1 6 (setC σ h) 0 [.ref 1000, .int x, .int y, .int z, xx_d] []
  refine sw_iload_n O (xx_dt dd_X7_region 0 rfl) rfl ?_
  refine sw_iconst (x := 1) O (xx_dt dd_X7_region 1 rfl) (by decide) ?_
  refine sw_iconst (x := 5) O (xx_dt dd_X7_region 2 rfl) (by decide) ?_
  by_cases q1 : n_bt x 1 5
  · refine sw_callSx (as := [.int x, .int 1, .int 5]) (st := []) (st2 := []) (k' := 0) (n' := 0) O (ct_X7_needBetween_ok hl  q1) ce_X7_needBetween ml_X7_61 st_X7_needBetween (xx_dt dd_X7_region 3 rfl) (by decide) rfl rfl (Nat.le_of_ble_eq_true rfl) rfl ?_
    refine sw_iload_n O (xx_dt dd_X7_region 4 rfl) rfl ?_
    refine sw_iconst (x := 1) O (xx_dt dd_X7_region 5 rfl) (by decide) ?_
    refine sw_bipush (x := 9) O (xx_dt dd_X7_region 6 rfl) (by decide) ?_
    by_cases q2 : n_bt y 1 9
    · refine sw_callSx (as := [.int y, .int 1, .int 9]) (st := []) (st2 := []) (k' := 0) (n' := 0) O (ct_X7_needBetween_ok hl  q2) ce_X7_needBetween ml_X7_61 st_X7_needBetween (xx_dt dd_X7_region 7 rfl) (by decide) rfl rfl (Nat.le_of_ble_eq_true rfl) rfl ?_
      refine sw_iload_n O (xx_dt dd_X7_region 8 rfl) rfl ?_
      refine sw_iconst (x := 1) O (xx_dt dd_X7_region 9 rfl) (by decide) ?_
      refine sw_sipush (x := 999) O (xx_dt dd_X7_region 10 rfl) (by decide) ?_
      by_cases q3 : n_bt z 1 999
      · refine sw_callSx (as := [.int z, .int 1, .int 999]) (st := []) (st2 := []) (k' := 0) (n' := 0) O (ct_X7_needBetween_ok hl  q3) ce_X7_needBetween ml_X7_61 st_X7_needBetween (xx_dt dd_X7_region 11 rfl) (by decide) rfl rfl (Nat.le_of_ble_eq_true rfl) rfl ?_
        refine sw_aload_n O (xx_dt dd_X7_region 12 rfl) rfl ?_
        refine sw_iconst (x := 0) O (xx_dt dd_X7_region 13 rfl) (by decide) ?_
        by_cases q4 : σ 1000 7 = 0
        · refine sw_callVx (as := [.int 0]) (st := []) (st2 := []) (k' := 0) (n' := 0) O (ct_X7_needStage_ok hl (σ := σ) q4) ce_X7_needStage ml_X7_65 iv_X7_needStage cl_X7 rfl (ly_1000 σ h) (xx_dt dd_X7_region 14 rfl) (by decide) rfl rfl (Nat.le_of_ble_eq_true rfl) rfl ?_
          refine sw_aload_n O (xx_dt dd_X7_region 15 rfl) rfl ?_
          refine sw_get (v := .ref 1001) O (xx_dt dd_X7_region 16 rfl) cl_X7 fl_X7_12 (ly_1000 σ h) (by decide) rfl ?_
          refine sw_get (v := .int (nI R)) O (xx_dt dd_X7_region 17 rfl) cl_X6 fl_X7_69 (ly_1001 σ h) (by decide) (congrArg Value.int hR) ?_
          refine sw_iconst (x := 5) O (xx_dt dd_X7_region 18 rfl) (by decide) ?_
          refine sw_icmp_lt (tgt := 47) O (xx_dt dd_X7_region 19 rfl) (by decide) (fun q5 => ?_) (fun q5 => ?_)
          · have hfq5 : R < 5 := (nI_ltI (a := R) (b := 5) (by omega) (by omega)).mp q5
            refine sw_aload_n O (xx_dt dd_X7_region 25 rfl) rfl ?_
            refine sw_get (v := .ref 1001) O (xx_dt dd_X7_region 26 rfl) cl_X7 fl_X7_12 (ly_1000 σ h) (by decide) rfl ?_
            refine sw_iload_n O (xx_dt dd_X7_region 27 rfl) rfl ?_
            refine sw_iload_n O (xx_dt dd_X7_region 28 rfl) rfl ?_
            refine sw_iload_n O (xx_dt dd_X7_region 29 rfl) rfl ?_
            refine sw_callVx (as := [.int x, .int y, .int z]) (st := []) (st2 := [.int (f_addRegion σ x y z R)]) O (ct_X6_addRegion hl (σ := σ) (R := R) hR (by omega) (x := x) (y := y) (z := z)) ce_X6_addRegion ml_X7_79 iv_X6_addRegion cl_X6 rfl (ly_1001 σ h) (xx_dt dd_X7_region 30 rfl) (by decide) rfl rfl (Nat.le_of_ble_eq_true rfl) rfl ?_
            refine sw_istore (ls2 := [.ref 1000, .int x, .int y, .int z, .int (f_addRegion σ x y z R)]) O (xx_dt dd_X7_region 31 rfl) (by decide) rfl ?_
            refine sw_aload_n O (xx_dt dd_X7_region 32 rfl) rfl ?_
            refine sw_get (v := .ref 2000) O (xx_dt dd_X7_region 33 rfl) cl_X7 fl_X7_19 (ly_1000 (g_addRegion σ x y z R) h) (by decide) rfl ?_
            refine sw_aload_n O (xx_dt dd_X7_region 34 rfl) rfl ?_
            refine sw_get (v := .ref 1001) O (xx_dt dd_X7_region 35 rfl) cl_X7 fl_X7_12 (ly_1000 (g_addRegion σ x y z R) h) (by decide) rfl ?_
            refine sw_callVx (as := [.ref 1001]) (st := []) (st2 := []) O (ct_X1_begin hl (σ := g_addRegion σ x y z R) (b := 2000) (.inl rfl)  ) ce_X1_begin ml_X7_83 iv_X1_begin cl_X1 rfl (lk_0 (g_addRegion σ x y z R) h (.inl rfl)) (xx_dt dd_X7_region 36 rfl) (by decide) rfl rfl (Nat.le_of_ble_eq_true rfl) rfl ?_
            refine sw_iload O (xx_dt dd_X7_region 37 rfl) rfl ?_
            exact sw_iret O (xx_dt dd_X7_region 38 rfl) rfl rfl (by rw [hQ]; exact ⟨by unfold o_region; simp only [if_pos q1, if_pos q2, if_pos q3, if_pos q4, if_pos q5]; rfl, by unfold g_region; simp only [if_pos q1, if_pos q2, if_pos q3, if_pos q4, if_pos q5]⟩)
          · have hfq5 : ¬ R < 5 := fun e => q5 ((nI_ltI (a := R) (b := 5) (by omega) (by omega)).mpr e)
            exact sw_throw (k := 0) (n := 0) O ex_ISE th_X7_region_37 (xx_dt dd_X7_region 20 rfl) (xx_dt dd_X7_region 21 rfl) (xx_dt dd_X7_region 22 rfl) (xx_dt dd_X7_region 23 rfl) (xx_dt dd_X7_region 24 rfl) (by decide) (by decide) (by rw [hQ]; exact ⟨by unfold o_region; simp only [if_pos q1, if_pos q2, if_pos q3, if_pos q4, if_neg q5]; rfl, by unfold g_region; simp only [if_pos q1, if_pos q2, if_pos q3, if_pos q4, if_neg q5]⟩)
        · exact sw_callVt (as := [.int 0]) (st := []) (k := 0) (n := 0) (k' := 1) (n' := 6) O (ct_X7_needStage_no hl (σ := σ) q4) ce_X7_needStage ml_X7_65 iv_X7_needStage cl_X7 rfl (ly_1000 σ h) (xx_dt dd_X7_region 14 rfl) (by decide) rfl rfl (Nat.le_of_ble_eq_true rfl)  (by rw [hQ]; exact ⟨by unfold o_region; simp only [if_pos q1, if_pos q2, if_pos q3, if_neg q4]; rfl, by unfold g_region; simp only [if_pos q1, if_pos q2, if_pos q3, if_neg q4]⟩)
      · exact sw_callSt (as := [.int z, .int 1, .int 999]) (st := []) (k := 0) (n := 0) (k' := 1) (n' := 6) O (ct_X7_needBetween_no hl  q3) ce_X7_needBetween ml_X7_61 st_X7_needBetween (xx_dt dd_X7_region 11 rfl) (by decide) rfl rfl (Nat.le_of_ble_eq_true rfl)  (by rw [hQ]; exact ⟨by unfold o_region; simp only [if_pos q1, if_pos q2, if_neg q3]; rfl, by unfold g_region; simp only [if_pos q1, if_pos q2, if_neg q3]⟩)
    · exact sw_callSt (as := [.int y, .int 1, .int 9]) (st := []) (k := 0) (n := 0) (k' := 1) (n' := 6) O (ct_X7_needBetween_no hl  q2) ce_X7_needBetween ml_X7_61 st_X7_needBetween (xx_dt dd_X7_region 7 rfl) (by decide) rfl rfl (Nat.le_of_ble_eq_true rfl)  (by rw [hQ]; exact ⟨by unfold o_region; simp only [if_pos q1, if_neg q2]; rfl, by unfold g_region; simp only [if_pos q1, if_neg q2]⟩)
  · exact sw_callSt (as := [.int x, .int 1, .int 5]) (st := []) (k := 0) (n := 0) (k' := 1) (n' := 6) O (ct_X7_needBetween_no hl  q1) ce_X7_needBetween ml_X7_61 st_X7_needBetween (xx_dt dd_X7_region 3 rfl) (by decide) rfl rfl (Nat.le_of_ble_eq_true rfl)  (by rw [hQ]; exact ⟨by unfold o_region; simp only [if_neg q1]; rfl, by unfold g_region; simp only [if_neg q1]⟩)
def o_bidder (σ : XS9) (x y z v : Int32) (B : Nat) : Int32 ⊕ String := (if n_bt x 0 99999 then (if n_bt y 1 200 then (if n_bt z 0 30 then (if n_bt v 0 3 then (if σ 1000 7 = 0 then (if (nI B) < 6 then .inl (f_addBidder σ x y z v B) else .inr eISE) else .inr eISE) else .inr eIAE) else .inr eIAE) else .inr eIAE) else .inr eIAE)
def g_bidder (σ : XS9) (x y z v : Int32) (B : Nat) : XS9 := (if n_bt x 0 99999 then (if n_bt y 1 200 then (if n_bt z 0 30 then (if n_bt v 0 3 then (if σ 1000 7 = 0 then (if (nI B) < 6 then g_begin (g_addBidder σ x y z v B) 2000 else σ) else σ) else σ) else σ) else σ) else σ)
theorem ct_X7_bidder {l : Launch} {h : XH} (hl : l.stackTraces = false) {σ : XS9} {B : Nat} (hB : σ 1001 9 = nI B) (hB6 : B ≤ 6) {x y z v : Int32} : XEo l m_X7_bidder 7 1 6 [.ref 1000, .int x, .int y, .int z, .int v] (setC σ h) ((xoi (o_bidder σ x y z v B))) (setC (g_bidder σ x y z v B) h) := by
  refine XMet.of hl rfl rfl (Nat.le_of_ble_eq_true rfl) (fun Y O hh hQ => ?_)
  show SW Y 1 6 (setC σ h) 0 [.ref 1000, .int x, .int y, .int z, .int v, xx_d] []
  refine sw_iload_n O (xx_dt dd_X7_bidder 0 rfl) rfl ?_
  refine sw_iconst (x := 0) O (xx_dt dd_X7_bidder 1 rfl) (by decide) ?_
  refine sw_ldc O ct_X7_99 (xx_dt dd_X7_bidder 2 rfl) ?_
  by_cases q1 : n_bt x 0 99999
  · refine sw_callSx (as := [.int x, .int 0, .int 99999]) (st := []) (st2 := []) (k' := 0) (n' := 0) O (ct_X7_needBetween_ok hl  q1) ce_X7_needBetween ml_X7_61 st_X7_needBetween (xx_dt dd_X7_bidder 3 rfl) (by decide) rfl rfl (Nat.le_of_ble_eq_true rfl) rfl ?_
    refine sw_iload_n O (xx_dt dd_X7_bidder 4 rfl) rfl ?_
    refine sw_iconst (x := 1) O (xx_dt dd_X7_bidder 5 rfl) (by decide) ?_
    refine sw_sipush (x := 200) O (xx_dt dd_X7_bidder 6 rfl) (by decide) ?_
    by_cases q2 : n_bt y 1 200
    · refine sw_callSx (as := [.int y, .int 1, .int 200]) (st := []) (st2 := []) (k' := 0) (n' := 0) O (ct_X7_needBetween_ok hl  q2) ce_X7_needBetween ml_X7_61 st_X7_needBetween (xx_dt dd_X7_bidder 7 rfl) (by decide) rfl rfl (Nat.le_of_ble_eq_true rfl) rfl ?_
      refine sw_iload_n O (xx_dt dd_X7_bidder 8 rfl) rfl ?_
      refine sw_iconst (x := 0) O (xx_dt dd_X7_bidder 9 rfl) (by decide) ?_
      refine sw_bipush (x := 30) O (xx_dt dd_X7_bidder 10 rfl) (by decide) ?_
      by_cases q3 : n_bt z 0 30
      · refine sw_callSx (as := [.int z, .int 0, .int 30]) (st := []) (st2 := []) (k' := 0) (n' := 0) O (ct_X7_needBetween_ok hl  q3) ce_X7_needBetween ml_X7_61 st_X7_needBetween (xx_dt dd_X7_bidder 11 rfl) (by decide) rfl rfl (Nat.le_of_ble_eq_true rfl) rfl ?_
        refine sw_iload O (xx_dt dd_X7_bidder 12 rfl) rfl ?_
        refine sw_iconst (x := 0) O (xx_dt dd_X7_bidder 13 rfl) (by decide) ?_
        refine sw_iconst (x := 3) O (xx_dt dd_X7_bidder 14 rfl) (by decide) ?_
        by_cases q4 : n_bt v 0 3
        · refine sw_callSx (as := [.int v, .int 0, .int 3]) (st := []) (st2 := []) (k' := 0) (n' := 0) O (ct_X7_needBetween_ok hl  q4) ce_X7_needBetween ml_X7_61 st_X7_needBetween (xx_dt dd_X7_bidder 15 rfl) (by decide) rfl rfl (Nat.le_of_ble_eq_true rfl) rfl ?_
          refine sw_aload_n O (xx_dt dd_X7_bidder 16 rfl) rfl ?_
          refine sw_iconst (x := 0) O (xx_dt dd_X7_bidder 17 rfl) (by decide) ?_
          by_cases q5 : σ 1000 7 = 0
          · refine sw_callVx (as := [.int 0]) (st := []) (st2 := []) (k' := 0) (n' := 0) O (ct_X7_needStage_ok hl (σ := σ) q5) ce_X7_needStage ml_X7_65 iv_X7_needStage cl_X7 rfl (ly_1000 σ h) (xx_dt dd_X7_bidder 18 rfl) (by decide) rfl rfl (Nat.le_of_ble_eq_true rfl) rfl ?_
            refine sw_aload_n O (xx_dt dd_X7_bidder 19 rfl) rfl ?_
            refine sw_get (v := .ref 1001) O (xx_dt dd_X7_bidder 20 rfl) cl_X7 fl_X7_12 (ly_1000 σ h) (by decide) rfl ?_
            refine sw_get (v := .int (nI B)) O (xx_dt dd_X7_bidder 21 rfl) cl_X6 fl_X7_100 (ly_1001 σ h) (by decide) (congrArg Value.int hB) ?_
            refine sw_bipush (x := 6) O (xx_dt dd_X7_bidder 22 rfl) (by decide) ?_
            refine sw_icmp_lt (tgt := 56) O (xx_dt dd_X7_bidder 23 rfl) (by decide) (fun q6 => ?_) (fun q6 => ?_)
            · have hfq6 : B < 6 := (nI_ltI (a := B) (b := 6) (by omega) (by omega)).mp q6
              refine sw_aload_n O (xx_dt dd_X7_bidder 29 rfl) rfl ?_
              refine sw_get (v := .ref 1001) O (xx_dt dd_X7_bidder 30 rfl) cl_X7 fl_X7_12 (ly_1000 σ h) (by decide) rfl ?_
              refine sw_iload_n O (xx_dt dd_X7_bidder 31 rfl) rfl ?_
              refine sw_iload_n O (xx_dt dd_X7_bidder 32 rfl) rfl ?_
              refine sw_iload_n O (xx_dt dd_X7_bidder 33 rfl) rfl ?_
              refine sw_iload O (xx_dt dd_X7_bidder 34 rfl) rfl ?_
              refine sw_callVx (as := [.int x, .int y, .int z, .int v]) (st := []) (st2 := [.int (f_addBidder σ x y z v B)]) O (ct_X6_addBidder hl (σ := σ) (B := B) hB (by omega) (x := x) (y := y) (z := z) (w := v)) ce_X6_addBidder ml_X7_105 iv_X6_addBidder cl_X6 rfl (ly_1001 σ h) (xx_dt dd_X7_bidder 35 rfl) (by decide) rfl rfl (Nat.le_of_ble_eq_true rfl) rfl ?_
              refine sw_istore (ls2 := [.ref 1000, .int x, .int y, .int z, .int v, .int (f_addBidder σ x y z v B)]) O (xx_dt dd_X7_bidder 36 rfl) (by decide) rfl ?_
              refine sw_aload_n O (xx_dt dd_X7_bidder 37 rfl) rfl ?_
              refine sw_get (v := .ref 2000) O (xx_dt dd_X7_bidder 38 rfl) cl_X7 fl_X7_19 (ly_1000 (g_addBidder σ x y z v B) h) (by decide) rfl ?_
              refine sw_aload_n O (xx_dt dd_X7_bidder 39 rfl) rfl ?_
              refine sw_get (v := .ref 1001) O (xx_dt dd_X7_bidder 40 rfl) cl_X7 fl_X7_12 (ly_1000 (g_addBidder σ x y z v B) h) (by decide) rfl ?_
              refine sw_callVx (as := [.ref 1001]) (st := []) (st2 := []) O (ct_X1_begin hl (σ := g_addBidder σ x y z v B) (b := 2000) (.inl rfl)  ) ce_X1_begin ml_X7_83 iv_X1_begin cl_X1 rfl (lk_0 (g_addBidder σ x y z v B) h (.inl rfl)) (xx_dt dd_X7_bidder 41 rfl) (by decide) rfl rfl (Nat.le_of_ble_eq_true rfl) rfl ?_
              refine sw_iload O (xx_dt dd_X7_bidder 42 rfl) rfl ?_
              exact sw_iret O (xx_dt dd_X7_bidder 43 rfl) rfl rfl (by rw [hQ]; exact ⟨by unfold o_bidder; simp only [if_pos q1, if_pos q2, if_pos q3, if_pos q4, if_pos q5, if_pos q6]; rfl, by unfold g_bidder; simp only [if_pos q1, if_pos q2, if_pos q3, if_pos q4, if_pos q5, if_pos q6]⟩)
            · have hfq6 : ¬ B < 6 := fun e => q6 ((nI_ltI (a := B) (b := 6) (by omega) (by omega)).mpr e)
              exact sw_throw (k := 0) (n := 0) O ex_ISE th_X7_bidder_46 (xx_dt dd_X7_bidder 24 rfl) (xx_dt dd_X7_bidder 25 rfl) (xx_dt dd_X7_bidder 26 rfl) (xx_dt dd_X7_bidder 27 rfl) (xx_dt dd_X7_bidder 28 rfl) (by decide) (by decide) (by rw [hQ]; exact ⟨by unfold o_bidder; simp only [if_pos q1, if_pos q2, if_pos q3, if_pos q4, if_pos q5, if_neg q6]; rfl, by unfold g_bidder; simp only [if_pos q1, if_pos q2, if_pos q3, if_pos q4, if_pos q5, if_neg q6]⟩)
          · exact sw_callVt (as := [.int 0]) (st := []) (k := 0) (n := 0) (k' := 1) (n' := 6) O (ct_X7_needStage_no hl (σ := σ) q5) ce_X7_needStage ml_X7_65 iv_X7_needStage cl_X7 rfl (ly_1000 σ h) (xx_dt dd_X7_bidder 18 rfl) (by decide) rfl rfl (Nat.le_of_ble_eq_true rfl)  (by rw [hQ]; exact ⟨by unfold o_bidder; simp only [if_pos q1, if_pos q2, if_pos q3, if_pos q4, if_neg q5]; rfl, by unfold g_bidder; simp only [if_pos q1, if_pos q2, if_pos q3, if_pos q4, if_neg q5]⟩)
        · exact sw_callSt (as := [.int v, .int 0, .int 3]) (st := []) (k := 0) (n := 0) (k' := 1) (n' := 6) O (ct_X7_needBetween_no hl  q4) ce_X7_needBetween ml_X7_61 st_X7_needBetween (xx_dt dd_X7_bidder 15 rfl) (by decide) rfl rfl (Nat.le_of_ble_eq_true rfl)  (by rw [hQ]; exact ⟨by unfold o_bidder; simp only [if_pos q1, if_pos q2, if_pos q3, if_neg q4]; rfl, by unfold g_bidder; simp only [if_pos q1, if_pos q2, if_pos q3, if_neg q4]⟩)
      · exact sw_callSt (as := [.int z, .int 0, .int 30]) (st := []) (k := 0) (n := 0) (k' := 1) (n' := 6) O (ct_X7_needBetween_no hl  q3) ce_X7_needBetween ml_X7_61 st_X7_needBetween (xx_dt dd_X7_bidder 11 rfl) (by decide) rfl rfl (Nat.le_of_ble_eq_true rfl)  (by rw [hQ]; exact ⟨by unfold o_bidder; simp only [if_pos q1, if_pos q2, if_neg q3]; rfl, by unfold g_bidder; simp only [if_pos q1, if_pos q2, if_neg q3]⟩)
    · exact sw_callSt (as := [.int y, .int 1, .int 200]) (st := []) (k := 0) (n := 0) (k' := 1) (n' := 6) O (ct_X7_needBetween_no hl  q2) ce_X7_needBetween ml_X7_61 st_X7_needBetween (xx_dt dd_X7_bidder 7 rfl) (by decide) rfl rfl (Nat.le_of_ble_eq_true rfl)  (by rw [hQ]; exact ⟨by unfold o_bidder; simp only [if_pos q1, if_neg q2]; rfl, by unfold g_bidder; simp only [if_pos q1, if_neg q2]⟩)
  · exact sw_callSt (as := [.int x, .int 0, .int 99999]) (st := []) (k := 0) (n := 0) (k' := 1) (n' := 6) O (ct_X7_needBetween_no hl  q1) ce_X7_needBetween ml_X7_61 st_X7_needBetween (xx_dt dd_X7_bidder 3 rfl) (by decide) rfl rfl (Nat.le_of_ble_eq_true rfl)  (by rw [hQ]; exact ⟨by unfold o_bidder; simp only [if_neg q1]; rfl, by unfold g_bidder; simp only [if_neg q1]⟩)
def o_border (σ : XS9) (x y : Int32) (R : Nat) : Int32 ⊕ String := (if n_lt x R then (if n_lt y R then (if (nI (cn x)) = (nI (cn y)) then .inr eIAE else (if σ 1000 7 = 0 then .inl (f_addBorder σ (cn x) (cn y) R) else .inr eISE)) else .inr eIOB) else .inr eIOB)
def g_border (σ : XS9) (x y : Int32) (R : Nat) : XS9 := (if n_lt x R then (if n_lt y R then (if (nI (cn x)) = (nI (cn y)) then σ else (if σ 1000 7 = 0 then g_addBorder σ (cn x) (cn y) R else σ)) else σ) else σ)
theorem ct_X7_border {l : Launch} {h : XH} (hl : l.stackTraces = false) {σ : XS9} {R : Nat} (hR : σ 1001 4 = nI R) (hR5 : R ≤ 5) {x y : Int32} : XEo l m_X7_border 7 1 6 [.ref 1000, .int x, .int y] (setC σ h) ((xoi (o_border σ x y R))) (setC (g_border σ x y R) h) := by
  refine XMet.of hl rfl rfl (Nat.le_of_ble_eq_true rfl) (fun Y O hh hQ => ?_)
  show SW Y 1 6 (setC σ h) 0 [.ref 1000, .int x, .int y] []
  refine sw_aload_n O (xx_dt dd_X7_border 0 rfl) rfl ?_
  refine sw_iload_n O (xx_dt dd_X7_border 1 rfl) rfl ?_
  by_cases q1 : n_lt x R
  · refine sw_callVx (as := [.int x]) (st := []) (st2 := []) (k' := 0) (n' := 0) O (ct_X7_needRegion_ok hl (σ := σ) (R := R) hR (by omega) q1) ce_X7_needRegion ml_X7_87 iv_X7_needRegion cl_X7 rfl (ly_1000 σ h) (xx_dt dd_X7_border 2 rfl) (by decide) rfl rfl (Nat.le_of_ble_eq_true rfl) rfl ?_
    refine sw_lsE (ls2 := [.ref 1000, .int (nI (cn x)), .int y]) (by rw [← q1.1]) ?_
    have hvq1 := q1.2
    refine sw_aload_n O (xx_dt dd_X7_border 3 rfl) rfl ?_
    refine sw_iload_n O (xx_dt dd_X7_border 4 rfl) rfl ?_
    by_cases q2 : n_lt y R
    · refine sw_callVx (as := [.int y]) (st := []) (st2 := []) (k' := 0) (n' := 0) O (ct_X7_needRegion_ok hl (σ := σ) (R := R) hR (by omega) q2) ce_X7_needRegion ml_X7_87 iv_X7_needRegion cl_X7 rfl (ly_1000 σ h) (xx_dt dd_X7_border 5 rfl) (by decide) rfl rfl (Nat.le_of_ble_eq_true rfl) rfl ?_
      refine sw_lsE (ls2 := [.ref 1000, .int (nI (cn x)), .int (nI (cn y))]) (by rw [← q2.1]) ?_
      have hvq2 := q2.2
      refine sw_iload_n O (xx_dt dd_X7_border 6 rfl) rfl ?_
      refine sw_iload_n O (xx_dt dd_X7_border 7 rfl) rfl ?_
      refine sw_icmp_ne (tgt := 25) O (xx_dt dd_X7_border 8 rfl) (by decide) (fun q3 => ?_) (fun q3 => ?_)
      · refine sw_aload_n O (xx_dt dd_X7_border 14 rfl) rfl ?_
        refine sw_iconst (x := 0) O (xx_dt dd_X7_border 15 rfl) (by decide) ?_
        by_cases q4 : σ 1000 7 = 0
        · refine sw_callVx (as := [.int 0]) (st := []) (st2 := []) (k' := 0) (n' := 0) O (ct_X7_needStage_ok hl (σ := σ) q4) ce_X7_needStage ml_X7_65 iv_X7_needStage cl_X7 rfl (ly_1000 σ h) (xx_dt dd_X7_border 16 rfl) (by decide) rfl rfl (Nat.le_of_ble_eq_true rfl) rfl ?_
          refine sw_aload_n O (xx_dt dd_X7_border 17 rfl) rfl ?_
          refine sw_get (v := .ref 1001) O (xx_dt dd_X7_border 18 rfl) cl_X7 fl_X7_12 (ly_1000 σ h) (by decide) rfl ?_
          refine sw_iload_n O (xx_dt dd_X7_border 19 rfl) rfl ?_
          refine sw_iload_n O (xx_dt dd_X7_border 20 rfl) rfl ?_
          refine sw_callVx (as := [.int (nI (cn x)), .int (nI (cn y))]) (st := []) (st2 := [.int (f_addBorder σ (cn x) (cn y) R)]) O (ct_X6_addBorder hl (σ := σ) (i := cn x) (j := cn y) (by omega) (by omega) (R := R) hR (by omega)) ce_X6_addBorder ml_X7_95 iv_X6_addBorder cl_X6 rfl (ly_1001 σ h) (xx_dt dd_X7_border 21 rfl) (by decide) rfl rfl (Nat.le_of_ble_eq_true rfl) rfl ?_
          exact sw_iret O (xx_dt dd_X7_border 22 rfl) rfl rfl (by rw [hQ]; exact ⟨by unfold o_border; simp only [if_pos q1, if_pos q2, if_neg q3, if_pos q4]; rfl, by unfold g_border; simp only [if_pos q1, if_pos q2, if_neg q3, if_pos q4]⟩)
        · exact sw_callVt (as := [.int 0]) (st := []) (k := 0) (n := 0) (k' := 1) (n' := 6) O (ct_X7_needStage_no hl (σ := σ) q4) ce_X7_needStage ml_X7_65 iv_X7_needStage cl_X7 rfl (ly_1000 σ h) (xx_dt dd_X7_border 16 rfl) (by decide) rfl rfl (Nat.le_of_ble_eq_true rfl)  (by rw [hQ]; exact ⟨by unfold o_border; simp only [if_pos q1, if_pos q2, if_neg q3, if_neg q4]; rfl, by unfold g_border; simp only [if_pos q1, if_pos q2, if_neg q3, if_neg q4]⟩)
      · exact sw_throw (k := 0) (n := 0) O ex_IAE th_X7_border_15 (xx_dt dd_X7_border 9 rfl) (xx_dt dd_X7_border 10 rfl) (xx_dt dd_X7_border 11 rfl) (xx_dt dd_X7_border 12 rfl) (xx_dt dd_X7_border 13 rfl) (by decide) (by decide) (by rw [hQ]; exact ⟨by unfold o_border; simp only [if_pos q1, if_pos q2, if_pos q3]; rfl, by unfold g_border; simp only [if_pos q1, if_pos q2, if_pos q3]⟩)
    · exact sw_callVt (as := [.int y]) (st := []) (k := 0) (n := 0) (k' := 1) (n' := 6) O (ct_X7_needRegion_no hl (σ := σ) (R := R) hR (by omega) q2) ce_X7_needRegion ml_X7_87 iv_X7_needRegion cl_X7 rfl (ly_1000 σ h) (xx_dt dd_X7_border 5 rfl) (by decide) rfl rfl (Nat.le_of_ble_eq_true rfl)  (by rw [hQ]; exact ⟨by unfold o_border; simp only [if_pos q1, if_neg q2]; rfl, by unfold g_border; simp only [if_pos q1, if_neg q2]⟩)
  · exact sw_callVt (as := [.int x]) (st := []) (k := 0) (n := 0) (k' := 1) (n' := 6) O (ct_X7_needRegion_no hl (σ := σ) (R := R) hR (by omega) q1) ce_X7_needRegion ml_X7_87 iv_X7_needRegion cl_X7 rfl (ly_1000 σ h) (xx_dt dd_X7_border 2 rfl) (by decide) rfl rfl (Nat.le_of_ble_eq_true rfl)  (by rw [hQ]; exact ⟨by unfold o_border; simp only [if_neg q1]; rfl, by unfold g_border; simp only [if_neg q1]⟩)
def o_rules (σ : XS9) (x y : Int32) : Int32 ⊕ String := (if n_bt x 1 5 then (if σ 1000 7 = 0 then .inl (σ 1001 10) else .inr eISE) else .inr eIAE)
def g_rules (σ : XS9) (x y : Int32) : XS9 := (if n_bt x 1 5 then (if σ 1000 7 = 0 then u2 (u2 σ 1001 10 x) 1001 11 y else σ) else σ)
theorem ct_X7_rules {l : Launch} {h : XH} (hl : l.stackTraces = false) {σ : XS9} {x y : Int32} (hy : y = 0 ∨ y = 1) : XEo l m_X7_rules 7 1 6 [.ref 1000, .int x, .int y] (setC σ h) ((xoi (o_rules σ x y))) (setC (g_rules σ x y) h) := by
  refine XMet.of hl rfl rfl (Nat.le_of_ble_eq_true rfl) (fun Y O hh hQ => ?_)
  show SW Y 1 6 (setC σ h) 0 [.ref 1000, .int x, .int y, xx_d] []
  refine sw_iload_n O (xx_dt dd_X7_rules 0 rfl) rfl ?_
  refine sw_iconst (x := 1) O (xx_dt dd_X7_rules 1 rfl) (by decide) ?_
  refine sw_iconst (x := 5) O (xx_dt dd_X7_rules 2 rfl) (by decide) ?_
  by_cases q1 : n_bt x 1 5
  · refine sw_callSx (as := [.int x, .int 1, .int 5]) (st := []) (st2 := []) (k' := 0) (n' := 0) O (ct_X7_needBetween_ok hl  q1) ce_X7_needBetween ml_X7_61 st_X7_needBetween (xx_dt dd_X7_rules 3 rfl) (by decide) rfl rfl (Nat.le_of_ble_eq_true rfl) rfl ?_
    refine sw_aload_n O (xx_dt dd_X7_rules 4 rfl) rfl ?_
    refine sw_iconst (x := 0) O (xx_dt dd_X7_rules 5 rfl) (by decide) ?_
    by_cases q2 : σ 1000 7 = 0
    · refine sw_callVx (as := [.int 0]) (st := []) (st2 := []) (k' := 0) (n' := 0) O (ct_X7_needStage_ok hl (σ := σ) q2) ce_X7_needStage ml_X7_65 iv_X7_needStage cl_X7 rfl (ly_1000 σ h) (xx_dt dd_X7_rules 6 rfl) (by decide) rfl rfl (Nat.le_of_ble_eq_true rfl) rfl ?_
      refine sw_aload_n O (xx_dt dd_X7_rules 7 rfl) rfl ?_
      refine sw_get (v := .ref 1001) O (xx_dt dd_X7_rules 8 rfl) cl_X7 fl_X7_12 (ly_1000 σ h) (by decide) rfl ?_
      refine sw_get (v := .int (σ 1001 10)) O (xx_dt dd_X7_rules 9 rfl) cl_X6 fl_X7_109 (ly_1001 σ h) (by decide) rfl ?_
      refine sw_istore_n (ls2 := [.ref 1000, .int x, .int y, .int (σ 1001 10)]) O (xx_dt dd_X7_rules 10 rfl) (by decide) rfl ?_
      refine sw_aload_n O (xx_dt dd_X7_rules 11 rfl) rfl ?_
      refine sw_get (v := .ref 1001) O (xx_dt dd_X7_rules 12 rfl) cl_X7 fl_X7_12 (ly_1000 σ h) (by decide) rfl ?_
      refine sw_iload_n O (xx_dt dd_X7_rules 13 rfl) rfl ?_
      refine sw_put (h2 := setC (u2 σ 1001 10 x) h) O (xx_dt dd_X7_rules 14 rfl) cl_X6 fl_X7_109 (ly_1001 σ h) (by decide) (by decide) rfl (fun _ => ⟨rfl, rfl⟩) pu_1001_10 ?_
      refine sw_aload_n O (xx_dt dd_X7_rules 15 rfl) rfl ?_
      refine sw_get (v := .ref 1001) O (xx_dt dd_X7_rules 16 rfl) cl_X7 fl_X7_12 (ly_1000 (u2 σ 1001 10 x) h) (by decide) rfl ?_
      refine sw_iload_n O (xx_dt dd_X7_rules 17 rfl) rfl ?_
      refine sw_put (h2 := setC (u2 (u2 σ 1001 10 x) 1001 11 y) h) O (xx_dt dd_X7_rules 18 rfl) cl_X6 fl_X7_112 (ly_1001 (u2 σ 1001 10 x) h) (by decide) (by decide) rfl (fun _ => ⟨by rcases hy with rfl | rfl <;> rfl, by rcases hy with rfl | rfl <;> rfl⟩) pu_1001_11 ?_
      refine sw_iload_n O (xx_dt dd_X7_rules 19 rfl) rfl ?_
      exact sw_iret O (xx_dt dd_X7_rules 20 rfl) rfl rfl (by rw [hQ]; exact ⟨by unfold o_rules; simp only [if_pos q1, if_pos q2]; rfl, by unfold g_rules; simp only [if_pos q1, if_pos q2]⟩)
    · exact sw_callVt (as := [.int 0]) (st := []) (k := 0) (n := 0) (k' := 1) (n' := 6) O (ct_X7_needStage_no hl (σ := σ) q2) ce_X7_needStage ml_X7_65 iv_X7_needStage cl_X7 rfl (ly_1000 σ h) (xx_dt dd_X7_rules 6 rfl) (by decide) rfl rfl (Nat.le_of_ble_eq_true rfl)  (by rw [hQ]; exact ⟨by unfold o_rules; simp only [if_pos q1, if_neg q2]; rfl, by unfold g_rules; simp only [if_pos q1, if_neg q2]⟩)
  · exact sw_callSt (as := [.int x, .int 1, .int 5]) (st := []) (k := 0) (n := 0) (k' := 1) (n' := 6) O (ct_X7_needBetween_no hl  q1) ce_X7_needBetween ml_X7_61 st_X7_needBetween (xx_dt dd_X7_rules 3 rfl) (by decide) rfl rfl (Nat.le_of_ble_eq_true rfl)  (by rw [hQ]; exact ⟨by unfold o_rules; simp only [if_neg q1]; rfl, by unfold g_rules; simp only [if_neg q1]⟩)
def o_step (σ : XS9) (x : Int32) : Int32 ⊕ String := (if n_bt x 1 20 then (if (σ 1000 7) = 0 then .inl (σ 1000 8) else (if (σ 1000 7) = 1 then .inl (σ 1000 8) else .inr eISE)) else .inr eIAE)
def g_step (σ : XS9) (x : Int32) : XS9 := (if n_bt x 1 20 then (if (σ 1000 7) = 0 then u2 σ 1000 8 x else (if (σ 1000 7) = 1 then u2 σ 1000 8 x else σ)) else σ)
theorem ct_X7_step {l : Launch} {h : XH} (hl : l.stackTraces = false) {σ : XS9} {x : Int32} : XEo l m_X7_step 7 1 6 [.ref 1000, .int x] (setC σ h) ((xoi (o_step σ x))) (setC (g_step σ x) h) := by
  refine XMet.of hl rfl rfl (Nat.le_of_ble_eq_true rfl) (fun Y O hh hQ => ?_)
  show SW Y 1 6 (setC σ h) 0 [.ref 1000, .int x, xx_d] []
  refine sw_iload_n O (xx_dt dd_X7_step 0 rfl) rfl ?_
  refine sw_iconst (x := 1) O (xx_dt dd_X7_step 1 rfl) (by decide) ?_
  refine sw_bipush (x := 20) O (xx_dt dd_X7_step 2 rfl) (by decide) ?_
  by_cases q1 : n_bt x 1 20
  · refine sw_callSx (as := [.int x, .int 1, .int 20]) (st := []) (st2 := []) (k' := 0) (n' := 0) O (ct_X7_needBetween_ok hl  q1) ce_X7_needBetween ml_X7_61 st_X7_needBetween (xx_dt dd_X7_step 3 rfl) (by decide) rfl rfl (Nat.le_of_ble_eq_true rfl) rfl ?_
    refine sw_aload_n O (xx_dt dd_X7_step 4 rfl) rfl ?_
    refine sw_get (v := .int (σ 1000 7)) O (xx_dt dd_X7_step 5 rfl) cl_X7 fl_X7_54 (ly_1000 σ h) (by decide) rfl ?_
    refine sw_if_eq (tgt := 32) O (xx_dt dd_X7_step 6 rfl) (by decide) (fun q2 => ?_) (fun q2 => ?_)
    · refine sw_aload_n O (xx_dt dd_X7_step 16 rfl) rfl ?_
      refine sw_get (v := .int (σ 1000 8)) O (xx_dt dd_X7_step 17 rfl) cl_X7 fl_X7_58 (ly_1000 σ h) (by decide) rfl ?_
      refine sw_istore_n (ls2 := [.ref 1000, .int x, .int (σ 1000 8)]) O (xx_dt dd_X7_step 18 rfl) (by decide) rfl ?_
      refine sw_aload_n O (xx_dt dd_X7_step 19 rfl) rfl ?_
      refine sw_iload_n O (xx_dt dd_X7_step 20 rfl) rfl ?_
      refine sw_put (h2 := setC (u2 σ 1000 8 x) h) O (xx_dt dd_X7_step 21 rfl) cl_X7 fl_X7_58 (ly_1000 σ h) (by decide) (by decide) rfl (fun _ => ⟨rfl, rfl⟩) pu_1000_8 ?_
      refine sw_iload_n O (xx_dt dd_X7_step 22 rfl) rfl ?_
      exact sw_iret O (xx_dt dd_X7_step 23 rfl) rfl rfl (by rw [hQ]; exact ⟨by unfold o_step; simp only [if_pos q1, if_pos q2]; rfl, by unfold g_step; simp only [if_pos q1, if_pos q2]⟩)
    · refine sw_aload_n O (xx_dt dd_X7_step 7 rfl) rfl ?_
      refine sw_get (v := .int (σ 1000 7)) O (xx_dt dd_X7_step 8 rfl) cl_X7 fl_X7_54 (ly_1000 σ h) (by decide) rfl ?_
      refine sw_iconst (x := 1) O (xx_dt dd_X7_step 9 rfl) (by decide) ?_
      refine sw_icmp_eq (tgt := 32) O (xx_dt dd_X7_step 10 rfl) (by decide) (fun q3 => ?_) (fun q3 => ?_)
      · refine sw_aload_n O (xx_dt dd_X7_step 16 rfl) rfl ?_
        refine sw_get (v := .int (σ 1000 8)) O (xx_dt dd_X7_step 17 rfl) cl_X7 fl_X7_58 (ly_1000 σ h) (by decide) rfl ?_
        refine sw_istore_n (ls2 := [.ref 1000, .int x, .int (σ 1000 8)]) O (xx_dt dd_X7_step 18 rfl) (by decide) rfl ?_
        refine sw_aload_n O (xx_dt dd_X7_step 19 rfl) rfl ?_
        refine sw_iload_n O (xx_dt dd_X7_step 20 rfl) rfl ?_
        refine sw_put (h2 := setC (u2 σ 1000 8 x) h) O (xx_dt dd_X7_step 21 rfl) cl_X7 fl_X7_58 (ly_1000 σ h) (by decide) (by decide) rfl (fun _ => ⟨rfl, rfl⟩) pu_1000_8 ?_
        refine sw_iload_n O (xx_dt dd_X7_step 22 rfl) rfl ?_
        exact sw_iret O (xx_dt dd_X7_step 23 rfl) rfl rfl (by rw [hQ]; exact ⟨by unfold o_step; simp only [if_pos q1, if_neg q2, if_pos q3]; rfl, by unfold g_step; simp only [if_pos q1, if_neg q2, if_pos q3]⟩)
      · exact sw_throw (k := 0) (n := 0) O ex_ISE th_X7_step_22 (xx_dt dd_X7_step 11 rfl) (xx_dt dd_X7_step 12 rfl) (xx_dt dd_X7_step 13 rfl) (xx_dt dd_X7_step 14 rfl) (xx_dt dd_X7_step 15 rfl) (by decide) (by decide) (by rw [hQ]; exact ⟨by unfold o_step; simp only [if_pos q1, if_neg q2, if_neg q3]; rfl, by unfold g_step; simp only [if_pos q1, if_neg q2, if_neg q3]⟩)
  · exact sw_callSt (as := [.int x, .int 1, .int 20]) (st := []) (k := 0) (n := 0) (k' := 1) (n' := 6) O (ct_X7_needBetween_no hl  q1) ce_X7_needBetween ml_X7_61 st_X7_needBetween (xx_dt dd_X7_step 3 rfl) (by decide) rfl rfl (Nat.le_of_ble_eq_true rfl)  (by rw [hQ]; exact ⟨by unfold o_step; simp only [if_neg q1]; rfl, by unfold g_step; simp only [if_neg q1]⟩)
def o_open (σ : XS9) (R B : Nat) : Int32 ⊕ String := (if σ 1000 7 = 0 then (if (nI R) = 0 then .inr eISE else (if (nI B) = 0 then .inr eISE else .inl (f_allPrices (u2 σ 1000 7 1) 2000))) else .inr eISE)
def g_open (σ : XS9) (R B : Nat) : XS9 := (if σ 1000 7 = 0 then (if (nI R) = 0 then σ else (if (nI B) = 0 then σ else u2 σ 1000 7 1)) else σ)
theorem ct_X7_open {l : Launch} {h : XH} (hl : l.stackTraces = false) {σ : XS9} {R : Nat} (hR : σ 1001 4 = nI R) (hR5 : R ≤ 5) {B : Nat} (hB : σ 1001 9 = nI B) (hB6 : B ≤ 6)  : XEo l m_X7_open 7 1 6 [.ref 1000] (setC σ h) ((xoi (o_open σ R B))) (setC (g_open σ R B) h) := by
  refine XMet.of hl rfl rfl (Nat.le_of_ble_eq_true rfl) (fun Y O hh hQ => ?_)
  show SW Y 1 6 (setC σ h) 0 [.ref 1000] []
  refine sw_aload_n O (xx_dt dd_X7_open 0 rfl) rfl ?_
  refine sw_iconst (x := 0) O (xx_dt dd_X7_open 1 rfl) (by decide) ?_
  by_cases q1 : σ 1000 7 = 0
  · refine sw_callVx (as := [.int 0]) (st := []) (st2 := []) (k' := 0) (n' := 0) O (ct_X7_needStage_ok hl (σ := σ) q1) ce_X7_needStage ml_X7_65 iv_X7_needStage cl_X7 rfl (ly_1000 σ h) (xx_dt dd_X7_open 2 rfl) (by decide) rfl rfl (Nat.le_of_ble_eq_true rfl) rfl ?_
    refine sw_aload_n O (xx_dt dd_X7_open 3 rfl) rfl ?_
    refine sw_get (v := .ref 1001) O (xx_dt dd_X7_open 4 rfl) cl_X7 fl_X7_12 (ly_1000 σ h) (by decide) rfl ?_
    refine sw_get (v := .int (nI R)) O (xx_dt dd_X7_open 5 rfl) cl_X6 fl_X7_69 (ly_1001 σ h) (by decide) (congrArg Value.int hR) ?_
    refine sw_if_eq (tgt := 25) O (xx_dt dd_X7_open 6 rfl) (by decide) (fun q2 => ?_) (fun q2 => ?_)
    · exact sw_throw (k := 0) (n := 0) O ex_ISE th_X7_open_25 (xx_dt dd_X7_open 11 rfl) (xx_dt dd_X7_open 12 rfl) (xx_dt dd_X7_open 13 rfl) (xx_dt dd_X7_open 14 rfl) (xx_dt dd_X7_open 15 rfl) (by decide) (by decide) (by rw [hQ]; exact ⟨by unfold o_open; simp only [if_pos q1, if_pos q2]; rfl, by unfold g_open; simp only [if_pos q1, if_pos q2]⟩)
    · refine sw_aload_n O (xx_dt dd_X7_open 7 rfl) rfl ?_
      refine sw_get (v := .ref 1001) O (xx_dt dd_X7_open 8 rfl) cl_X7 fl_X7_12 (ly_1000 σ h) (by decide) rfl ?_
      refine sw_get (v := .int (nI B)) O (xx_dt dd_X7_open 9 rfl) cl_X6 fl_X7_100 (ly_1001 σ h) (by decide) (congrArg Value.int hB) ?_
      refine sw_if_ne (tgt := 35) O (xx_dt dd_X7_open 10 rfl) (by decide) (fun q3 => ?_) (fun q3 => ?_)
      · refine sw_aload_n O (xx_dt dd_X7_open 16 rfl) rfl ?_
        refine sw_iconst (x := 1) O (xx_dt dd_X7_open 17 rfl) (by decide) ?_
        refine sw_put (h2 := setC (u2 σ 1000 7 1) h) O (xx_dt dd_X7_open 18 rfl) cl_X7 fl_X7_54 (ly_1000 σ h) (by decide) (by decide) rfl (fun _ => ⟨rfl, rfl⟩) pu_1000_7 ?_
        refine sw_aload_n O (xx_dt dd_X7_open 19 rfl) rfl ?_
        refine sw_get (v := .ref 2000) O (xx_dt dd_X7_open 20 rfl) cl_X7 fl_X7_19 (ly_1000 (u2 σ 1000 7 1) h) (by decide) rfl ?_
        refine sw_callVx (as := []) (st := []) (st2 := [.int (f_allPrices (u2 σ 1000 7 1) 2000)]) O (ct_X1_allPrices hl (σ := u2 σ 1000 7 1) (b := 2000) (.inl rfl)  ) ce_X1_allPrices ml_X7_120 iv_X1_allPrices cl_X1 rfl (lk_0 (u2 σ 1000 7 1) h (.inl rfl)) (xx_dt dd_X7_open 21 rfl) (by decide) rfl rfl (Nat.le_of_ble_eq_true rfl) rfl ?_
        exact sw_iret O (xx_dt dd_X7_open 22 rfl) rfl rfl (by rw [hQ]; exact ⟨by unfold o_open; simp only [if_pos q1, if_neg q2, if_neg q3]; rfl, by unfold g_open; simp only [if_pos q1, if_neg q2, if_neg q3]⟩)
      · exact sw_throw (k := 0) (n := 0) O ex_ISE th_X7_open_25 (xx_dt dd_X7_open 11 rfl) (xx_dt dd_X7_open 12 rfl) (xx_dt dd_X7_open 13 rfl) (xx_dt dd_X7_open 14 rfl) (xx_dt dd_X7_open 15 rfl) (by decide) (by decide) (by rw [hQ]; exact ⟨by unfold o_open; simp only [if_pos q1, if_neg q2, if_pos q3]; rfl, by unfold g_open; simp only [if_pos q1, if_neg q2, if_pos q3]⟩)
  · exact sw_callVt (as := [.int 0]) (st := []) (k := 0) (n := 0) (k' := 1) (n' := 6) O (ct_X7_needStage_no hl (σ := σ) q1) ce_X7_needStage ml_X7_65 iv_X7_needStage cl_X7 rfl (ly_1000 σ h) (xx_dt dd_X7_open 2 rfl) (by decide) rfl rfl (Nat.le_of_ble_eq_true rfl)  (by rw [hQ]; exact ⟨by unfold o_open; simp only [if_neg q1]; rfl, by unfold g_open; simp only [if_neg q1]⟩)
def o_wish (σ : XS9) (x y z : Int32) (R B : Nat) : Int32 ⊕ String := (if n_lt x B then (if n_lt y R then (if n_bt z 0 5 then (if σ 1000 7 = 1 then (if (f_mayWish σ 2000 (cn x) (cn y) (nI (cn z)) B) = 0 then .inr eISE else .inl (f_total (f_replaced (σ (2000 + 3) (cn x)) (cn y) (nI (cn z))) 5 (σ 1011))) else .inr eISE) else .inr eIAE) else .inr eIOB) else .inr eIOB)
def g_wish (σ : XS9) (x y z : Int32) (R B : Nat) : XS9 := (if n_lt x B then (if n_lt y R then (if n_bt z 0 5 then (if σ 1000 7 = 1 then (if (f_mayWish σ 2000 (cn x) (cn y) (nI (cn z)) B) = 0 then σ else u2 σ (2000 + 3) (cn x) (f_replaced (σ (2000 + 3) (cn x)) (cn y) (nI (cn z)))) else σ) else σ) else σ) else σ)
theorem ct_X7_wish {l : Launch} {h : XH} (hl : l.stackTraces = false) {σ : XS9} {R : Nat} (hR : σ 1001 4 = nI R) (hR5 : R ≤ 5) {B : Nat} (hB : σ 1001 9 = nI B) (hB6 : B ≤ 6) {x y z : Int32} : XEo l m_X7_wish 7 1 6 [.ref 1000, .int x, .int y, .int z] (setC σ h) ((xoi (o_wish σ x y z R B))) (setC (g_wish σ x y z R B) h) := by
  refine XMet.of hl rfl rfl (Nat.le_of_ble_eq_true rfl) (fun Y O hh hQ => ?_)
  show SW Y 1 6 (setC σ h) 0 [.ref 1000, .int x, .int y, .int z] []
  refine sw_aload_n O (xx_dt dd_X7_wish 0 rfl) rfl ?_
  refine sw_iload_n O (xx_dt dd_X7_wish 1 rfl) rfl ?_
  by_cases q1 : n_lt x B
  · refine sw_callVx (as := [.int x]) (st := []) (st2 := []) (k' := 0) (n' := 0) O (ct_X7_needBidder_ok hl (σ := σ) (B := B) hB (by omega) q1) ce_X7_needBidder ml_X7_124 iv_X7_needBidder cl_X7 rfl (ly_1000 σ h) (xx_dt dd_X7_wish 2 rfl) (by decide) rfl rfl (Nat.le_of_ble_eq_true rfl) rfl ?_
    refine sw_lsE (ls2 := [.ref 1000, .int (nI (cn x)), .int y, .int z]) (by rw [← q1.1]) ?_
    have hvq1 := q1.2
    refine sw_aload_n O (xx_dt dd_X7_wish 3 rfl) rfl ?_
    refine sw_iload_n O (xx_dt dd_X7_wish 4 rfl) rfl ?_
    by_cases q2 : n_lt y R
    · refine sw_callVx (as := [.int y]) (st := []) (st2 := []) (k' := 0) (n' := 0) O (ct_X7_needRegion_ok hl (σ := σ) (R := R) hR (by omega) q2) ce_X7_needRegion ml_X7_87 iv_X7_needRegion cl_X7 rfl (ly_1000 σ h) (xx_dt dd_X7_wish 5 rfl) (by decide) rfl rfl (Nat.le_of_ble_eq_true rfl) rfl ?_
      refine sw_lsE (ls2 := [.ref 1000, .int (nI (cn x)), .int (nI (cn y)), .int z]) (by rw [← q2.1]) ?_
      have hvq2 := q2.2
      refine sw_iload_n O (xx_dt dd_X7_wish 6 rfl) rfl ?_
      refine sw_iconst (x := 0) O (xx_dt dd_X7_wish 7 rfl) (by decide) ?_
      refine sw_iconst (x := 5) O (xx_dt dd_X7_wish 8 rfl) (by decide) ?_
      by_cases q3 : n_bt z 0 5
      · refine sw_callSx (as := [.int z, .int 0, .int 5]) (st := []) (st2 := []) (k' := 0) (n' := 0) O (ct_X7_needBetween_ok hl  q3) ce_X7_needBetween ml_X7_61 st_X7_needBetween (xx_dt dd_X7_wish 9 rfl) (by decide) rfl rfl (Nat.le_of_ble_eq_true rfl) rfl ?_
        refine sw_lsE (ls2 := [.ref 1000, .int (nI (cn x)), .int (nI (cn y)), .int (nI (cn z))]) (by rw [← (bt_nat 5 q3 (by decide) (by decide) (by decide)).1]) ?_
        have hvq3 := (bt_nat 5 q3 (by decide) (by decide) (by decide)).2
        refine sw_aload_n O (xx_dt dd_X7_wish 10 rfl) rfl ?_
        refine sw_iconst (x := 1) O (xx_dt dd_X7_wish 11 rfl) (by decide) ?_
        by_cases q4 : σ 1000 7 = 1
        · refine sw_callVx (as := [.int 1]) (st := []) (st2 := []) (k' := 0) (n' := 0) O (ct_X7_needStage_ok hl (σ := σ) q4) ce_X7_needStage ml_X7_65 iv_X7_needStage cl_X7 rfl (ly_1000 σ h) (xx_dt dd_X7_wish 12 rfl) (by decide) rfl rfl (Nat.le_of_ble_eq_true rfl) rfl ?_
          refine sw_aload_n O (xx_dt dd_X7_wish 13 rfl) rfl ?_
          refine sw_get (v := .ref 2000) O (xx_dt dd_X7_wish 14 rfl) cl_X7 fl_X7_19 (ly_1000 σ h) (by decide) rfl ?_
          refine sw_aload_n O (xx_dt dd_X7_wish 15 rfl) rfl ?_
          refine sw_get (v := .ref 1001) O (xx_dt dd_X7_wish 16 rfl) cl_X7 fl_X7_12 (ly_1000 σ h) (by decide) rfl ?_
          refine sw_iload_n O (xx_dt dd_X7_wish 17 rfl) rfl ?_
          refine sw_iload_n O (xx_dt dd_X7_wish 18 rfl) rfl ?_
          refine sw_iload_n O (xx_dt dd_X7_wish 19 rfl) rfl ?_
          refine sw_callVx (as := [.ref 1001, .int (nI (cn x)), .int (nI (cn y)), .int (nI (cn z))]) (st := []) (st2 := [.int (f_mayWish σ 2000 (cn x) (cn y) (nI (cn z)) B)]) O (ct_X1_mayWish hl (σ := σ) (b := 2000) (.inl rfl) (B := B) hB (by omega) (i := cn x) (r := cn y) (x := nI (cn z)) (by omega) (by omega)) ce_X1_mayWish ml_X7_127 iv_X1_mayWish cl_X1 rfl (lk_0 σ h (.inl rfl)) (xx_dt dd_X7_wish 20 rfl) (by decide) rfl rfl (Nat.le_of_ble_eq_true rfl) rfl ?_
          refine sw_if_ne (tgt := 48) O (xx_dt dd_X7_wish 21 rfl) (by decide) (fun q5 => ?_) (fun q5 => ?_)
          · refine sw_aload_n O (xx_dt dd_X7_wish 27 rfl) rfl ?_
            refine sw_get (v := .ref 2000) O (xx_dt dd_X7_wish 28 rfl) cl_X7 fl_X7_19 (ly_1000 σ h) (by decide) rfl ?_
            refine sw_get (v := .ref (2000 + 3)) O (xx_dt dd_X7_wish 29 rfl) cl_X1 fl_X7_133 (lk_0 σ h (.inl rfl)) (by decide) rfl ?_
            refine sw_iload_n O (xx_dt dd_X7_wish 30 rfl) rfl ?_
            refine sw_aload_n O (xx_dt dd_X7_wish 31 rfl) rfl ?_
            refine sw_get (v := .ref 2000) O (xx_dt dd_X7_wish 32 rfl) cl_X7 fl_X7_19 (ly_1000 σ h) (by decide) rfl ?_
            refine sw_get (v := .ref (2000 + 3)) O (xx_dt dd_X7_wish 33 rfl) cl_X1 fl_X7_133 (lk_0 σ h (.inl rfl)) (by decide) rfl ?_
            refine sw_iload_n O (xx_dt dd_X7_wish 34 rfl) rfl ?_
            refine sw_iaload (v := .int (σ (2000 + 3) (cn x))) O (xx_dt dd_X7_wish 35 rfl) (lk_3 σ h (.inl rfl)) (pk_in (cn x) _ (by omega)) (by rw [nI_clamp (by omega)]; try exact rfl) ?_
            refine sw_iload_n O (xx_dt dd_X7_wish 36 rfl) rfl ?_
            refine sw_iload_n O (xx_dt dd_X7_wish 37 rfl) rfl ?_
            refine sw_callSx (as := [.int (σ (2000 + 3) (cn x)), .int (nI (cn y)), .int (nI (cn z))]) (st := [.int (nI (cn x)), .ref (2000 + 3)]) (st2 := [.int (f_replaced (σ (2000 + 3) (cn x)) (cn y) (nI (cn z))), .int (nI (cn x)), .ref (2000 + 3)]) O (ct_X0_replaced hl (c := σ (2000 + 3) (cn x)) (m := nI (cn z)) (r := cn y) (by omega)) ce_X0_replaced ml_X7_137 st_X0_replaced (xx_dt dd_X7_wish 38 rfl) (by decide) rfl rfl (Nat.le_of_ble_eq_true rfl) rfl ?_
            refine sw_iastore (h2 := setC (u2 σ (2000 + 3) (cn x) (f_replaced (σ (2000 + 3) (cn x)) (cn y) (nI (cn z)))) h) O (xx_dt dd_X7_wish 39 rfl) (lk_3 σ h (.inl rfl)) (pk_in (cn x) _ (by omega)) (by omega) (by rw [nI_clamp (by omega)]; exact (pk_a3 (.inl rfl))) ?_
            refine sw_aload_n O (xx_dt dd_X7_wish 40 rfl) rfl ?_
            refine sw_get (v := .ref 2000) O (xx_dt dd_X7_wish 41 rfl) cl_X7 fl_X7_19 (ly_1000 (u2 σ (2000 + 3) (cn x) (f_replaced (σ (2000 + 3) (cn x)) (cn y) (nI (cn z)))) h) (by decide) rfl ?_
            refine sw_get (v := .ref (2000 + 3)) O (xx_dt dd_X7_wish 42 rfl) cl_X1 fl_X7_133 (lk_0 (u2 σ (2000 + 3) (cn x) (f_replaced (σ (2000 + 3) (cn x)) (cn y) (nI (cn z)))) h (.inl rfl)) (by decide) rfl ?_
            refine sw_iload_n O (xx_dt dd_X7_wish 43 rfl) rfl ?_
            refine sw_iaload (v := .int (f_replaced (σ (2000 + 3) (cn x)) (cn y) (nI (cn z)))) O (xx_dt dd_X7_wish 44 rfl) (lk_3 (u2 σ (2000 + 3) (cn x) (f_replaced (σ (2000 + 3) (cn x)) (cn y) (nI (cn z)))) h (.inl rfl)) (pk_in (cn x) _ (by omega)) (by rw [nI_clamp (by omega)]; exact (congrArg Value.int u2_at)) ?_
            refine sw_aload_n O (xx_dt dd_X7_wish 45 rfl) rfl ?_
            refine sw_get (v := .ref 1001) O (xx_dt dd_X7_wish 46 rfl) cl_X7 fl_X7_12 (ly_1000 (u2 σ (2000 + 3) (cn x) (f_replaced (σ (2000 + 3) (cn x)) (cn y) (nI (cn z)))) h) (by decide) rfl ?_
            refine sw_get (v := .ref 1011) O (xx_dt dd_X7_wish 47 rfl) cl_X6 fl_X7_142 (ly_1001 (u2 σ (2000 + 3) (cn x) (f_replaced (σ (2000 + 3) (cn x)) (cn y) (nI (cn z)))) h) (by decide) rfl ?_
            refine sw_callSx (as := [.int (f_replaced (σ (2000 + 3) (cn x)) (cn y) (nI (cn z))), .ref 1011]) (st := []) (st2 := [.int (f_total (f_replaced (σ (2000 + 3) (cn x)) (cn y) (nI (cn z))) 5 (σ 1011))]) O (ct_X0_total hl (c := f_replaced (σ (2000 + 3) (cn x)) (cn y) (nI (cn z))) (f := σ 1011) (ia_1011.getE (u2_ne (by omega))) (by omega)) ce_X0_total ml_X7_145 st_X0_total (xx_dt dd_X7_wish 48 rfl) (by decide) rfl rfl (Nat.le_of_ble_eq_true rfl) rfl ?_
            exact sw_iret O (xx_dt dd_X7_wish 49 rfl) rfl rfl (by rw [hQ]; exact ⟨by unfold o_wish; simp only [if_pos q1, if_pos q2, if_pos q3, if_pos q4, if_neg q5]; rfl, by unfold g_wish; simp only [if_pos q1, if_pos q2, if_pos q3, if_pos q4, if_neg q5]⟩)
          · exact sw_throw (k := 0) (n := 0) O ex_ISE th_X7_wish_38 (xx_dt dd_X7_wish 22 rfl) (xx_dt dd_X7_wish 23 rfl) (xx_dt dd_X7_wish 24 rfl) (xx_dt dd_X7_wish 25 rfl) (xx_dt dd_X7_wish 26 rfl) (by decide) (by decide) (by rw [hQ]; exact ⟨by unfold o_wish; simp only [if_pos q1, if_pos q2, if_pos q3, if_pos q4, if_pos q5]; rfl, by unfold g_wish; simp only [if_pos q1, if_pos q2, if_pos q3, if_pos q4, if_pos q5]⟩)
        · exact sw_callVt (as := [.int 1]) (st := []) (k := 0) (n := 0) (k' := 1) (n' := 6) O (ct_X7_needStage_no hl (σ := σ) q4) ce_X7_needStage ml_X7_65 iv_X7_needStage cl_X7 rfl (ly_1000 σ h) (xx_dt dd_X7_wish 12 rfl) (by decide) rfl rfl (Nat.le_of_ble_eq_true rfl)  (by rw [hQ]; exact ⟨by unfold o_wish; simp only [if_pos q1, if_pos q2, if_pos q3, if_neg q4]; rfl, by unfold g_wish; simp only [if_pos q1, if_pos q2, if_pos q3, if_neg q4]⟩)
      · exact sw_callSt (as := [.int z, .int 0, .int 5]) (st := []) (k := 0) (n := 0) (k' := 1) (n' := 6) O (ct_X7_needBetween_no hl  q3) ce_X7_needBetween ml_X7_61 st_X7_needBetween (xx_dt dd_X7_wish 9 rfl) (by decide) rfl rfl (Nat.le_of_ble_eq_true rfl)  (by rw [hQ]; exact ⟨by unfold o_wish; simp only [if_pos q1, if_pos q2, if_neg q3]; rfl, by unfold g_wish; simp only [if_pos q1, if_pos q2, if_neg q3]⟩)
    · exact sw_callVt (as := [.int y]) (st := []) (k := 0) (n := 0) (k' := 1) (n' := 6) O (ct_X7_needRegion_no hl (σ := σ) (R := R) hR (by omega) q2) ce_X7_needRegion ml_X7_87 iv_X7_needRegion cl_X7 rfl (ly_1000 σ h) (xx_dt dd_X7_wish 5 rfl) (by decide) rfl rfl (Nat.le_of_ble_eq_true rfl)  (by rw [hQ]; exact ⟨by unfold o_wish; simp only [if_pos q1, if_neg q2]; rfl, by unfold g_wish; simp only [if_pos q1, if_neg q2]⟩)
  · exact sw_callVt (as := [.int x]) (st := []) (k := 0) (n := 0) (k' := 1) (n' := 6) O (ct_X7_needBidder_no hl (σ := σ) (B := B) hB (by omega) q1) ce_X7_needBidder ml_X7_124 iv_X7_needBidder cl_X7 rfl (ly_1000 σ h) (xx_dt dd_X7_wish 2 rfl) (by decide) rfl rfl (Nat.le_of_ble_eq_true rfl)  (by rw [hQ]; exact ⟨by unfold o_wish; simp only [if_neg q1]; rfl, by unfold g_wish; simp only [if_neg q1]⟩)
def o_waive (σ : XS9) (x : Int32) (B : Nat) : Int32 ⊕ String := (if n_lt x B then (if σ 1000 7 = 1 then (if (σ (2000 + 5) (cn x)) ≤ 0 then .inr eISE else (if (f_hasWaived σ 2000 (cn x)) = 0 then .inl ((g_useWaiver σ 2000 (cn x)) (2000 + 5) (cn x)) else .inr eISE)) else .inr eISE) else .inr eIOB)
def g_waive (σ : XS9) (x : Int32) (B : Nat) : XS9 := (if n_lt x B then (if σ 1000 7 = 1 then (if (σ (2000 + 5) (cn x)) ≤ 0 then σ else (if (f_hasWaived σ 2000 (cn x)) = 0 then g_useWaiver σ 2000 (cn x) else σ)) else σ) else σ)
theorem ct_X7_waive {l : Launch} {h : XH} (hl : l.stackTraces = false) {σ : XS9} {B : Nat} (hB : σ 1001 9 = nI B) (hB6 : B ≤ 6) {x : Int32} : XEo l m_X7_waive 7 1 6 [.ref 1000, .int x] (setC σ h) ((xoi (o_waive σ x B))) (setC (g_waive σ x B) h) := by
  refine XMet.of hl rfl rfl (Nat.le_of_ble_eq_true rfl) (fun Y O hh hQ => ?_)
  show SW Y 1 6 (setC σ h) 0 [.ref 1000, .int x] []
  refine sw_aload_n O (xx_dt dd_X7_waive 0 rfl) rfl ?_
  refine sw_iload_n O (xx_dt dd_X7_waive 1 rfl) rfl ?_
  by_cases q1 : n_lt x B
  · refine sw_callVx (as := [.int x]) (st := []) (st2 := []) (k' := 0) (n' := 0) O (ct_X7_needBidder_ok hl (σ := σ) (B := B) hB (by omega) q1) ce_X7_needBidder ml_X7_124 iv_X7_needBidder cl_X7 rfl (ly_1000 σ h) (xx_dt dd_X7_waive 2 rfl) (by decide) rfl rfl (Nat.le_of_ble_eq_true rfl) rfl ?_
    refine sw_lsE (ls2 := [.ref 1000, .int (nI (cn x))]) (by rw [← q1.1]) ?_
    have hvq1 := q1.2
    refine sw_aload_n O (xx_dt dd_X7_waive 3 rfl) rfl ?_
    refine sw_iconst (x := 1) O (xx_dt dd_X7_waive 4 rfl) (by decide) ?_
    by_cases q2 : σ 1000 7 = 1
    · refine sw_callVx (as := [.int 1]) (st := []) (st2 := []) (k' := 0) (n' := 0) O (ct_X7_needStage_ok hl (σ := σ) q2) ce_X7_needStage ml_X7_65 iv_X7_needStage cl_X7 rfl (ly_1000 σ h) (xx_dt dd_X7_waive 5 rfl) (by decide) rfl rfl (Nat.le_of_ble_eq_true rfl) rfl ?_
      refine sw_aload_n O (xx_dt dd_X7_waive 6 rfl) rfl ?_
      refine sw_get (v := .ref 2000) O (xx_dt dd_X7_waive 7 rfl) cl_X7 fl_X7_19 (ly_1000 σ h) (by decide) rfl ?_
      refine sw_get (v := .ref (2000 + 5)) O (xx_dt dd_X7_waive 8 rfl) cl_X1 fl_X7_149 (lk_0 σ h (.inl rfl)) (by decide) rfl ?_
      refine sw_iload_n O (xx_dt dd_X7_waive 9 rfl) rfl ?_
      refine sw_iaload (v := .int (σ (2000 + 5) (cn x))) O (xx_dt dd_X7_waive 10 rfl) (lk_5 σ h (.inl rfl)) (pk_in (cn x) _ (by omega)) (by rw [nI_clamp (by omega)]; try exact rfl) ?_
      refine sw_if_le (tgt := 33) O (xx_dt dd_X7_waive 11 rfl) (by decide) (fun q3 => ?_) (fun q3 => ?_)
      · exact sw_throw (k := 0) (n := 0) O ex_ISE th_X7_waive_33 (xx_dt dd_X7_waive 17 rfl) (xx_dt dd_X7_waive 18 rfl) (xx_dt dd_X7_waive 19 rfl) (xx_dt dd_X7_waive 20 rfl) (xx_dt dd_X7_waive 21 rfl) (by decide) (by decide) (by rw [hQ]; exact ⟨by unfold o_waive; simp only [if_pos q1, if_pos q2, if_pos q3]; rfl, by unfold g_waive; simp only [if_pos q1, if_pos q2, if_pos q3]⟩)
      · refine sw_aload_n O (xx_dt dd_X7_waive 12 rfl) rfl ?_
        refine sw_get (v := .ref 2000) O (xx_dt dd_X7_waive 13 rfl) cl_X7 fl_X7_19 (ly_1000 σ h) (by decide) rfl ?_
        refine sw_iload_n O (xx_dt dd_X7_waive 14 rfl) rfl ?_
        refine sw_callVx (as := [.int (nI (cn x))]) (st := []) (st2 := [.int (f_hasWaived σ 2000 (cn x))]) O (ct_X1_hasWaived hl (σ := σ) (b := 2000) (.inl rfl) (i := cn x)) ce_X1_hasWaived ml_X7_152 iv_X1_hasWaived cl_X1 rfl (lk_0 σ h (.inl rfl)) (xx_dt dd_X7_waive 15 rfl) (by decide) rfl rfl (Nat.le_of_ble_eq_true rfl) rfl ?_
        refine sw_if_eq (tgt := 43) O (xx_dt dd_X7_waive 16 rfl) (by decide) (fun q4 => ?_) (fun q4 => ?_)
        · refine sw_aload_n O (xx_dt dd_X7_waive 22 rfl) rfl ?_
          refine sw_get (v := .ref 2000) O (xx_dt dd_X7_waive 23 rfl) cl_X7 fl_X7_19 (ly_1000 σ h) (by decide) rfl ?_
          refine sw_iload_n O (xx_dt dd_X7_waive 24 rfl) rfl ?_
          refine sw_callVx (as := [.int (nI (cn x))]) (st := []) (st2 := []) O (ct_X1_useWaiver hl (σ := σ) (b := 2000) (.inl rfl)  (i := cn x) (by omega)) ce_X1_useWaiver ml_X7_158 iv_X1_useWaiver cl_X1 rfl (lk_0 σ h (.inl rfl)) (xx_dt dd_X7_waive 25 rfl) (by decide) rfl rfl (Nat.le_of_ble_eq_true rfl) rfl ?_
          refine sw_aload_n O (xx_dt dd_X7_waive 26 rfl) rfl ?_
          refine sw_get (v := .ref 2000) O (xx_dt dd_X7_waive 27 rfl) cl_X7 fl_X7_19 (ly_1000 (g_useWaiver σ 2000 (cn x)) h) (by decide) rfl ?_
          refine sw_get (v := .ref (2000 + 5)) O (xx_dt dd_X7_waive 28 rfl) cl_X1 fl_X7_149 (lk_0 (g_useWaiver σ 2000 (cn x)) h (.inl rfl)) (by decide) rfl ?_
          refine sw_iload_n O (xx_dt dd_X7_waive 29 rfl) rfl ?_
          refine sw_iaload (v := .int ((g_useWaiver σ 2000 (cn x)) (2000 + 5) (cn x))) O (xx_dt dd_X7_waive 30 rfl) (lk_5 (g_useWaiver σ 2000 (cn x)) h (.inl rfl)) (pk_in (cn x) _ (by omega)) (by rw [nI_clamp (by omega)]; try exact rfl) ?_
          exact sw_iret O (xx_dt dd_X7_waive 31 rfl) rfl rfl (by rw [hQ]; exact ⟨by unfold o_waive; simp only [if_pos q1, if_pos q2, if_neg q3, if_pos q4]; rfl, by unfold g_waive; simp only [if_pos q1, if_pos q2, if_neg q3, if_pos q4]⟩)
        · exact sw_throw (k := 0) (n := 0) O ex_ISE th_X7_waive_33 (xx_dt dd_X7_waive 17 rfl) (xx_dt dd_X7_waive 18 rfl) (xx_dt dd_X7_waive 19 rfl) (xx_dt dd_X7_waive 20 rfl) (xx_dt dd_X7_waive 21 rfl) (by decide) (by decide) (by rw [hQ]; exact ⟨by unfold o_waive; simp only [if_pos q1, if_pos q2, if_neg q3, if_neg q4]; rfl, by unfold g_waive; simp only [if_pos q1, if_pos q2, if_neg q3, if_neg q4]⟩)
    · exact sw_callVt (as := [.int 1]) (st := []) (k := 0) (n := 0) (k' := 1) (n' := 6) O (ct_X7_needStage_no hl (σ := σ) q2) ce_X7_needStage ml_X7_65 iv_X7_needStage cl_X7 rfl (ly_1000 σ h) (xx_dt dd_X7_waive 5 rfl) (by decide) rfl rfl (Nat.le_of_ble_eq_true rfl)  (by rw [hQ]; exact ⟨by unfold o_waive; simp only [if_pos q1, if_neg q2]; rfl, by unfold g_waive; simp only [if_pos q1, if_neg q2]⟩)
  · exact sw_callVt (as := [.int x]) (st := []) (k := 0) (n := 0) (k' := 1) (n' := 6) O (ct_X7_needBidder_no hl (σ := σ) (B := B) hB (by omega) q1) ce_X7_needBidder ml_X7_124 iv_X7_needBidder cl_X7 rfl (ly_1000 σ h) (xx_dt dd_X7_waive 2 rfl) (by decide) rfl rfl (Nat.le_of_ble_eq_true rfl)  (by rw [hQ]; exact ⟨by unfold o_waive; simp only [if_neg q1]; rfl, by unfold g_waive; simp only [if_neg q1]⟩)
def o_station (σ : XS9) (x y : Int32) (R C : Nat) : Int32 ⊕ String := (if n_lt x R then (if n_bt y 1 9999 then (if (nI C) < 10 then .inl (f_add σ (nI (cn x)) y C) else .inr eISE) else .inr eIAE) else .inr eIOB)
def g_station (σ : XS9) (x y : Int32) (R C : Nat) : XS9 := (if n_lt x R then (if n_bt y 1 9999 then (if (nI C) < 10 then g_add σ (nI (cn x)) y C else σ) else σ) else σ)
theorem ct_X7_station {l : Launch} {h : XH} (hl : l.stackTraces = false) {σ : XS9} {R : Nat} (hR : σ 1001 4 = nI R) (hR5 : R ≤ 5) {C : Nat} (hC : σ 1006 1 = nI C) (hC10 : C ≤ 10) {x y : Int32} : XEo l m_X7_station 7 1 6 [.ref 1000, .int x, .int y] (setC σ h) ((xoi (o_station σ x y R C))) (setC (g_station σ x y R C) h) := by
  refine XMet.of hl rfl rfl (Nat.le_of_ble_eq_true rfl) (fun Y O hh hQ => ?_)
  show SW Y 1 6 (setC σ h) 0 [.ref 1000, .int x, .int y] []
  refine sw_aload_n O (xx_dt dd_X7_station 0 rfl) rfl ?_
  refine sw_iload_n O (xx_dt dd_X7_station 1 rfl) rfl ?_
  by_cases q1 : n_lt x R
  · refine sw_callVx (as := [.int x]) (st := []) (st2 := []) (k' := 0) (n' := 0) O (ct_X7_needRegion_ok hl (σ := σ) (R := R) hR (by omega) q1) ce_X7_needRegion ml_X7_87 iv_X7_needRegion cl_X7 rfl (ly_1000 σ h) (xx_dt dd_X7_station 2 rfl) (by decide) rfl rfl (Nat.le_of_ble_eq_true rfl) rfl ?_
    refine sw_lsE (ls2 := [.ref 1000, .int (nI (cn x)), .int y]) (by rw [← q1.1]) ?_
    have hvq1 := q1.2
    refine sw_iload_n O (xx_dt dd_X7_station 3 rfl) rfl ?_
    refine sw_iconst (x := 1) O (xx_dt dd_X7_station 4 rfl) (by decide) ?_
    refine sw_sipush (x := 9999) O (xx_dt dd_X7_station 5 rfl) (by decide) ?_
    by_cases q2 : n_bt y 1 9999
    · refine sw_callSx (as := [.int y, .int 1, .int 9999]) (st := []) (st2 := []) (k' := 0) (n' := 0) O (ct_X7_needBetween_ok hl  q2) ce_X7_needBetween ml_X7_61 st_X7_needBetween (xx_dt dd_X7_station 6 rfl) (by decide) rfl rfl (Nat.le_of_ble_eq_true rfl) rfl ?_
      refine sw_aload_n O (xx_dt dd_X7_station 7 rfl) rfl ?_
      refine sw_get (v := .ref 1006) O (xx_dt dd_X7_station 8 rfl) cl_X7 fl_X7_50 (ly_1000 σ h) (by decide) rfl ?_
      refine sw_get (v := .int (nI C)) O (xx_dt dd_X7_station 9 rfl) cl_X5 fl_X7_215 (ly_1006 σ h) (by decide) (congrArg Value.int hC) ?_
      refine sw_bipush (x := 10) O (xx_dt dd_X7_station 10 rfl) (by decide) ?_
      refine sw_icmp_lt (tgt := 35) O (xx_dt dd_X7_station 11 rfl) (by decide) (fun q3 => ?_) (fun q3 => ?_)
      · have hfq3 : C < 10 := (nI_ltI (a := C) (b := 10) (by omega) (by omega)).mp q3
        refine sw_aload_n O (xx_dt dd_X7_station 17 rfl) rfl ?_
        refine sw_get (v := .ref 1006) O (xx_dt dd_X7_station 18 rfl) cl_X7 fl_X7_50 (ly_1000 σ h) (by decide) rfl ?_
        refine sw_iload_n O (xx_dt dd_X7_station 19 rfl) rfl ?_
        refine sw_iload_n O (xx_dt dd_X7_station 20 rfl) rfl ?_
        refine sw_callVx (as := [.int (nI (cn x)), .int y]) (st := []) (st2 := [.int (f_add σ (nI (cn x)) y C)]) O (ct_X5_add hl (σ := σ) (C := C) hC (by omega) (x := nI (cn x)) (y := y)) ce_X5_add ml_X7_220 iv_X5_add cl_X5 rfl (ly_1006 σ h) (xx_dt dd_X7_station 21 rfl) (by decide) rfl rfl (Nat.le_of_ble_eq_true rfl) rfl ?_
        exact sw_iret O (xx_dt dd_X7_station 22 rfl) rfl rfl (by rw [hQ]; exact ⟨by unfold o_station; simp only [if_pos q1, if_pos q2, if_pos q3]; rfl, by unfold g_station; simp only [if_pos q1, if_pos q2, if_pos q3]⟩)
      · have hfq3 : ¬ C < 10 := fun e => q3 ((nI_ltI (a := C) (b := 10) (by omega) (by omega)).mpr e)
        exact sw_throw (k := 0) (n := 0) O ex_ISE th_X7_station_25 (xx_dt dd_X7_station 12 rfl) (xx_dt dd_X7_station 13 rfl) (xx_dt dd_X7_station 14 rfl) (xx_dt dd_X7_station 15 rfl) (xx_dt dd_X7_station 16 rfl) (by decide) (by decide) (by rw [hQ]; exact ⟨by unfold o_station; simp only [if_pos q1, if_pos q2, if_neg q3]; rfl, by unfold g_station; simp only [if_pos q1, if_pos q2, if_neg q3]⟩)
    · exact sw_callSt (as := [.int y, .int 1, .int 9999]) (st := []) (k := 0) (n := 0) (k' := 1) (n' := 6) O (ct_X7_needBetween_no hl  q2) ce_X7_needBetween ml_X7_61 st_X7_needBetween (xx_dt dd_X7_station 6 rfl) (by decide) rfl rfl (Nat.le_of_ble_eq_true rfl)  (by rw [hQ]; exact ⟨by unfold o_station; simp only [if_pos q1, if_neg q2]; rfl, by unfold g_station; simp only [if_pos q1, if_neg q2]⟩)
  · exact sw_callVt (as := [.int x]) (st := []) (k := 0) (n := 0) (k' := 1) (n' := 6) O (ct_X7_needRegion_no hl (σ := σ) (R := R) hR (by omega) q1) ce_X7_needRegion ml_X7_87 iv_X7_needRegion cl_X7 rfl (ly_1000 σ h) (xx_dt dd_X7_station 2 rfl) (by decide) rfl rfl (Nat.le_of_ble_eq_true rfl)  (by rw [hQ]; exact ⟨by unfold o_station; simp only [if_neg q1]; rfl, by unfold g_station; simp only [if_neg q1]⟩)
def o_ask (σ : XS9) (x y : Int32) (C : Nat) : Int32 ⊕ String := (if n_lt x C then (if n_bt y 1 9999 then .inl (σ 1150 (cn x)) else .inr eIAE) else .inr eIOB)
def g_ask (σ : XS9) (x y : Int32) (C : Nat) : XS9 := (if n_lt x C then (if n_bt y 1 9999 then u2 σ 1150 (cn x) y else σ) else σ)
theorem ct_X7_ask {l : Launch} {h : XH} (hl : l.stackTraces = false) {σ : XS9} {C : Nat} (hC : σ 1006 1 = nI C) (hC10 : C ≤ 10) {x y : Int32} : XEo l m_X7_ask 7 1 6 [.ref 1000, .int x, .int y] (setC σ h) ((xoi (o_ask σ x y C))) (setC (g_ask σ x y C) h) := by
  refine XMet.of hl rfl rfl (Nat.le_of_ble_eq_true rfl) (fun Y O hh hQ => ?_)
  show SW Y 1 6 (setC σ h) 0 [.ref 1000, .int x, .int y, xx_d] []
  refine sw_aload_n O (xx_dt dd_X7_ask 0 rfl) rfl ?_
  refine sw_iload_n O (xx_dt dd_X7_ask 1 rfl) rfl ?_
  by_cases q1 : n_lt x C
  · refine sw_callVx (as := [.int x]) (st := []) (st2 := []) (k' := 0) (n' := 0) O (ct_X7_needStation_ok hl (σ := σ) (C := C) hC (by omega) q1) ce_X7_needStation ml_X7_222 iv_X7_needStation cl_X7 rfl (ly_1000 σ h) (xx_dt dd_X7_ask 2 rfl) (by decide) rfl rfl (Nat.le_of_ble_eq_true rfl) rfl ?_
    refine sw_lsE (ls2 := [.ref 1000, .int (nI (cn x)), .int y, xx_d]) (by rw [← q1.1]) ?_
    have hvq1 := q1.2
    refine sw_iload_n O (xx_dt dd_X7_ask 3 rfl) rfl ?_
    refine sw_iconst (x := 1) O (xx_dt dd_X7_ask 4 rfl) (by decide) ?_
    refine sw_sipush (x := 9999) O (xx_dt dd_X7_ask 5 rfl) (by decide) ?_
    by_cases q2 : n_bt y 1 9999
    · refine sw_callSx (as := [.int y, .int 1, .int 9999]) (st := []) (st2 := []) (k' := 0) (n' := 0) O (ct_X7_needBetween_ok hl  q2) ce_X7_needBetween ml_X7_61 st_X7_needBetween (xx_dt dd_X7_ask 6 rfl) (by decide) rfl rfl (Nat.le_of_ble_eq_true rfl) rfl ?_
      refine sw_aload_n O (xx_dt dd_X7_ask 7 rfl) rfl ?_
      refine sw_get (v := .ref 1006) O (xx_dt dd_X7_ask 8 rfl) cl_X7 fl_X7_50 (ly_1000 σ h) (by decide) rfl ?_
      refine sw_get (v := .ref 1150) O (xx_dt dd_X7_ask 9 rfl) cl_X5 fl_X7_225 (ly_1006 σ h) (by decide) rfl ?_
      refine sw_iload_n O (xx_dt dd_X7_ask 10 rfl) rfl ?_
      refine sw_iaload (v := .int (σ 1150 (cn x))) O (xx_dt dd_X7_ask 11 rfl) (ly_1150 σ h) (pk_in (cn x) _ (by omega)) (by rw [nI_clamp (by omega)]; try exact rfl) ?_
      refine sw_istore_n (ls2 := [.ref 1000, .int (nI (cn x)), .int y, .int (σ 1150 (cn x))]) O (xx_dt dd_X7_ask 12 rfl) (by decide) rfl ?_
      refine sw_aload_n O (xx_dt dd_X7_ask 13 rfl) rfl ?_
      refine sw_get (v := .ref 1006) O (xx_dt dd_X7_ask 14 rfl) cl_X7 fl_X7_50 (ly_1000 σ h) (by decide) rfl ?_
      refine sw_get (v := .ref 1150) O (xx_dt dd_X7_ask 15 rfl) cl_X5 fl_X7_225 (ly_1006 σ h) (by decide) rfl ?_
      refine sw_iload_n O (xx_dt dd_X7_ask 16 rfl) rfl ?_
      refine sw_iload_n O (xx_dt dd_X7_ask 17 rfl) rfl ?_
      refine sw_iastore (h2 := setC (u2 σ 1150 (cn x) y) h) O (xx_dt dd_X7_ask 18 rfl) (ly_1150 σ h) (pk_in (cn x) _ (by omega)) (by decide) (by rw [nI_clamp (by omega)]; exact pa_1150) ?_
      refine sw_iload_n O (xx_dt dd_X7_ask 19 rfl) rfl ?_
      exact sw_iret O (xx_dt dd_X7_ask 20 rfl) rfl rfl (by rw [hQ]; exact ⟨by unfold o_ask; simp only [if_pos q1, if_pos q2]; rfl, by unfold g_ask; simp only [if_pos q1, if_pos q2]⟩)
    · exact sw_callSt (as := [.int y, .int 1, .int 9999]) (st := []) (k := 0) (n := 0) (k' := 1) (n' := 6) O (ct_X7_needBetween_no hl  q2) ce_X7_needBetween ml_X7_61 st_X7_needBetween (xx_dt dd_X7_ask 6 rfl) (by decide) rfl rfl (Nat.le_of_ble_eq_true rfl)  (by rw [hQ]; exact ⟨by unfold o_ask; simp only [if_pos q1, if_neg q2]; rfl, by unfold g_ask; simp only [if_pos q1, if_neg q2]⟩)
  · exact sw_callVt (as := [.int x]) (st := []) (k := 0) (n := 0) (k' := 1) (n' := 6) O (ct_X7_needStation_no hl (σ := σ) (C := C) hC (by omega) q1) ce_X7_needStation ml_X7_222 iv_X7_needStation cl_X7 rfl (ly_1000 σ h) (xx_dt dd_X7_ask 2 rfl) (by decide) rfl rfl (Nat.le_of_ble_eq_true rfl)  (by rw [hQ]; exact ⟨by unfold o_ask; simp only [if_neg q1]; rfl, by unfold g_ask; simp only [if_neg q1]⟩)
def f_knock (σ : XS9)  : Int32 := (σ 1000 11) + 1
def g_knock (σ : XS9)  : XS9 := u2 σ 1000 11 ((σ 1000 11) + 1)
theorem ct_X7_knock {l : Launch} {h : XH} (hl : l.stackTraces = false) {σ : XS9}  : XEx l m_X7_knock 0 0 0 [.ref 1000] (setC σ h) (some (.int (f_knock σ))) (setC (g_knock σ) h) := by
  refine XMet.of hl rfl rfl (Nat.le_of_ble_eq_true rfl) (fun Y O hh hQ => ?_)
  show SW Y 0 0 (setC σ h) 0 [.ref 1000] []
  refine sw_aload_n O (xx_dt dd_X7_knock 0 rfl) rfl ?_
  refine sw_dup O (xx_dt dd_X7_knock 1 rfl) rfl ?_
  refine sw_get (v := .int (σ 1000 11)) O (xx_dt dd_X7_knock 2 rfl) cl_X7 fl_X7_333 (ly_1000 σ h) (by decide) rfl ?_
  refine sw_iconst (x := 1) O (xx_dt dd_X7_knock 3 rfl) (by decide) ?_
  refine sw_iadd O (xx_dt dd_X7_knock 4 rfl) ?_
  refine sw_put (h2 := setC (u2 σ 1000 11 ((σ 1000 11) + 1)) h) O (xx_dt dd_X7_knock 5 rfl) cl_X7 fl_X7_333 (ly_1000 σ h) (by decide) (by decide) rfl (fun _ => ⟨rfl, rfl⟩) pu_1000_11 ?_
  refine sw_aload_n O (xx_dt dd_X7_knock 6 rfl) rfl ?_
  refine sw_get (v := .int ((σ 1000 11) + 1)) O (xx_dt dd_X7_knock 7 rfl) cl_X7 fl_X7_333 (ly_1000 (u2 σ 1000 11 ((σ 1000 11) + 1)) h) (by decide) rfl ?_
  exact sw_iret O (xx_dt dd_X7_knock 8 rfl) rfl rfl (by rw [hQ]; exact ⟨by unfold f_knock; rfl, by unfold g_knock; rfl⟩)
end
section
/-! ===== what is asked ===== -/
def f_regionFact (σ : XS9) (C r : Nat) (v : Nat) : Int32 := match v with | 0 => f_regionFact0 σ C r | 1 => f_regionFact1 σ C r | 2 => f_regionFact2 σ C r | 3 => f_regionFact3 σ C r | 4 => f_regionFact4 σ C r | 5 => f_regionFact5 σ C r | 6 => f_regionFact6 σ C r | 7 => f_regionFact7 σ C r | _ => f_regionFact8 σ C r
theorem ct_X7_regionFact {l : Launch} {h : XH} (hl : l.stackTraces = false) {σ : XS9} {C : Nat} (hC : σ 1006 1 = nI C) (hC10 : C ≤ 10) {r : Nat} (hr : r < 5) {v : Nat} (hv : v < 9) : XEx l m_X7_regionFact 2 0 0 [.ref 1000, .int (nI r), .int (nI v)] (setC σ h) (some (.int (f_regionFact σ C r v))) (setC σ h) := by
  match v, hv with
  | 0, _ => exact ct_X7_regionFact_0 hl hC hC10 hr
  | 1, _ => exact ct_X7_regionFact_1 hl hC hC10 hr
  | 2, _ => exact ct_X7_regionFact_2 hl hC hC10 hr
  | 3, _ => exact ct_X7_regionFact_3 hl hC hC10 hr
  | 4, _ => exact ct_X7_regionFact_4 hl hC hC10 hr
  | 5, _ => exact ct_X7_regionFact_5 hl hC hC10 hr
  | 6, _ => exact ct_X7_regionFact_6 hl hC hC10 hr
  | 7, _ => exact ct_X7_regionFact_7 hl hC hC10 hr
  | 8, _ => exact ct_X7_regionFact_8 hl hC hC10 hr
def f_bidderFact (σ : XS9) (i : Nat) (v : Nat) : Int32 := match v with | 0 => f_bidderFact0 σ i | 1 => f_bidderFact1 σ i | 2 => f_bidderFact2 σ i | 3 => f_bidderFact3 σ i | 4 => f_bidderFact4 σ i | 5 => f_bidderFact5 σ i | 6 => f_bidderFact6 σ i | 7 => f_bidderFact7 σ i | 8 => f_bidderFact8 σ i | 9 => f_bidderFact9 σ i | _ => f_bidderFact10 σ i
theorem ct_X7_bidderFact {l : Launch} {h : XH} (hl : l.stackTraces = false) {σ : XS9} {i : Nat} (hi : i < 6) {v : Nat} (hv : v < 11) : XEx l m_X7_bidderFact 2 0 0 [.ref 1000, .int (nI i), .int (nI v)] (setC σ h) (some (.int (f_bidderFact σ i v))) (setC σ h) := by
  match v, hv with
  | 0, _ => exact ct_X7_bidderFact_0 hl hi
  | 1, _ => exact ct_X7_bidderFact_1 hl hi
  | 2, _ => exact ct_X7_bidderFact_2 hl hi
  | 3, _ => exact ct_X7_bidderFact_3 hl hi
  | 4, _ => exact ct_X7_bidderFact_4 hl hi
  | 5, _ => exact ct_X7_bidderFact_5 hl hi
  | 6, _ => exact ct_X7_bidderFact_6 hl hi
  | 7, _ => exact ct_X7_bidderFact_7 hl hi
  | 8, _ => exact ct_X7_bidderFact_8 hl hi
  | 9, _ => exact ct_X7_bidderFact_9 hl hi
  | 10, _ => exact ct_X7_bidderFact_10 hl hi
def o_ofRegion (σ : XS9) (x y : Int32) (R C : Nat) : Int32 ⊕ String := (if n_lt x R then (if n_bt y 0 8 then .inl (f_regionFact σ C (cn x) (cn y)) else .inr eIAE) else .inr eIOB)
theorem ct_X7_ofRegion {l : Launch} {h : XH} (hl : l.stackTraces = false) {σ : XS9} {R : Nat} (hR : σ 1001 4 = nI R) (hR5 : R ≤ 5) {C : Nat} (hC : σ 1006 1 = nI C) (hC10 : C ≤ 10) {x y : Int32} : XEo l m_X7_ofRegion 7 1 6 [.ref 1000, .int x, .int y] (setC σ h) ((xoi (o_ofRegion σ x y R C))) (setC σ h) := by
  refine XMet.of hl rfl rfl (Nat.le_of_ble_eq_true rfl) (fun Y O hh hQ => ?_)
  show SW Y 1 6 (setC σ h) 0 [.ref 1000, .int x, .int y] []
  refine sw_aload_n O (xx_dt dd_X7_ofRegion 0 rfl) rfl ?_
  refine sw_iload_n O (xx_dt dd_X7_ofRegion 1 rfl) rfl ?_
  by_cases q1 : n_lt x R
  · refine sw_callVx (as := [.int x]) (st := []) (st2 := []) (k' := 0) (n' := 0) O (ct_X7_needRegion_ok hl (σ := σ) (R := R) hR (by omega) q1) ce_X7_needRegion ml_X7_87 iv_X7_needRegion cl_X7 rfl (ly_1000 σ h) (xx_dt dd_X7_ofRegion 2 rfl) (by decide) rfl rfl (Nat.le_of_ble_eq_true rfl) rfl ?_
    refine sw_lsE (ls2 := [.ref 1000, .int (nI (cn x)), .int y]) (by rw [← q1.1]) ?_
    have hvq1 := q1.2
    refine sw_iload_n O (xx_dt dd_X7_ofRegion 3 rfl) rfl ?_
    refine sw_iconst (x := 0) O (xx_dt dd_X7_ofRegion 4 rfl) (by decide) ?_
    refine sw_bipush (x := 8) O (xx_dt dd_X7_ofRegion 5 rfl) (by decide) ?_
    by_cases q2 : n_bt y 0 8
    · refine sw_callSx (as := [.int y, .int 0, .int 8]) (st := []) (st2 := []) (k' := 0) (n' := 0) O (ct_X7_needBetween_ok hl  q2) ce_X7_needBetween ml_X7_61 st_X7_needBetween (xx_dt dd_X7_ofRegion 6 rfl) (by decide) rfl rfl (Nat.le_of_ble_eq_true rfl) rfl ?_
      refine sw_lsE (ls2 := [.ref 1000, .int (nI (cn x)), .int (nI (cn y))]) (by rw [← (bt_nat 8 q2 (by decide) (by decide) (by decide)).1]) ?_
      have hvq2 := (bt_nat 8 q2 (by decide) (by decide) (by decide)).2
      refine sw_aload_n O (xx_dt dd_X7_ofRegion 7 rfl) rfl ?_
      refine sw_iload_n O (xx_dt dd_X7_ofRegion 8 rfl) rfl ?_
      refine sw_iload_n O (xx_dt dd_X7_ofRegion 9 rfl) rfl ?_
      refine sw_callVx (as := [.int (nI (cn x)), .int (nI (cn y))]) (st := []) (st2 := [.int (f_regionFact σ C (cn x) (cn y))]) O (ct_X7_regionFact hl (σ := σ) (C := C) hC (by omega) (r := cn x) (by omega) (v := cn y) (by omega)) ce_X7_regionFact ml_X7_243 iv_X7_regionFact cl_X7 rfl (ly_1000 σ h) (xx_dt dd_X7_ofRegion 10 rfl) (by decide) rfl rfl (Nat.le_of_ble_eq_true rfl) rfl ?_
      exact sw_iret O (xx_dt dd_X7_ofRegion 11 rfl) rfl rfl (by rw [hQ]; exact ⟨by unfold o_ofRegion; simp only [if_pos q1, if_pos q2]; rfl, rfl⟩)
    · exact sw_callSt (as := [.int y, .int 0, .int 8]) (st := []) (k := 0) (n := 0) (k' := 1) (n' := 6) O (ct_X7_needBetween_no hl  q2) ce_X7_needBetween ml_X7_61 st_X7_needBetween (xx_dt dd_X7_ofRegion 6 rfl) (by decide) rfl rfl (Nat.le_of_ble_eq_true rfl)  (by rw [hQ]; exact ⟨by unfold o_ofRegion; simp only [if_pos q1, if_neg q2]; rfl, rfl⟩)
  · exact sw_callVt (as := [.int x]) (st := []) (k := 0) (n := 0) (k' := 1) (n' := 6) O (ct_X7_needRegion_no hl (σ := σ) (R := R) hR (by omega) q1) ce_X7_needRegion ml_X7_87 iv_X7_needRegion cl_X7 rfl (ly_1000 σ h) (xx_dt dd_X7_ofRegion 2 rfl) (by decide) rfl rfl (Nat.le_of_ble_eq_true rfl)  (by rw [hQ]; exact ⟨by unfold o_ofRegion; simp only [if_neg q1]; rfl, rfl⟩)
def o_ofBidder (σ : XS9) (x y : Int32) (B : Nat) : Int32 ⊕ String := (if n_lt x B then (if n_bt y 0 10 then .inl (f_bidderFact σ (cn x) (cn y)) else .inr eIAE) else .inr eIOB)
theorem ct_X7_ofBidder {l : Launch} {h : XH} (hl : l.stackTraces = false) {σ : XS9} {B : Nat} (hB : σ 1001 9 = nI B) (hB6 : B ≤ 6) {x y : Int32} : XEo l m_X7_ofBidder 7 1 6 [.ref 1000, .int x, .int y] (setC σ h) ((xoi (o_ofBidder σ x y B))) (setC σ h) := by
  refine XMet.of hl rfl rfl (Nat.le_of_ble_eq_true rfl) (fun Y O hh hQ => ?_)
  show SW Y 1 6 (setC σ h) 0 [.ref 1000, .int x, .int y] []
  refine sw_aload_n O (xx_dt dd_X7_ofBidder 0 rfl) rfl ?_
  refine sw_iload_n O (xx_dt dd_X7_ofBidder 1 rfl) rfl ?_
  by_cases q1 : n_lt x B
  · refine sw_callVx (as := [.int x]) (st := []) (st2 := []) (k' := 0) (n' := 0) O (ct_X7_needBidder_ok hl (σ := σ) (B := B) hB (by omega) q1) ce_X7_needBidder ml_X7_124 iv_X7_needBidder cl_X7 rfl (ly_1000 σ h) (xx_dt dd_X7_ofBidder 2 rfl) (by decide) rfl rfl (Nat.le_of_ble_eq_true rfl) rfl ?_
    refine sw_lsE (ls2 := [.ref 1000, .int (nI (cn x)), .int y]) (by rw [← q1.1]) ?_
    have hvq1 := q1.2
    refine sw_iload_n O (xx_dt dd_X7_ofBidder 3 rfl) rfl ?_
    refine sw_iconst (x := 0) O (xx_dt dd_X7_ofBidder 4 rfl) (by decide) ?_
    refine sw_bipush (x := 10) O (xx_dt dd_X7_ofBidder 5 rfl) (by decide) ?_
    by_cases q2 : n_bt y 0 10
    · refine sw_callSx (as := [.int y, .int 0, .int 10]) (st := []) (st2 := []) (k' := 0) (n' := 0) O (ct_X7_needBetween_ok hl  q2) ce_X7_needBetween ml_X7_61 st_X7_needBetween (xx_dt dd_X7_ofBidder 6 rfl) (by decide) rfl rfl (Nat.le_of_ble_eq_true rfl) rfl ?_
      refine sw_lsE (ls2 := [.ref 1000, .int (nI (cn x)), .int (nI (cn y))]) (by rw [← (bt_nat 10 q2 (by decide) (by decide) (by decide)).1]) ?_
      have hvq2 := (bt_nat 10 q2 (by decide) (by decide) (by decide)).2
      refine sw_aload_n O (xx_dt dd_X7_ofBidder 7 rfl) rfl ?_
      refine sw_iload_n O (xx_dt dd_X7_ofBidder 8 rfl) rfl ?_
      refine sw_iload_n O (xx_dt dd_X7_ofBidder 9 rfl) rfl ?_
      refine sw_callVx (as := [.int (nI (cn x)), .int (nI (cn y))]) (st := []) (st2 := [.int (f_bidderFact σ (cn x) (cn y))]) O (ct_X7_bidderFact hl (σ := σ) (i := cn x) (by omega) (v := cn y) (by omega)) ce_X7_bidderFact ml_X7_246 iv_X7_bidderFact cl_X7 rfl (ly_1000 σ h) (xx_dt dd_X7_ofBidder 10 rfl) (by decide) rfl rfl (Nat.le_of_ble_eq_true rfl) rfl ?_
      exact sw_iret O (xx_dt dd_X7_ofBidder 11 rfl) rfl rfl (by rw [hQ]; exact ⟨by unfold o_ofBidder; simp only [if_pos q1, if_pos q2]; rfl, rfl⟩)
    · exact sw_callSt (as := [.int y, .int 0, .int 10]) (st := []) (k := 0) (n := 0) (k' := 1) (n' := 6) O (ct_X7_needBetween_no hl  q2) ce_X7_needBetween ml_X7_61 st_X7_needBetween (xx_dt dd_X7_ofBidder 6 rfl) (by decide) rfl rfl (Nat.le_of_ble_eq_true rfl)  (by rw [hQ]; exact ⟨by unfold o_ofBidder; simp only [if_pos q1, if_neg q2]; rfl, rfl⟩)
  · exact sw_callVt (as := [.int x]) (st := []) (k := 0) (n := 0) (k' := 1) (n' := 6) O (ct_X7_needBidder_no hl (σ := σ) (B := B) hB (by omega) q1) ce_X7_needBidder ml_X7_124 iv_X7_needBidder cl_X7 rfl (ly_1000 σ h) (xx_dt dd_X7_ofBidder 2 rfl) (by decide) rfl rfl (Nat.le_of_ble_eq_true rfl)  (by rw [hQ]; exact ⟨by unfold o_ofBidder; simp only [if_neg q1]; rfl, rfl⟩)
def o_wants (σ : XS9) (x y z : Int32) (R B : Nat) : Int32 ⊕ String := (if n_lt x B then (if n_lt y R then (if z = 0 then .inl (f_many (σ (2000 + 3) (cn x)) (cn y)) else .inl (f_many (σ (2000 + 2) (cn x)) (cn y))) else .inr eIOB) else .inr eIOB)
theorem ct_X7_wants {l : Launch} {h : XH} (hl : l.stackTraces = false) {σ : XS9} {R : Nat} (hR : σ 1001 4 = nI R) (hR5 : R ≤ 5) {B : Nat} (hB : σ 1001 9 = nI B) (hB6 : B ≤ 6) {x y z : Int32} : XEo l m_X7_wants 7 1 6 [.ref 1000, .int x, .int y, .int z] (setC σ h) ((xoi (o_wants σ x y z R B))) (setC σ h) := by
  refine XMet.of hl rfl rfl (Nat.le_of_ble_eq_true rfl) (fun Y O hh hQ => ?_)
  show SW Y 1 6 (setC σ h) 0 [.ref 1000, .int x, .int y, .int z] []
  refine sw_aload_n O (xx_dt dd_X7_wants 0 rfl) rfl ?_
  refine sw_iload_n O (xx_dt dd_X7_wants 1 rfl) rfl ?_
  by_cases q1 : n_lt x B
  · refine sw_callVx (as := [.int x]) (st := []) (st2 := []) (k' := 0) (n' := 0) O (ct_X7_needBidder_ok hl (σ := σ) (B := B) hB (by omega) q1) ce_X7_needBidder ml_X7_124 iv_X7_needBidder cl_X7 rfl (ly_1000 σ h) (xx_dt dd_X7_wants 2 rfl) (by decide) rfl rfl (Nat.le_of_ble_eq_true rfl) rfl ?_
    refine sw_lsE (ls2 := [.ref 1000, .int (nI (cn x)), .int y, .int z]) (by rw [← q1.1]) ?_
    have hvq1 := q1.2
    refine sw_aload_n O (xx_dt dd_X7_wants 3 rfl) rfl ?_
    refine sw_iload_n O (xx_dt dd_X7_wants 4 rfl) rfl ?_
    by_cases q2 : n_lt y R
    · refine sw_callVx (as := [.int y]) (st := []) (st2 := []) (k' := 0) (n' := 0) O (ct_X7_needRegion_ok hl (σ := σ) (R := R) hR (by omega) q2) ce_X7_needRegion ml_X7_87 iv_X7_needRegion cl_X7 rfl (ly_1000 σ h) (xx_dt dd_X7_wants 5 rfl) (by decide) rfl rfl (Nat.le_of_ble_eq_true rfl) rfl ?_
      refine sw_lsE (ls2 := [.ref 1000, .int (nI (cn x)), .int (nI (cn y)), .int z]) (by rw [← q2.1]) ?_
      have hvq2 := q2.2
      refine sw_iload_n O (xx_dt dd_X7_wants 6 rfl) rfl ?_
      refine sw_if_eq (tgt := 26) O (xx_dt dd_X7_wants 7 rfl) (by decide) (fun q3 => ?_) (fun q3 => ?_)
      · refine sw_aload_n O (xx_dt dd_X7_wants 14 rfl) rfl ?_
        refine sw_get (v := .ref 2000) O (xx_dt dd_X7_wants 15 rfl) cl_X7 fl_X7_19 (ly_1000 σ h) (by decide) rfl ?_
        refine sw_get (v := .ref (2000 + 3)) O (xx_dt dd_X7_wants 16 rfl) cl_X1 fl_X7_133 (lk_0 σ h (.inl rfl)) (by decide) rfl ?_
        refine sw_iload_n O (xx_dt dd_X7_wants 17 rfl) rfl ?_
        refine sw_iaload (v := .int (σ (2000 + 3) (cn x))) O (xx_dt dd_X7_wants 18 rfl) (lk_3 σ h (.inl rfl)) (pk_in (cn x) _ (by omega)) (by rw [nI_clamp (by omega)]; try exact rfl) ?_
        refine sw_iload_n O (xx_dt dd_X7_wants 19 rfl) rfl ?_
        refine sw_callSx (as := [.int (σ (2000 + 3) (cn x)), .int (nI (cn y))]) (st := []) (st2 := [.int (f_many (σ (2000 + 3) (cn x)) (cn y))]) O (ct_X0_many hl (c := σ (2000 + 3) (cn x)) (r := cn y) (by omega)) ce_X0_many ml_X7_252 st_X0_many (xx_dt dd_X7_wants 20 rfl) (by decide) rfl rfl (Nat.le_of_ble_eq_true rfl) rfl ?_
        exact sw_iret O (xx_dt dd_X7_wants 21 rfl) rfl rfl (by rw [hQ]; exact ⟨by unfold o_wants; simp only [if_pos q1, if_pos q2, if_pos q3]; rfl, rfl⟩)
      · refine sw_aload_n O (xx_dt dd_X7_wants 8 rfl) rfl ?_
        refine sw_get (v := .ref 2000) O (xx_dt dd_X7_wants 9 rfl) cl_X7 fl_X7_19 (ly_1000 σ h) (by decide) rfl ?_
        refine sw_get (v := .ref (2000 + 2)) O (xx_dt dd_X7_wants 10 rfl) cl_X1 fl_X7_249 (lk_0 σ h (.inl rfl)) (by decide) rfl ?_
        refine sw_iload_n O (xx_dt dd_X7_wants 11 rfl) rfl ?_
        refine sw_iaload (v := .int (σ (2000 + 2) (cn x))) O (xx_dt dd_X7_wants 12 rfl) (lk_2 σ h (.inl rfl)) (pk_in (cn x) _ (by omega)) (by rw [nI_clamp (by omega)]; try exact rfl) ?_
        refine sw_goto (tgt := 35) O (xx_dt dd_X7_wants 13 rfl) (by decide) ?_
        refine sw_iload_n O (xx_dt dd_X7_wants 19 rfl) rfl ?_
        refine sw_callSx (as := [.int (σ (2000 + 2) (cn x)), .int (nI (cn y))]) (st := []) (st2 := [.int (f_many (σ (2000 + 2) (cn x)) (cn y))]) O (ct_X0_many hl (c := σ (2000 + 2) (cn x)) (r := cn y) (by omega)) ce_X0_many ml_X7_252 st_X0_many (xx_dt dd_X7_wants 20 rfl) (by decide) rfl rfl (Nat.le_of_ble_eq_true rfl) rfl ?_
        exact sw_iret O (xx_dt dd_X7_wants 21 rfl) rfl rfl (by rw [hQ]; exact ⟨by unfold o_wants; simp only [if_pos q1, if_pos q2, if_neg q3]; rfl, rfl⟩)
    · exact sw_callVt (as := [.int y]) (st := []) (k := 0) (n := 0) (k' := 1) (n' := 6) O (ct_X7_needRegion_no hl (σ := σ) (R := R) hR (by omega) q2) ce_X7_needRegion ml_X7_87 iv_X7_needRegion cl_X7 rfl (ly_1000 σ h) (xx_dt dd_X7_wants 5 rfl) (by decide) rfl rfl (Nat.le_of_ble_eq_true rfl)  (by rw [hQ]; exact ⟨by unfold o_wants; simp only [if_pos q1, if_neg q2]; rfl, rfl⟩)
  · exact sw_callVt (as := [.int x]) (st := []) (k := 0) (n := 0) (k' := 1) (n' := 6) O (ct_X7_needBidder_no hl (σ := σ) (B := B) hB (by omega) q1) ce_X7_needBidder ml_X7_124 iv_X7_needBidder cl_X7 rfl (ly_1000 σ h) (xx_dt dd_X7_wants 2 rfl) (by decide) rfl rfl (Nat.le_of_ble_eq_true rfl)  (by rw [hQ]; exact ⟨by unfold o_wants; simp only [if_neg q1]; rfl, rfl⟩)
def o_priceIn (σ : XS9) (x y : Int32) (R K : Nat) : Int32 ⊕ String := (if n_rd x K then (if n_lt y R then .inl (σ (2000 + 101 + rn x) (cn y)) else .inr eIOB) else .inr eIOB)
theorem ct_X7_priceIn {l : Launch} {h : XH} (hl : l.stackTraces = false) {σ : XS9} {R : Nat} (hR : σ 1001 4 = nI R) (hR5 : R ≤ 5) {K : Nat} (hK : σ 2000 9 = nI K) (hK60 : K ≤ 60) {x y : Int32} : XEo l m_X7_priceIn 7 1 6 [.ref 1000, .int x, .int y] (setC σ h) ((xoi (o_priceIn σ x y R K))) (setC σ h) := by
  refine XMet.of hl rfl rfl (Nat.le_of_ble_eq_true rfl) (fun Y O hh hQ => ?_)
  show SW Y 1 6 (setC σ h) 0 [.ref 1000, .int x, .int y] []
  refine sw_aload_n O (xx_dt dd_X7_priceIn 0 rfl) rfl ?_
  refine sw_iload_n O (xx_dt dd_X7_priceIn 1 rfl) rfl ?_
  by_cases q1 : n_rd x K
  · refine sw_callVx (as := [.int x]) (st := []) (st2 := []) (k' := 0) (n' := 0) O (ct_X7_needRound_ok hl (σ := σ) (K := K) hK (by omega) q1) ce_X7_needRound ml_X7_255 iv_X7_needRound cl_X7 rfl (ly_1000 σ h) (xx_dt dd_X7_priceIn 2 rfl) (by decide) rfl rfl (Nat.le_of_ble_eq_true rfl) rfl ?_
    refine sw_lsE (ls2 := [.ref 1000, .int (nI (rn x + 1)), .int y]) (by rw [← q1.1]) ?_
    have hvq1 := q1.2
    refine sw_aload_n O (xx_dt dd_X7_priceIn 3 rfl) rfl ?_
    refine sw_iload_n O (xx_dt dd_X7_priceIn 4 rfl) rfl ?_
    by_cases q2 : n_lt y R
    · refine sw_callVx (as := [.int y]) (st := []) (st2 := []) (k' := 0) (n' := 0) O (ct_X7_needRegion_ok hl (σ := σ) (R := R) hR (by omega) q2) ce_X7_needRegion ml_X7_87 iv_X7_needRegion cl_X7 rfl (ly_1000 σ h) (xx_dt dd_X7_priceIn 5 rfl) (by decide) rfl rfl (Nat.le_of_ble_eq_true rfl) rfl ?_
      refine sw_lsE (ls2 := [.ref 1000, .int (nI (rn x + 1)), .int (nI (cn y))]) (by rw [← q2.1]) ?_
      have hvq2 := q2.2
      refine sw_aload_n O (xx_dt dd_X7_priceIn 6 rfl) rfl ?_
      refine sw_get (v := .ref 2000) O (xx_dt dd_X7_priceIn 7 rfl) cl_X7 fl_X7_19 (ly_1000 σ h) (by decide) rfl ?_
      refine sw_get (v := .ref (2000 + 100)) O (xx_dt dd_X7_priceIn 8 rfl) cl_X1 fl_X7_258 (lk_0 σ h (.inl rfl)) (by decide) rfl ?_
      refine sw_iload_n O (xx_dt dd_X7_priceIn 9 rfl) rfl ?_
      refine sw_iconst (x := 1) O (xx_dt dd_X7_priceIn 10 rfl) (by decide) ?_
      refine sw_isub O (xx_dt dd_X7_priceIn 11 rfl) ?_
      rw [nI_s1 (rn x)]
      refine sw_aaload (v := .ref (2000 + 101 + rn x)) O (xx_dt dd_X7_priceIn 12 rfl) (by omega) (by omega) (lk_100 σ h (.inl rfl)) (pk_in (rn x) _ (by omega)) (by rw [nI_clamp (by omega)]; try exact rfl) ?_
      refine sw_iload_n O (xx_dt dd_X7_priceIn 13 rfl) rfl ?_
      refine sw_iaload (v := .int (σ (2000 + 101 + rn x) (cn y))) O (xx_dt dd_X7_priceIn 14 rfl) (lkr_100 σ h (.inl rfl) (k := rn x) (by omega)) (pk_in (cn y) _ (by omega)) (by rw [nI_clamp (by omega)]; try exact rfl) ?_
      exact sw_iret O (xx_dt dd_X7_priceIn 15 rfl) rfl rfl (by rw [hQ]; exact ⟨by unfold o_priceIn; simp only [if_pos q1, if_pos q2]; rfl, rfl⟩)
    · exact sw_callVt (as := [.int y]) (st := []) (k := 0) (n := 0) (k' := 1) (n' := 6) O (ct_X7_needRegion_no hl (σ := σ) (R := R) hR (by omega) q2) ce_X7_needRegion ml_X7_87 iv_X7_needRegion cl_X7 rfl (ly_1000 σ h) (xx_dt dd_X7_priceIn 5 rfl) (by decide) rfl rfl (Nat.le_of_ble_eq_true rfl)  (by rw [hQ]; exact ⟨by unfold o_priceIn; simp only [if_pos q1, if_neg q2]; rfl, rfl⟩)
  · exact sw_callVt (as := [.int x]) (st := []) (k := 0) (n := 0) (k' := 1) (n' := 6) O (ct_X7_needRound_no hl (σ := σ) (K := K) hK (by omega) q1) ce_X7_needRound ml_X7_255 iv_X7_needRound cl_X7 rfl (ly_1000 σ h) (xx_dt dd_X7_priceIn 2 rfl) (by decide) rfl rfl (Nat.le_of_ble_eq_true rfl)  (by rw [hQ]; exact ⟨by unfold o_priceIn; simp only [if_neg q1]; rfl, rfl⟩)
def o_codeIn (σ : XS9) (x y z : Int32) (B K : Nat) : Int32 ⊕ String := (if n_rd x K then (if n_lt y B then (if z = 0 then .inl (σ (2000 + 201 + rn x) (cn y)) else .inl (σ (2000 + 301 + rn x) (cn y))) else .inr eIOB) else .inr eIOB)
theorem ct_X7_codeIn {l : Launch} {h : XH} (hl : l.stackTraces = false) {σ : XS9} {B : Nat} (hB : σ 1001 9 = nI B) (hB6 : B ≤ 6) {K : Nat} (hK : σ 2000 9 = nI K) (hK60 : K ≤ 60) {x y z : Int32} : XEo l m_X7_codeIn 7 1 6 [.ref 1000, .int x, .int y, .int z] (setC σ h) ((xoi (o_codeIn σ x y z B K))) (setC σ h) := by
  refine XMet.of hl rfl rfl (Nat.le_of_ble_eq_true rfl) (fun Y O hh hQ => ?_)
  show SW Y 1 6 (setC σ h) 0 [.ref 1000, .int x, .int y, .int z] []
  refine sw_aload_n O (xx_dt dd_X7_codeIn 0 rfl) rfl ?_
  refine sw_iload_n O (xx_dt dd_X7_codeIn 1 rfl) rfl ?_
  by_cases q1 : n_rd x K
  · refine sw_callVx (as := [.int x]) (st := []) (st2 := []) (k' := 0) (n' := 0) O (ct_X7_needRound_ok hl (σ := σ) (K := K) hK (by omega) q1) ce_X7_needRound ml_X7_255 iv_X7_needRound cl_X7 rfl (ly_1000 σ h) (xx_dt dd_X7_codeIn 2 rfl) (by decide) rfl rfl (Nat.le_of_ble_eq_true rfl) rfl ?_
    refine sw_lsE (ls2 := [.ref 1000, .int (nI (rn x + 1)), .int y, .int z]) (by rw [← q1.1]) ?_
    have hvq1 := q1.2
    refine sw_aload_n O (xx_dt dd_X7_codeIn 3 rfl) rfl ?_
    refine sw_iload_n O (xx_dt dd_X7_codeIn 4 rfl) rfl ?_
    by_cases q2 : n_lt y B
    · refine sw_callVx (as := [.int y]) (st := []) (st2 := []) (k' := 0) (n' := 0) O (ct_X7_needBidder_ok hl (σ := σ) (B := B) hB (by omega) q2) ce_X7_needBidder ml_X7_124 iv_X7_needBidder cl_X7 rfl (ly_1000 σ h) (xx_dt dd_X7_codeIn 5 rfl) (by decide) rfl rfl (Nat.le_of_ble_eq_true rfl) rfl ?_
      refine sw_lsE (ls2 := [.ref 1000, .int (nI (rn x + 1)), .int (nI (cn y)), .int z]) (by rw [← q2.1]) ?_
      have hvq2 := q2.2
      refine sw_iload_n O (xx_dt dd_X7_codeIn 6 rfl) rfl ?_
      refine sw_if_eq (tgt := 30) O (xx_dt dd_X7_codeIn 7 rfl) (by decide) (fun q3 => ?_) (fun q3 => ?_)
      · refine sw_aload_n O (xx_dt dd_X7_codeIn 18 rfl) rfl ?_
        refine sw_get (v := .ref 2000) O (xx_dt dd_X7_codeIn 19 rfl) cl_X7 fl_X7_19 (ly_1000 σ h) (by decide) rfl ?_
        refine sw_get (v := .ref (2000 + 200)) O (xx_dt dd_X7_codeIn 20 rfl) cl_X1 fl_X7_265 (lk_0 σ h (.inl rfl)) (by decide) rfl ?_
        refine sw_iload_n O (xx_dt dd_X7_codeIn 21 rfl) rfl ?_
        refine sw_iconst (x := 1) O (xx_dt dd_X7_codeIn 22 rfl) (by decide) ?_
        refine sw_isub O (xx_dt dd_X7_codeIn 23 rfl) ?_
        rw [nI_s1 (rn x)]
        refine sw_aaload (v := .ref (2000 + 201 + rn x)) O (xx_dt dd_X7_codeIn 24 rfl) (by omega) (by omega) (lk_200 σ h (.inl rfl)) (pk_in (rn x) _ (by omega)) (by rw [nI_clamp (by omega)]; try exact rfl) ?_
        refine sw_iload_n O (xx_dt dd_X7_codeIn 25 rfl) rfl ?_
        refine sw_iaload (v := .int (σ (2000 + 201 + rn x) (cn y))) O (xx_dt dd_X7_codeIn 26 rfl) (lkr_200 σ h (.inl rfl) (k := rn x) (by omega)) (pk_in (cn y) _ (by omega)) (by rw [nI_clamp (by omega)]; try exact rfl) ?_
        exact sw_iret O (xx_dt dd_X7_codeIn 27 rfl) rfl rfl (by rw [hQ]; exact ⟨by unfold o_codeIn; simp only [if_pos q1, if_pos q2, if_pos q3]; rfl, rfl⟩)
      · refine sw_aload_n O (xx_dt dd_X7_codeIn 8 rfl) rfl ?_
        refine sw_get (v := .ref 2000) O (xx_dt dd_X7_codeIn 9 rfl) cl_X7 fl_X7_19 (ly_1000 σ h) (by decide) rfl ?_
        refine sw_get (v := .ref (2000 + 300)) O (xx_dt dd_X7_codeIn 10 rfl) cl_X1 fl_X7_262 (lk_0 σ h (.inl rfl)) (by decide) rfl ?_
        refine sw_iload_n O (xx_dt dd_X7_codeIn 11 rfl) rfl ?_
        refine sw_iconst (x := 1) O (xx_dt dd_X7_codeIn 12 rfl) (by decide) ?_
        refine sw_isub O (xx_dt dd_X7_codeIn 13 rfl) ?_
        rw [nI_s1 (rn x)]
        refine sw_aaload (v := .ref (2000 + 301 + rn x)) O (xx_dt dd_X7_codeIn 14 rfl) (by omega) (by omega) (lk_300 σ h (.inl rfl)) (pk_in (rn x) _ (by omega)) (by rw [nI_clamp (by omega)]; try exact rfl) ?_
        refine sw_iload_n O (xx_dt dd_X7_codeIn 15 rfl) rfl ?_
        refine sw_iaload (v := .int (σ (2000 + 301 + rn x) (cn y))) O (xx_dt dd_X7_codeIn 16 rfl) (lkr_300 σ h (.inl rfl) (k := rn x) (by omega)) (pk_in (cn y) _ (by omega)) (by rw [nI_clamp (by omega)]; try exact rfl) ?_
        refine sw_goto (tgt := 43) O (xx_dt dd_X7_codeIn 17 rfl) (by decide) ?_
        exact sw_iret O (xx_dt dd_X7_codeIn 27 rfl) rfl rfl (by rw [hQ]; exact ⟨by unfold o_codeIn; simp only [if_pos q1, if_pos q2, if_neg q3]; rfl, rfl⟩)
    · exact sw_callVt (as := [.int y]) (st := []) (k := 0) (n := 0) (k' := 1) (n' := 6) O (ct_X7_needBidder_no hl (σ := σ) (B := B) hB (by omega) q2) ce_X7_needBidder ml_X7_124 iv_X7_needBidder cl_X7 rfl (ly_1000 σ h) (xx_dt dd_X7_codeIn 5 rfl) (by decide) rfl rfl (Nat.le_of_ble_eq_true rfl)  (by rw [hQ]; exact ⟨by unfold o_codeIn; simp only [if_pos q1, if_neg q2]; rfl, rfl⟩)
  · exact sw_callVt (as := [.int x]) (st := []) (k := 0) (n := 0) (k' := 1) (n' := 6) O (ct_X7_needRound_no hl (σ := σ) (K := K) hK (by omega) q1) ce_X7_needRound ml_X7_255 iv_X7_needRound cl_X7 rfl (ly_1000 σ h) (xx_dt dd_X7_codeIn 2 rfl) (by decide) rfl rfl (Nat.le_of_ble_eq_true rfl)  (by rw [hQ]; exact ⟨by unfold o_codeIn; simp only [if_neg q1]; rfl, rfl⟩)
def o_ofPackage (σ : XS9) (x y z : Int32) (B : Nat) (cnt : Nat → Nat) : Int32 ⊕ String := (if n_lt x B then (if y < 0 then .inr eIOB else (if y < (nI (cnt (cn x))) then (if z = 0 then .inl (σ (1022 + cn x) (cn y)) else .inl (σ (1031 + cn x) (cn y))) else .inr eIOB)) else .inr eIOB)
theorem ct_X7_ofPackage {l : Launch} {h : XH} (hl : l.stackTraces = false) {σ : XS9} {B : Nat} (hB : σ 1001 9 = nI B) (hB6 : B ≤ 6) {cnt : Nat → Nat} (hct : ∀ i, i < 6 → σ 1020 i = nI (cnt i) ∧ cnt i ≤ 6) {x y z : Int32} : XEo l m_X7_ofPackage 7 1 6 [.ref 1000, .int x, .int y, .int z] (setC σ h) ((xoi (o_ofPackage σ x y z B cnt))) (setC σ h) := by
  refine XMet.of hl rfl rfl (Nat.le_of_ble_eq_true rfl) (fun Y O hh hQ => ?_)
  show SW Y 1 6 (setC σ h) 0 [.ref 1000, .int x, .int y, .int z] []
  refine sw_aload_n O (xx_dt dd_X7_ofPackage 0 rfl) rfl ?_
  refine sw_iload_n O (xx_dt dd_X7_ofPackage 1 rfl) rfl ?_
  by_cases q1 : n_lt x B
  · refine sw_callVx (as := [.int x]) (st := []) (st2 := []) (k' := 0) (n' := 0) O (ct_X7_needBidder_ok hl (σ := σ) (B := B) hB (by omega) q1) ce_X7_needBidder ml_X7_124 iv_X7_needBidder cl_X7 rfl (ly_1000 σ h) (xx_dt dd_X7_ofPackage 2 rfl) (by decide) rfl rfl (Nat.le_of_ble_eq_true rfl) rfl ?_
    refine sw_lsE (ls2 := [.ref 1000, .int (nI (cn x)), .int y, .int z]) (by rw [← q1.1]) ?_
    have hvq1 := q1.2
    refine sw_iload_n O (xx_dt dd_X7_ofPackage 3 rfl) rfl ?_
    refine sw_if_lt (tgt := 22) O (xx_dt dd_X7_ofPackage 4 rfl) (by decide) (fun q2 => ?_) (fun q2 => ?_)
    · exact sw_throwW (k := 0) (n := 0) O ex_IOB th_X7_ofPackage_22 (xx_dt dd_X7_ofPackage 12 rfl) (xx_dt dd_X7_ofPackage 13 rfl) (xx_dt dd_X7_ofPackage 14 rfl) (xx_dt dd_X7_ofPackage 15 rfl) (xx_dt dd_X7_ofPackage 16 rfl) (by decide) (by decide) (by rw [hQ]; exact ⟨by unfold o_ofPackage; simp only [if_pos q1, if_pos q2]; rfl, rfl⟩)
    · refine sw_iload_n O (xx_dt dd_X7_ofPackage 5 rfl) rfl ?_
      refine sw_aload_n O (xx_dt dd_X7_ofPackage 6 rfl) rfl ?_
      refine sw_get (v := .ref 1003) O (xx_dt dd_X7_ofPackage 7 rfl) cl_X7 fl_X7_29 (ly_1000 σ h) (by decide) rfl ?_
      refine sw_get (v := .ref 1020) O (xx_dt dd_X7_ofPackage 8 rfl) cl_X2 fl_X7_173 (ly_1003 σ h) (by decide) rfl ?_
      refine sw_iload_n O (xx_dt dd_X7_ofPackage 9 rfl) rfl ?_
      have hz18 := (hct (cn x) (by omega)).2
      refine sw_iaload (v := .int (nI (cnt (cn x)))) O (xx_dt dd_X7_ofPackage 10 rfl) (ly_1020 σ h) (pk_in (cn x) _ (by omega)) (by rw [nI_clamp (by omega)]; exact (congrArg Value.int (hct (cn x) (by omega)).1)) ?_
      refine sw_icmp_lt (tgt := 33) O (xx_dt dd_X7_ofPackage 11 rfl) (by decide) (fun q3 => ?_) (fun q3 => ?_)
      · have hc19 := (n_lt_iff (x := y) (R := cnt (cn x)) (by omega)).mpr ⟨q2, q3⟩
        refine sw_lsE (ls2 := [.ref 1000, .int (nI (cn x)), .int (nI (cn y)), .int z]) (by rw [← hc19.1]) ?_
        have hd19 := hc19.2
        refine sw_iload_n O (xx_dt dd_X7_ofPackage 17 rfl) rfl ?_
        refine sw_if_eq (tgt := 51) O (xx_dt dd_X7_ofPackage 18 rfl) (by decide) (fun q4 => ?_) (fun q4 => ?_)
        · refine sw_aload_n O (xx_dt dd_X7_ofPackage 27 rfl) rfl ?_
          refine sw_get (v := .ref 1003) O (xx_dt dd_X7_ofPackage 28 rfl) cl_X7 fl_X7_29 (ly_1000 σ h) (by decide) rfl ?_
          refine sw_get (v := .ref 1021) O (xx_dt dd_X7_ofPackage 29 rfl) cl_X2 fl_X7_276 (ly_1003 σ h) (by decide) rfl ?_
          refine sw_iload_n O (xx_dt dd_X7_ofPackage 30 rfl) rfl ?_
          refine sw_aaload (v := .ref (1022 + cn x)) O (xx_dt dd_X7_ofPackage 31 rfl) (by omega) (by omega) (ly_1021 σ h) (pk_in (cn x) _ (by omega)) (by rw [nI_clamp (by omega)]; try exact rfl) ?_
          refine sw_iload_n O (xx_dt dd_X7_ofPackage 32 rfl) rfl ?_
          refine sw_iaload (v := .int (σ (1022 + cn x) (cn y))) O (xx_dt dd_X7_ofPackage 33 rfl) (lr_1021 σ h (k := cn x) (by omega)) (pk_in (cn y) _ (by omega)) (by rw [nI_clamp (by omega)]; try exact rfl) ?_
          exact sw_iret O (xx_dt dd_X7_ofPackage 34 rfl) rfl rfl (by rw [hQ]; exact ⟨by unfold o_ofPackage; simp only [if_pos q1, if_neg q2, if_pos q3, if_pos q4]; rfl, rfl⟩)
        · refine sw_aload_n O (xx_dt dd_X7_ofPackage 19 rfl) rfl ?_
          refine sw_get (v := .ref 1003) O (xx_dt dd_X7_ofPackage 20 rfl) cl_X7 fl_X7_29 (ly_1000 σ h) (by decide) rfl ?_
          refine sw_get (v := .ref 1030) O (xx_dt dd_X7_ofPackage 21 rfl) cl_X2 fl_X7_273 (ly_1003 σ h) (by decide) rfl ?_
          refine sw_iload_n O (xx_dt dd_X7_ofPackage 22 rfl) rfl ?_
          refine sw_aaload (v := .ref (1031 + cn x)) O (xx_dt dd_X7_ofPackage 23 rfl) (by omega) (by omega) (ly_1030 σ h) (pk_in (cn x) _ (by omega)) (by rw [nI_clamp (by omega)]; try exact rfl) ?_
          refine sw_iload_n O (xx_dt dd_X7_ofPackage 24 rfl) rfl ?_
          refine sw_iaload (v := .int (σ (1031 + cn x) (cn y))) O (xx_dt dd_X7_ofPackage 25 rfl) (lr_1030 σ h (k := cn x) (by omega)) (pk_in (cn y) _ (by omega)) (by rw [nI_clamp (by omega)]; try exact rfl) ?_
          refine sw_goto (tgt := 62) O (xx_dt dd_X7_ofPackage 26 rfl) (by decide) ?_
          exact sw_iret O (xx_dt dd_X7_ofPackage 34 rfl) rfl rfl (by rw [hQ]; exact ⟨by unfold o_ofPackage; simp only [if_pos q1, if_neg q2, if_pos q3, if_neg q4]; rfl, rfl⟩)
      · exact sw_throwW (k := 0) (n := 0) O ex_IOB th_X7_ofPackage_22 (xx_dt dd_X7_ofPackage 12 rfl) (xx_dt dd_X7_ofPackage 13 rfl) (xx_dt dd_X7_ofPackage 14 rfl) (xx_dt dd_X7_ofPackage 15 rfl) (xx_dt dd_X7_ofPackage 16 rfl) (by decide) (by decide) (by rw [hQ]; exact ⟨by unfold o_ofPackage; simp only [if_pos q1, if_neg q2, if_neg q3]; rfl, rfl⟩)
  · exact sw_callVt (as := [.int x]) (st := []) (k := 0) (n := 0) (k' := 1) (n' := 6) O (ct_X7_needBidder_no hl (σ := σ) (B := B) hB (by omega) q1) ce_X7_needBidder ml_X7_124 iv_X7_needBidder cl_X7 rfl (ly_1000 σ h) (xx_dt dd_X7_ofPackage 2 rfl) (by decide) rfl rfl (Nat.le_of_ble_eq_true rfl)  (by rw [hQ]; exact ⟨by unfold o_ofPackage; simp only [if_neg q1]; rfl, rfl⟩)
def o_wins (σ : XS9) (x : Int32) (B : Nat) : Int32 ⊕ String := (if n_lt x B then .inl (σ 1040 (cn x)) else .inr eIOB)
theorem ct_X7_wins {l : Launch} {h : XH} (hl : l.stackTraces = false) {σ : XS9} {B : Nat} (hB : σ 1001 9 = nI B) (hB6 : B ≤ 6) {x : Int32} : XEo l m_X7_wins 7 1 6 [.ref 1000, .int x] (setC σ h) ((xoi (o_wins σ x B))) (setC σ h) := by
  refine XMet.of hl rfl rfl (Nat.le_of_ble_eq_true rfl) (fun Y O hh hQ => ?_)
  show SW Y 1 6 (setC σ h) 0 [.ref 1000, .int x] []
  refine sw_aload_n O (xx_dt dd_X7_wins 0 rfl) rfl ?_
  refine sw_iload_n O (xx_dt dd_X7_wins 1 rfl) rfl ?_
  by_cases q1 : n_lt x B
  · refine sw_callVx (as := [.int x]) (st := []) (st2 := []) (k' := 0) (n' := 0) O (ct_X7_needBidder_ok hl (σ := σ) (B := B) hB (by omega) q1) ce_X7_needBidder ml_X7_124 iv_X7_needBidder cl_X7 rfl (ly_1000 σ h) (xx_dt dd_X7_wins 2 rfl) (by decide) rfl rfl (Nat.le_of_ble_eq_true rfl) rfl ?_
    refine sw_lsE (ls2 := [.ref 1000, .int (nI (cn x))]) (by rw [← q1.1]) ?_
    have hvq1 := q1.2
    refine sw_aload_n O (xx_dt dd_X7_wins 3 rfl) rfl ?_
    refine sw_get (v := .ref 1003) O (xx_dt dd_X7_wins 4 rfl) cl_X7 fl_X7_29 (ly_1000 σ h) (by decide) rfl ?_
    refine sw_get (v := .ref 1040) O (xx_dt dd_X7_wins 5 rfl) cl_X2 fl_X7_200 (ly_1003 σ h) (by decide) rfl ?_
    refine sw_iload_n O (xx_dt dd_X7_wins 6 rfl) rfl ?_
    refine sw_iaload (v := .int (σ 1040 (cn x))) O (xx_dt dd_X7_wins 7 rfl) (ly_1040 σ h) (pk_in (cn x) _ (by omega)) (by rw [nI_clamp (by omega)]; try exact rfl) ?_
    exact sw_iret O (xx_dt dd_X7_wins 8 rfl) rfl rfl (by rw [hQ]; exact ⟨by unfold o_wins; simp only [if_pos q1]; rfl, rfl⟩)
  · exact sw_callVt (as := [.int x]) (st := []) (k := 0) (n := 0) (k' := 1) (n' := 6) O (ct_X7_needBidder_no hl (σ := σ) (B := B) hB (by omega) q1) ce_X7_needBidder ml_X7_124 iv_X7_needBidder cl_X7 rfl (ly_1000 σ h) (xx_dt dd_X7_wins 2 rfl) (by decide) rfl rfl (Nat.le_of_ble_eq_true rfl)  (by rw [hQ]; exact ⟨by unfold o_wins; simp only [if_neg q1]; rfl, rfl⟩)
def o_pays (σ : XS9) (x y : Int32) (B w : Nat) : Int32 ⊕ String := (if n_lt x B then (if y = 0 then .inl (f_paymentOf σ (cn x) w) else .inl (f_dueOf σ (cn x) w)) else .inr eIOB)
theorem ct_X7_pays {l : Launch} {h : XH} (hl : l.stackTraces = false) {σ : XS9} {B : Nat} (hB : σ 1001 9 = nI B) (hB6 : B ≤ 6) {w : Nat} (hw : σ 1000 9 = nI w) (hw3 : w < 3) {x y : Int32} : XEo l m_X7_pays 7 1 6 [.ref 1000, .int x, .int y] (setC σ h) ((xoi (o_pays σ x y B w))) (setC σ h) := by
  refine XMet.of hl rfl rfl (Nat.le_of_ble_eq_true rfl) (fun Y O hh hQ => ?_)
  show SW Y 1 6 (setC σ h) 0 [.ref 1000, .int x, .int y] []
  refine sw_aload_n O (xx_dt dd_X7_pays 0 rfl) rfl ?_
  refine sw_iload_n O (xx_dt dd_X7_pays 1 rfl) rfl ?_
  by_cases q1 : n_lt x B
  · refine sw_callVx (as := [.int x]) (st := []) (st2 := []) (k' := 0) (n' := 0) O (ct_X7_needBidder_ok hl (σ := σ) (B := B) hB (by omega) q1) ce_X7_needBidder ml_X7_124 iv_X7_needBidder cl_X7 rfl (ly_1000 σ h) (xx_dt dd_X7_pays 2 rfl) (by decide) rfl rfl (Nat.le_of_ble_eq_true rfl) rfl ?_
    refine sw_lsE (ls2 := [.ref 1000, .int (nI (cn x)), .int y]) (by rw [← q1.1]) ?_
    have hvq1 := q1.2
    refine sw_iload_n O (xx_dt dd_X7_pays 3 rfl) rfl ?_
    refine sw_if_eq (tgt := 17) O (xx_dt dd_X7_pays 4 rfl) (by decide) (fun q2 => ?_) (fun q2 => ?_)
    · refine sw_aload_n O (xx_dt dd_X7_pays 9 rfl) rfl ?_
      refine sw_iload_n O (xx_dt dd_X7_pays 10 rfl) rfl ?_
      refine sw_callVx (as := [.int (nI (cn x))]) (st := []) (st2 := [.int (f_paymentOf σ (cn x) w)]) O (ct_X7_paymentOf hl (σ := σ) (w := w) hw (by omega) (i := cn x) (by omega)) ce_X7_paymentOf ml_X7_282 iv_X7_paymentOf cl_X7 rfl (ly_1000 σ h) (xx_dt dd_X7_pays 11 rfl) (by decide) rfl rfl (Nat.le_of_ble_eq_true rfl) rfl ?_
      exact sw_iret O (xx_dt dd_X7_pays 12 rfl) rfl rfl (by rw [hQ]; exact ⟨by unfold o_pays; simp only [if_pos q1, if_pos q2]; rfl, rfl⟩)
    · refine sw_aload_n O (xx_dt dd_X7_pays 5 rfl) rfl ?_
      refine sw_iload_n O (xx_dt dd_X7_pays 6 rfl) rfl ?_
      refine sw_callVx (as := [.int (nI (cn x))]) (st := []) (st2 := [.int (f_dueOf σ (cn x) w)]) O (ct_X7_dueOf hl (σ := σ) (w := w) hw (by omega) (i := cn x) (by omega)) ce_X7_dueOf ml_X7_279 iv_X7_dueOf cl_X7 rfl (ly_1000 σ h) (xx_dt dd_X7_pays 7 rfl) (by decide) rfl rfl (Nat.le_of_ble_eq_true rfl) rfl ?_
      refine sw_goto (tgt := 22) O (xx_dt dd_X7_pays 8 rfl) (by decide) ?_
      exact sw_iret O (xx_dt dd_X7_pays 12 rfl) rfl rfl (by rw [hQ]; exact ⟨by unfold o_pays; simp only [if_pos q1, if_neg q2]; rfl, rfl⟩)
  · exact sw_callVt (as := [.int x]) (st := []) (k := 0) (n := 0) (k' := 1) (n' := 6) O (ct_X7_needBidder_no hl (σ := σ) (B := B) hB (by omega) q1) ce_X7_needBidder ml_X7_124 iv_X7_needBidder cl_X7 rfl (ly_1000 σ h) (xx_dt dd_X7_pays 2 rfl) (by decide) rfl rfl (Nat.le_of_ble_eq_true rfl)  (by rw [hQ]; exact ⟨by unfold o_pays; simp only [if_neg q1]; rfl, rfl⟩)
def o_holder (σ : XS9) (x y : Int32) (R : Nat) (sp : Nat → Nat) : Int32 ⊕ String := (if n_lt x R then (if y < 0 then .inr eIOB else (if y < (nI (sp (cn x))) then .inl (σ (1141 + cn x) (cn y)) else .inr eIOB)) else .inr eIOB)
theorem ct_X7_holder {l : Launch} {h : XH} (hl : l.stackTraces = false) {σ : XS9} {R : Nat} (hR : σ 1001 4 = nI R) (hR5 : R ≤ 5) {sp : Nat → Nat} (hsp : ∀ r, r < 5 → σ 1010 r = nI (sp r) ∧ sp r ≤ 5) {x y : Int32} : XEo l m_X7_holder 7 1 6 [.ref 1000, .int x, .int y] (setC σ h) ((xoi (o_holder σ x y R sp))) (setC σ h) := by
  refine XMet.of hl rfl rfl (Nat.le_of_ble_eq_true rfl) (fun Y O hh hQ => ?_)
  show SW Y 1 6 (setC σ h) 0 [.ref 1000, .int x, .int y] []
  refine sw_aload_n O (xx_dt dd_X7_holder 0 rfl) rfl ?_
  refine sw_iload_n O (xx_dt dd_X7_holder 1 rfl) rfl ?_
  by_cases q1 : n_lt x R
  · refine sw_callVx (as := [.int x]) (st := []) (st2 := []) (k' := 0) (n' := 0) O (ct_X7_needRegion_ok hl (σ := σ) (R := R) hR (by omega) q1) ce_X7_needRegion ml_X7_87 iv_X7_needRegion cl_X7 rfl (ly_1000 σ h) (xx_dt dd_X7_holder 2 rfl) (by decide) rfl rfl (Nat.le_of_ble_eq_true rfl) rfl ?_
    refine sw_lsE (ls2 := [.ref 1000, .int (nI (cn x)), .int y]) (by rw [← q1.1]) ?_
    have hvq1 := q1.2
    refine sw_iload_n O (xx_dt dd_X7_holder 3 rfl) rfl ?_
    refine sw_if_lt (tgt := 22) O (xx_dt dd_X7_holder 4 rfl) (by decide) (fun q2 => ?_) (fun q2 => ?_)
    · exact sw_throwW (k := 0) (n := 0) O ex_IOB th_X7_holder_22 (xx_dt dd_X7_holder 12 rfl) (xx_dt dd_X7_holder 13 rfl) (xx_dt dd_X7_holder 14 rfl) (xx_dt dd_X7_holder 15 rfl) (xx_dt dd_X7_holder 16 rfl) (by decide) (by decide) (by rw [hQ]; exact ⟨by unfold o_holder; simp only [if_pos q1, if_pos q2]; rfl, rfl⟩)
    · refine sw_iload_n O (xx_dt dd_X7_holder 5 rfl) rfl ?_
      refine sw_aload_n O (xx_dt dd_X7_holder 6 rfl) rfl ?_
      refine sw_get (v := .ref 1001) O (xx_dt dd_X7_holder 7 rfl) cl_X7 fl_X7_12 (ly_1000 σ h) (by decide) rfl ?_
      refine sw_get (v := .ref 1010) O (xx_dt dd_X7_holder 8 rfl) cl_X6 fl_X7_285 (ly_1001 σ h) (by decide) rfl ?_
      refine sw_iload_n O (xx_dt dd_X7_holder 9 rfl) rfl ?_
      have hz18 := (hsp (cn x) (by omega)).2
      refine sw_iaload (v := .int (nI (sp (cn x)))) O (xx_dt dd_X7_holder 10 rfl) (ly_1010 σ h) (pk_in (cn x) _ (by omega)) (by rw [nI_clamp (by omega)]; exact (congrArg Value.int (hsp (cn x) (by omega)).1)) ?_
      refine sw_icmp_lt (tgt := 33) O (xx_dt dd_X7_holder 11 rfl) (by decide) (fun q3 => ?_) (fun q3 => ?_)
      · have hc19 := (n_lt_iff (x := y) (R := sp (cn x)) (by omega)).mpr ⟨q2, q3⟩
        refine sw_lsE (ls2 := [.ref 1000, .int (nI (cn x)), .int (nI (cn y))]) (by rw [← hc19.1]) ?_
        have hd19 := hc19.2
        refine sw_aload_n O (xx_dt dd_X7_holder 17 rfl) rfl ?_
        refine sw_get (v := .ref 1005) O (xx_dt dd_X7_holder 18 rfl) cl_X7 fl_X7_43 (ly_1000 σ h) (by decide) rfl ?_
        refine sw_get (v := .ref 1140) O (xx_dt dd_X7_holder 19 rfl) cl_X3 fl_X7_290 (ly_1005 σ h) (by decide) rfl ?_
        refine sw_iload_n O (xx_dt dd_X7_holder 20 rfl) rfl ?_
        refine sw_aaload (v := .ref (1141 + cn x)) O (xx_dt dd_X7_holder 21 rfl) (by omega) (by omega) (ly_1140 σ h) (pk_in (cn x) _ (by omega)) (by rw [nI_clamp (by omega)]; try exact rfl) ?_
        refine sw_iload_n O (xx_dt dd_X7_holder 22 rfl) rfl ?_
        refine sw_iaload (v := .int (σ (1141 + cn x) (cn y))) O (xx_dt dd_X7_holder 23 rfl) (lr_1140 σ h (k := cn x) (by omega)) (pk_in (cn y) _ (by omega)) (by rw [nI_clamp (by omega)]; try exact rfl) ?_
        exact sw_iret O (xx_dt dd_X7_holder 24 rfl) rfl rfl (by rw [hQ]; exact ⟨by unfold o_holder; simp only [if_pos q1, if_neg q2, if_pos q3]; rfl, rfl⟩)
      · exact sw_throwW (k := 0) (n := 0) O ex_IOB th_X7_holder_22 (xx_dt dd_X7_holder 12 rfl) (xx_dt dd_X7_holder 13 rfl) (xx_dt dd_X7_holder 14 rfl) (xx_dt dd_X7_holder 15 rfl) (xx_dt dd_X7_holder 16 rfl) (by decide) (by decide) (by rw [hQ]; exact ⟨by unfold o_holder; simp only [if_pos q1, if_neg q2, if_neg q3]; rfl, rfl⟩)
  · exact sw_callVt (as := [.int x]) (st := []) (k := 0) (n := 0) (k' := 1) (n' := 6) O (ct_X7_needRegion_no hl (σ := σ) (R := R) hR (by omega) q1) ce_X7_needRegion ml_X7_87 iv_X7_needRegion cl_X7 rfl (ly_1000 σ h) (xx_dt dd_X7_holder 2 rfl) (by decide) rfl rfl (Nat.le_of_ble_eq_true rfl)  (by rw [hQ]; exact ⟨by unfold o_holder; simp only [if_neg q1]; rfl, rfl⟩)
def o_worth (σ : XS9) (x : Int32) (B : Nat) : Int32 ⊕ String := (if n_lt x (2 ^ B) then .inl (σ 1041 (cn x)) else .inr eIAE)
theorem ct_X7_worth {l : Launch} {h : XH} (hl : l.stackTraces = false) {σ : XS9} {B : Nat} (hB : σ 1001 9 = nI B) (hB6 : B ≤ 6) {x : Int32} : XEo l m_X7_worth 7 1 6 [.ref 1000, .int x] (setC σ h) ((xoi (o_worth σ x B))) (setC σ h) := by
  refine XMet.of hl rfl rfl (Nat.le_of_ble_eq_true rfl) (fun Y O hh hQ => ?_)
  show SW Y 1 6 (setC σ h) 0 [.ref 1000, .int x] []
  refine sw_iload_n O (xx_dt dd_X7_worth 0 rfl) rfl ?_
  refine sw_aload_n O (xx_dt dd_X7_worth 1 rfl) rfl ?_
  refine sw_get (v := .ref 1001) O (xx_dt dd_X7_worth 2 rfl) cl_X7 fl_X7_12 (ly_1000 σ h) (by decide) rfl ?_
  refine sw_get (v := .int (nI B)) O (xx_dt dd_X7_worth 3 rfl) cl_X6 fl_X7_100 (ly_1001 σ h) (by decide) (congrArg Value.int hB) ?_
  by_cases q1 : n_lt x (2 ^ B)
  · refine sw_callSx (as := [.int x, .int (nI B)]) (st := []) (st2 := []) (k' := 0) (n' := 0) O (ct_X7_needSet_ok hl (C := B) (by omega) q1) ce_X7_needSet ml_X7_228 st_X7_needSet (xx_dt dd_X7_worth 4 rfl) (by decide) rfl rfl (Nat.le_of_ble_eq_true rfl) rfl ?_
    refine sw_lsE (ls2 := [.ref 1000, .int (nI (cn x))]) (by rw [← q1.1]) ?_
    have hvq1 := q1.2
    have hpq1 := Nat.lt_of_lt_of_le q1.2 (pow6 (C := B) (by omega))
    refine sw_aload_n O (xx_dt dd_X7_worth 5 rfl) rfl ?_
    refine sw_get (v := .ref 1003) O (xx_dt dd_X7_worth 6 rfl) cl_X7 fl_X7_29 (ly_1000 σ h) (by decide) rfl ?_
    refine sw_get (v := .ref 1041) O (xx_dt dd_X7_worth 7 rfl) cl_X2 fl_X7_307 (ly_1003 σ h) (by decide) rfl ?_
    refine sw_iload_n O (xx_dt dd_X7_worth 8 rfl) rfl ?_
    refine sw_iaload (v := .int (σ 1041 (cn x))) O (xx_dt dd_X7_worth 9 rfl) (ly_1041 σ h) (pk_in (cn x) _ (by omega)) (by rw [nI_clamp (by omega)]; try exact rfl) ?_
    exact sw_iret O (xx_dt dd_X7_worth 10 rfl) rfl rfl (by rw [hQ]; exact ⟨by unfold o_worth; simp only [if_pos q1]; rfl, rfl⟩)
  · exact sw_callSt (as := [.int x, .int (nI B)]) (st := []) (k := 0) (n := 0) (k' := 1) (n' := 6) O (ct_X7_needSet_no hl (C := B) (by omega) q1) ce_X7_needSet ml_X7_228 st_X7_needSet (xx_dt dd_X7_worth 4 rfl) (by decide) rfl rfl (Nat.le_of_ble_eq_true rfl)  (by rw [hQ]; exact ⟨by unfold o_worth; simp only [if_neg q1]; rfl, rfl⟩)
def o_wouldPay (σ : XS9) (x y : Int32) (B : Nat) : Int32 ⊕ String := (if n_lt x B then (if n_bt y 0 2 then .inl (σ (1131 + cn y) (cn x)) else .inr eIAE) else .inr eIOB)
theorem ct_X7_wouldPay {l : Launch} {h : XH} (hl : l.stackTraces = false) {σ : XS9} {B : Nat} (hB : σ 1001 9 = nI B) (hB6 : B ≤ 6) {x y : Int32} : XEo l m_X7_wouldPay 7 1 6 [.ref 1000, .int x, .int y] (setC σ h) ((xoi (o_wouldPay σ x y B))) (setC σ h) := by
  refine XMet.of hl rfl rfl (Nat.le_of_ble_eq_true rfl) (fun Y O hh hQ => ?_)
  show SW Y 1 6 (setC σ h) 0 [.ref 1000, .int x, .int y] []
  refine sw_aload_n O (xx_dt dd_X7_wouldPay 0 rfl) rfl ?_
  refine sw_iload_n O (xx_dt dd_X7_wouldPay 1 rfl) rfl ?_
  by_cases q1 : n_lt x B
  · refine sw_callVx (as := [.int x]) (st := []) (st2 := []) (k' := 0) (n' := 0) O (ct_X7_needBidder_ok hl (σ := σ) (B := B) hB (by omega) q1) ce_X7_needBidder ml_X7_124 iv_X7_needBidder cl_X7 rfl (ly_1000 σ h) (xx_dt dd_X7_wouldPay 2 rfl) (by decide) rfl rfl (Nat.le_of_ble_eq_true rfl) rfl ?_
    refine sw_lsE (ls2 := [.ref 1000, .int (nI (cn x)), .int y]) (by rw [← q1.1]) ?_
    have hvq1 := q1.2
    refine sw_iload_n O (xx_dt dd_X7_wouldPay 3 rfl) rfl ?_
    refine sw_iconst (x := 0) O (xx_dt dd_X7_wouldPay 4 rfl) (by decide) ?_
    refine sw_iconst (x := 2) O (xx_dt dd_X7_wouldPay 5 rfl) (by decide) ?_
    by_cases q2 : n_bt y 0 2
    · refine sw_callSx (as := [.int y, .int 0, .int 2]) (st := []) (st2 := []) (k' := 0) (n' := 0) O (ct_X7_needBetween_ok hl  q2) ce_X7_needBetween ml_X7_61 st_X7_needBetween (xx_dt dd_X7_wouldPay 6 rfl) (by decide) rfl rfl (Nat.le_of_ble_eq_true rfl) rfl ?_
      refine sw_lsE (ls2 := [.ref 1000, .int (nI (cn x)), .int (nI (cn y))]) (by rw [← (bt_nat 2 q2 (by decide) (by decide) (by decide)).1]) ?_
      have hvq2 := (bt_nat 2 q2 (by decide) (by decide) (by decide)).2
      refine sw_aload_n O (xx_dt dd_X7_wouldPay 7 rfl) rfl ?_
      refine sw_get (v := .ref 1004) O (xx_dt dd_X7_wouldPay 8 rfl) cl_X7 fl_X7_36 (ly_1000 σ h) (by decide) rfl ?_
      refine sw_get (v := .ref 1130) O (xx_dt dd_X7_wouldPay 9 rfl) cl_X4 fl_X7_310 (ly_1004 σ h) (by decide) rfl ?_
      refine sw_iload_n O (xx_dt dd_X7_wouldPay 10 rfl) rfl ?_
      refine sw_aaload (v := .ref (1131 + cn y)) O (xx_dt dd_X7_wouldPay 11 rfl) (by omega) (by omega) (ly_1130 σ h) (pk_in (cn y) _ (by omega)) (by rw [nI_clamp (by omega)]; try exact rfl) ?_
      refine sw_iload_n O (xx_dt dd_X7_wouldPay 12 rfl) rfl ?_
      refine sw_iaload (v := .int (σ (1131 + cn y) (cn x))) O (xx_dt dd_X7_wouldPay 13 rfl) (lr_1130 σ h (k := cn y) (by omega)) (pk_in (cn x) _ (by omega)) (by rw [nI_clamp (by omega)]; try exact rfl) ?_
      exact sw_iret O (xx_dt dd_X7_wouldPay 14 rfl) rfl rfl (by rw [hQ]; exact ⟨by unfold o_wouldPay; simp only [if_pos q1, if_pos q2]; rfl, rfl⟩)
    · exact sw_callSt (as := [.int y, .int 0, .int 2]) (st := []) (k := 0) (n := 0) (k' := 1) (n' := 6) O (ct_X7_needBetween_no hl  q2) ce_X7_needBetween ml_X7_61 st_X7_needBetween (xx_dt dd_X7_wouldPay 6 rfl) (by decide) rfl rfl (Nat.le_of_ble_eq_true rfl)  (by rw [hQ]; exact ⟨by unfold o_wouldPay; simp only [if_pos q1, if_neg q2]; rfl, rfl⟩)
  · exact sw_callVt (as := [.int x]) (st := []) (k := 0) (n := 0) (k' := 1) (n' := 6) O (ct_X7_needBidder_no hl (σ := σ) (B := B) hB (by omega) q1) ce_X7_needBidder ml_X7_124 iv_X7_needBidder cl_X7 rfl (ly_1000 σ h) (xx_dt dd_X7_wouldPay 2 rfl) (by decide) rfl rfl (Nat.le_of_ble_eq_true rfl)  (by rw [hQ]; exact ⟨by unfold o_wouldPay; simp only [if_neg q1]; rfl, rfl⟩)
def o_objects (σ : XS9) (x y : Int32) (B : Nat) : Int32 ⊕ String := (if n_lt x (2 ^ B) then (if n_bt y 0 2 then .inl (if 0 < (f_objection σ (cn x) (cn y)) then (f_objection σ (cn x) (cn y)) else 0) else .inr eIAE) else .inr eIAE)
theorem ct_X7_objects {l : Launch} {h : XH} (hl : l.stackTraces = false) {σ : XS9} {B : Nat} (hB : σ 1001 9 = nI B) (hB6 : B ≤ 6) {x y : Int32} : XEo l m_X7_objects 7 1 6 [.ref 1000, .int x, .int y] (setC σ h) ((xoi (o_objects σ x y B))) (setC σ h) := by
  refine XMet.of hl rfl rfl (Nat.le_of_ble_eq_true rfl) (fun Y O hh hQ => ?_)
  show SW Y 1 6 (setC σ h) 0 [.ref 1000, .int x, .int y] []
  refine sw_iload_n O (xx_dt dd_X7_objects 0 rfl) rfl ?_
  refine sw_aload_n O (xx_dt dd_X7_objects 1 rfl) rfl ?_
  refine sw_get (v := .ref 1001) O (xx_dt dd_X7_objects 2 rfl) cl_X7 fl_X7_12 (ly_1000 σ h) (by decide) rfl ?_
  refine sw_get (v := .int (nI B)) O (xx_dt dd_X7_objects 3 rfl) cl_X6 fl_X7_100 (ly_1001 σ h) (by decide) (congrArg Value.int hB) ?_
  by_cases q1 : n_lt x (2 ^ B)
  · refine sw_callSx (as := [.int x, .int (nI B)]) (st := []) (st2 := []) (k' := 0) (n' := 0) O (ct_X7_needSet_ok hl (C := B) (by omega) q1) ce_X7_needSet ml_X7_228 st_X7_needSet (xx_dt dd_X7_objects 4 rfl) (by decide) rfl rfl (Nat.le_of_ble_eq_true rfl) rfl ?_
    refine sw_lsE (ls2 := [.ref 1000, .int (nI (cn x)), .int y]) (by rw [← q1.1]) ?_
    have hvq1 := q1.2
    have hpq1 := Nat.lt_of_lt_of_le q1.2 (pow6 (C := B) (by omega))
    refine sw_iload_n O (xx_dt dd_X7_objects 5 rfl) rfl ?_
    refine sw_iconst (x := 0) O (xx_dt dd_X7_objects 6 rfl) (by decide) ?_
    refine sw_iconst (x := 2) O (xx_dt dd_X7_objects 7 rfl) (by decide) ?_
    by_cases q2 : n_bt y 0 2
    · refine sw_callSx (as := [.int y, .int 0, .int 2]) (st := []) (st2 := []) (k' := 0) (n' := 0) O (ct_X7_needBetween_ok hl  q2) ce_X7_needBetween ml_X7_61 st_X7_needBetween (xx_dt dd_X7_objects 8 rfl) (by decide) rfl rfl (Nat.le_of_ble_eq_true rfl) rfl ?_
      refine sw_lsE (ls2 := [.ref 1000, .int (nI (cn x)), .int (nI (cn y))]) (by rw [← (bt_nat 2 q2 (by decide) (by decide) (by decide)).1]) ?_
      have hvq2 := (bt_nat 2 q2 (by decide) (by decide) (by decide)).2
      refine sw_iconst (x := 0) O (xx_dt dd_X7_objects 9 rfl) (by decide) ?_
      refine sw_aload_n O (xx_dt dd_X7_objects 10 rfl) rfl ?_
      refine sw_get (v := .ref 1004) O (xx_dt dd_X7_objects 11 rfl) cl_X7 fl_X7_36 (ly_1000 σ h) (by decide) rfl ?_
      refine sw_aload_n O (xx_dt dd_X7_objects 12 rfl) rfl ?_
      refine sw_get (v := .ref 1003) O (xx_dt dd_X7_objects 13 rfl) cl_X7 fl_X7_29 (ly_1000 σ h) (by decide) rfl ?_
      refine sw_iload_n O (xx_dt dd_X7_objects 14 rfl) rfl ?_
      refine sw_iload_n O (xx_dt dd_X7_objects 15 rfl) rfl ?_
      refine sw_callVx (as := [.ref 1003, .int (nI (cn x)), .int (nI (cn y))]) (st := [.int 0]) (st2 := [.int (f_objection σ (cn x) (cn y)), .int 0]) O (ct_X4_objection hl (σ := σ) (S := cn x) (w := cn y) (by omega) (by omega)) ce_X4_objection ml_X7_313 iv_X4_objection cl_X4 rfl (ly_1004 σ h) (xx_dt dd_X7_objects 16 rfl) (by decide) rfl rfl (Nat.le_of_ble_eq_true rfl) rfl ?_
      refine sw_max O mm_X7_317 (xx_dt dd_X7_objects 17 rfl) (by omega) (Nat.le_of_ble_eq_true rfl) ?_
      exact sw_iret O (xx_dt dd_X7_objects 18 rfl) rfl rfl (by rw [hQ]; exact ⟨by unfold o_objects; simp only [if_pos q1, if_pos q2]; rfl, rfl⟩)
    · exact sw_callSt (as := [.int y, .int 0, .int 2]) (st := []) (k := 0) (n := 0) (k' := 1) (n' := 6) O (ct_X7_needBetween_no hl  q2) ce_X7_needBetween ml_X7_61 st_X7_needBetween (xx_dt dd_X7_objects 8 rfl) (by decide) rfl rfl (Nat.le_of_ble_eq_true rfl)  (by rw [hQ]; exact ⟨by unfold o_objects; simp only [if_pos q1, if_neg q2]; rfl, rfl⟩)
  · exact sw_callSt (as := [.int x, .int (nI B)]) (st := []) (k := 0) (n := 0) (k' := 1) (n' := 6) O (ct_X7_needSet_no hl (C := B) (by omega) q1) ce_X7_needSet ml_X7_228 st_X7_needSet (xx_dt dd_X7_objects 4 rfl) (by decide) rfl rfl (Nat.le_of_ble_eq_true rfl)  (by rw [hQ]; exact ⟨by unfold o_objects; simp only [if_neg q1]; rfl, rfl⟩)
def o_most (σ : XS9) (x y : Int32) (R B : Nat) : Int32 ⊕ String := (if n_lt x B then (if n_lt y R then (if (σ 1000 7) = 1 then .inl (f_greatestWish σ 2000 (cn x) (cn y) B) else .inl (-1)) else .inr eIOB) else .inr eIOB)
theorem ct_X7_most {l : Launch} {h : XH} (hl : l.stackTraces = false) {σ : XS9} {R : Nat} (hR : σ 1001 4 = nI R) (hR5 : R ≤ 5) {B : Nat} (hB : σ 1001 9 = nI B) (hB6 : B ≤ 6) {x y : Int32} : XEo l m_X7_most 7 1 6 [.ref 1000, .int x, .int y] (setC σ h) ((xoi (o_most σ x y R B))) (setC σ h) := by
  refine XMet.of hl rfl rfl (Nat.le_of_ble_eq_true rfl) (fun Y O hh hQ => ?_)
  show SW Y 1 6 (setC σ h) 0 [.ref 1000, .int x, .int y] []
  refine sw_aload_n O (xx_dt dd_X7_most 0 rfl) rfl ?_
  refine sw_iload_n O (xx_dt dd_X7_most 1 rfl) rfl ?_
  by_cases q1 : n_lt x B
  · refine sw_callVx (as := [.int x]) (st := []) (st2 := []) (k' := 0) (n' := 0) O (ct_X7_needBidder_ok hl (σ := σ) (B := B) hB (by omega) q1) ce_X7_needBidder ml_X7_124 iv_X7_needBidder cl_X7 rfl (ly_1000 σ h) (xx_dt dd_X7_most 2 rfl) (by decide) rfl rfl (Nat.le_of_ble_eq_true rfl) rfl ?_
    refine sw_lsE (ls2 := [.ref 1000, .int (nI (cn x)), .int y]) (by rw [← q1.1]) ?_
    have hvq1 := q1.2
    refine sw_aload_n O (xx_dt dd_X7_most 3 rfl) rfl ?_
    refine sw_iload_n O (xx_dt dd_X7_most 4 rfl) rfl ?_
    by_cases q2 : n_lt y R
    · refine sw_callVx (as := [.int y]) (st := []) (st2 := []) (k' := 0) (n' := 0) O (ct_X7_needRegion_ok hl (σ := σ) (R := R) hR (by omega) q2) ce_X7_needRegion ml_X7_87 iv_X7_needRegion cl_X7 rfl (ly_1000 σ h) (xx_dt dd_X7_most 5 rfl) (by decide) rfl rfl (Nat.le_of_ble_eq_true rfl) rfl ?_
      refine sw_lsE (ls2 := [.ref 1000, .int (nI (cn x)), .int (nI (cn y))]) (by rw [← q2.1]) ?_
      have hvq2 := q2.2
      refine sw_aload_n O (xx_dt dd_X7_most 6 rfl) rfl ?_
      refine sw_get (v := .int (σ 1000 7)) O (xx_dt dd_X7_most 7 rfl) cl_X7 fl_X7_54 (ly_1000 σ h) (by decide) rfl ?_
      refine sw_iconst (x := 1) O (xx_dt dd_X7_most 8 rfl) (by decide) ?_
      refine sw_icmp_ne (tgt := 34) O (xx_dt dd_X7_most 9 rfl) (by decide) (fun q3 => ?_) (fun q3 => ?_)
      · refine sw_iconst (x := (-1)) O (xx_dt dd_X7_most 18 rfl) (by decide) ?_
        exact sw_iret O (xx_dt dd_X7_most 19 rfl) rfl rfl (by rw [hQ]; exact ⟨by unfold o_most; simp only [if_pos q1, if_pos q2, if_neg q3]; rfl, rfl⟩)
      · refine sw_aload_n O (xx_dt dd_X7_most 10 rfl) rfl ?_
        refine sw_get (v := .ref 2000) O (xx_dt dd_X7_most 11 rfl) cl_X7 fl_X7_19 (ly_1000 σ h) (by decide) rfl ?_
        refine sw_aload_n O (xx_dt dd_X7_most 12 rfl) rfl ?_
        refine sw_get (v := .ref 1001) O (xx_dt dd_X7_most 13 rfl) cl_X7 fl_X7_12 (ly_1000 σ h) (by decide) rfl ?_
        refine sw_iload_n O (xx_dt dd_X7_most 14 rfl) rfl ?_
        refine sw_iload_n O (xx_dt dd_X7_most 15 rfl) rfl ?_
        refine sw_callVx (as := [.ref 1001, .int (nI (cn x)), .int (nI (cn y))]) (st := []) (st2 := [.int (f_greatestWish σ 2000 (cn x) (cn y) B)]) O (ct_X1_greatestWish hl (σ := σ) (b := 2000) (.inl rfl) (B := B) hB (by omega) (i := cn x) (r := cn y) (by omega) (by omega)) ce_X1_greatestWish ml_X7_322 iv_X1_greatestWish cl_X1 rfl (lk_0 σ h (.inl rfl)) (xx_dt dd_X7_most 16 rfl) (by decide) rfl rfl (Nat.le_of_ble_eq_true rfl) rfl ?_
        refine sw_goto (tgt := 35) O (xx_dt dd_X7_most 17 rfl) (by decide) ?_
        exact sw_iret O (xx_dt dd_X7_most 19 rfl) rfl rfl (by rw [hQ]; exact ⟨by unfold o_most; simp only [if_pos q1, if_pos q2, if_pos q3]; rfl, rfl⟩)
    · exact sw_callVt (as := [.int y]) (st := []) (k := 0) (n := 0) (k' := 1) (n' := 6) O (ct_X7_needRegion_no hl (σ := σ) (R := R) hR (by omega) q2) ce_X7_needRegion ml_X7_87 iv_X7_needRegion cl_X7 rfl (ly_1000 σ h) (xx_dt dd_X7_most 5 rfl) (by decide) rfl rfl (Nat.le_of_ble_eq_true rfl)  (by rw [hQ]; exact ⟨by unfold o_most; simp only [if_pos q1, if_neg q2]; rfl, rfl⟩)
  · exact sw_callVt (as := [.int x]) (st := []) (k := 0) (n := 0) (k' := 1) (n' := 6) O (ct_X7_needBidder_no hl (σ := σ) (B := B) hB (by omega) q1) ce_X7_needBidder ml_X7_124 iv_X7_needBidder cl_X7 rfl (ly_1000 σ h) (xx_dt dd_X7_most 2 rfl) (by decide) rfl rfl (Nat.le_of_ble_eq_true rfl)  (by rw [hQ]; exact ⟨by unfold o_most; simp only [if_neg q1]; rfl, rfl⟩)
def o_contradicts (σ : XS9) (x : Int32) (B K : Nat) : Int32 ⊕ String := (if n_lt x B then (if (σ 1000 7) = 1 then .inl (f_contradictedRound σ 2000 (cn x) K) else .inl (-1)) else .inr eIOB)
theorem ct_X7_contradicts {l : Launch} {h : XH} (hl : l.stackTraces = false) {σ : XS9} {B : Nat} (hB : σ 1001 9 = nI B) (hB6 : B ≤ 6) {K : Nat} (hK : σ 2000 9 = nI K) (hK60 : K ≤ 60) {x : Int32} : XEo l m_X7_contradicts 7 1 6 [.ref 1000, .int x] (setC σ h) ((xoi (o_contradicts σ x B K))) (setC σ h) := by
  refine XMet.of hl rfl rfl (Nat.le_of_ble_eq_true rfl) (fun Y O hh hQ => ?_)
  show SW Y 1 6 (setC σ h) 0 [.ref 1000, .int x] []
  refine sw_aload_n O (xx_dt dd_X7_contradicts 0 rfl) rfl ?_
  refine sw_iload_n O (xx_dt dd_X7_contradicts 1 rfl) rfl ?_
  by_cases q1 : n_lt x B
  · refine sw_callVx (as := [.int x]) (st := []) (st2 := []) (k' := 0) (n' := 0) O (ct_X7_needBidder_ok hl (σ := σ) (B := B) hB (by omega) q1) ce_X7_needBidder ml_X7_124 iv_X7_needBidder cl_X7 rfl (ly_1000 σ h) (xx_dt dd_X7_contradicts 2 rfl) (by decide) rfl rfl (Nat.le_of_ble_eq_true rfl) rfl ?_
    refine sw_lsE (ls2 := [.ref 1000, .int (nI (cn x))]) (by rw [← q1.1]) ?_
    have hvq1 := q1.2
    refine sw_aload_n O (xx_dt dd_X7_contradicts 3 rfl) rfl ?_
    refine sw_get (v := .int (σ 1000 7)) O (xx_dt dd_X7_contradicts 4 rfl) cl_X7 fl_X7_54 (ly_1000 σ h) (by decide) rfl ?_
    refine sw_iconst (x := 1) O (xx_dt dd_X7_contradicts 5 rfl) (by decide) ?_
    refine sw_icmp_ne (tgt := 24) O (xx_dt dd_X7_contradicts 6 rfl) (by decide) (fun q2 => ?_) (fun q2 => ?_)
    · refine sw_iconst (x := (-1)) O (xx_dt dd_X7_contradicts 12 rfl) (by decide) ?_
      exact sw_iret O (xx_dt dd_X7_contradicts 13 rfl) rfl rfl (by rw [hQ]; exact ⟨by unfold o_contradicts; simp only [if_pos q1, if_neg q2]; rfl, rfl⟩)
    · refine sw_aload_n O (xx_dt dd_X7_contradicts 7 rfl) rfl ?_
      refine sw_get (v := .ref 2000) O (xx_dt dd_X7_contradicts 8 rfl) cl_X7 fl_X7_19 (ly_1000 σ h) (by decide) rfl ?_
      refine sw_iload_n O (xx_dt dd_X7_contradicts 9 rfl) rfl ?_
      refine sw_callVx (as := [.int (nI (cn x))]) (st := []) (st2 := [.int (f_contradictedRound σ 2000 (cn x) K)]) O (ct_X1_contradictedRound hl (σ := σ) (b := 2000) (.inl rfl) (K := K) hK (by omega) (i := cn x) (by omega)) ce_X1_contradictedRound ml_X7_326 iv_X1_contradictedRound cl_X1 rfl (lk_0 σ h (.inl rfl)) (xx_dt dd_X7_contradicts 10 rfl) (by decide) rfl rfl (Nat.le_of_ble_eq_true rfl) rfl ?_
      refine sw_goto (tgt := 25) O (xx_dt dd_X7_contradicts 11 rfl) (by decide) ?_
      exact sw_iret O (xx_dt dd_X7_contradicts 13 rfl) rfl rfl (by rw [hQ]; exact ⟨by unfold o_contradicts; simp only [if_pos q1, if_pos q2]; rfl, rfl⟩)
  · exact sw_callVt (as := [.int x]) (st := []) (k := 0) (n := 0) (k' := 1) (n' := 6) O (ct_X7_needBidder_no hl (σ := σ) (B := B) hB (by omega) q1) ce_X7_needBidder ml_X7_124 iv_X7_needBidder cl_X7 rfl (ly_1000 σ h) (xx_dt dd_X7_contradicts 2 rfl) (by decide) rfl rfl (Nat.le_of_ble_eq_true rfl)  (by rw [hQ]; exact ⟨by unfold o_contradicts; simp only [if_neg q1]; rfl, rfl⟩)
def o_anew (σ : XS9) (x y z v : Int32) (R B K : Nat) : Int32 ⊕ String := (if n_rd x K then (if n_lt y B then (if n_lt z R then (if n_bt v 0 5 then .inl (f_allPrices (g_runLog σ 3000 2000 (nI (rn x + 1)) (cn y) (cn z) (nI (cn v)) B R K) 3000) else .inr eIAE) else .inr eIOB) else .inr eIOB) else .inr eIOB)
def g_anew (σ : XS9) (x y z v : Int32) (R B K : Nat) : XS9 := (if n_rd x K then (if n_lt y B then (if n_lt z R then (if n_bt v 0 5 then g_runLog σ 3000 2000 (nI (rn x + 1)) (cn y) (cn z) (nI (cn v)) B R K else σ) else σ) else σ) else σ)
theorem ct_X7_anew {l : Launch} {h : XH} (hl : l.stackTraces = false) {σ : XS9} {R : Nat} (hR : σ 1001 4 = nI R) (hR5 : R ≤ 5) {B : Nat} (hB : σ 1001 9 = nI B) (hB6 : B ≤ 6) {K : Nat} (hK : σ 2000 9 = nI K) (hK60 : K ≤ 60) {x y z v : Int32} : XEo l m_X7_anew 7 1 6 [.ref 1000, .int x, .int y, .int z, .int v] (setC σ h) ((xoi (o_anew σ x y z v R B K))) (setC (g_anew σ x y z v R B K) h) := by
  refine XMet.of hl rfl rfl (Nat.le_of_ble_eq_true rfl) (fun Y O hh hQ => ?_)
  show SW Y 1 6 (setC σ h) 0 [.ref 1000, .int x, .int y, .int z, .int v] []
  refine sw_aload_n O (xx_dt dd_X7_anew 0 rfl) rfl ?_
  refine sw_iload_n O (xx_dt dd_X7_anew 1 rfl) rfl ?_
  by_cases q1 : n_rd x K
  · refine sw_callVx (as := [.int x]) (st := []) (st2 := []) (k' := 0) (n' := 0) O (ct_X7_needRound_ok hl (σ := σ) (K := K) hK (by omega) q1) ce_X7_needRound ml_X7_255 iv_X7_needRound cl_X7 rfl (ly_1000 σ h) (xx_dt dd_X7_anew 2 rfl) (by decide) rfl rfl (Nat.le_of_ble_eq_true rfl) rfl ?_
    refine sw_lsE (ls2 := [.ref 1000, .int (nI (rn x + 1)), .int y, .int z, .int v]) (by rw [← q1.1]) ?_
    have hvq1 := q1.2
    refine sw_aload_n O (xx_dt dd_X7_anew 3 rfl) rfl ?_
    refine sw_iload_n O (xx_dt dd_X7_anew 4 rfl) rfl ?_
    by_cases q2 : n_lt y B
    · refine sw_callVx (as := [.int y]) (st := []) (st2 := []) (k' := 0) (n' := 0) O (ct_X7_needBidder_ok hl (σ := σ) (B := B) hB (by omega) q2) ce_X7_needBidder ml_X7_124 iv_X7_needBidder cl_X7 rfl (ly_1000 σ h) (xx_dt dd_X7_anew 5 rfl) (by decide) rfl rfl (Nat.le_of_ble_eq_true rfl) rfl ?_
      refine sw_lsE (ls2 := [.ref 1000, .int (nI (rn x + 1)), .int (nI (cn y)), .int z, .int v]) (by rw [← q2.1]) ?_
      have hvq2 := q2.2
      refine sw_aload_n O (xx_dt dd_X7_anew 6 rfl) rfl ?_
      refine sw_iload_n O (xx_dt dd_X7_anew 7 rfl) rfl ?_
      by_cases q3 : n_lt z R
      · refine sw_callVx (as := [.int z]) (st := []) (st2 := []) (k' := 0) (n' := 0) O (ct_X7_needRegion_ok hl (σ := σ) (R := R) hR (by omega) q3) ce_X7_needRegion ml_X7_87 iv_X7_needRegion cl_X7 rfl (ly_1000 σ h) (xx_dt dd_X7_anew 8 rfl) (by decide) rfl rfl (Nat.le_of_ble_eq_true rfl) rfl ?_
        refine sw_lsE (ls2 := [.ref 1000, .int (nI (rn x + 1)), .int (nI (cn y)), .int (nI (cn z)), .int v]) (by rw [← q3.1]) ?_
        have hvq3 := q3.2
        refine sw_iload O (xx_dt dd_X7_anew 9 rfl) rfl ?_
        refine sw_iconst (x := 0) O (xx_dt dd_X7_anew 10 rfl) (by decide) ?_
        refine sw_iconst (x := 5) O (xx_dt dd_X7_anew 11 rfl) (by decide) ?_
        by_cases q4 : n_bt v 0 5
        · refine sw_callSx (as := [.int v, .int 0, .int 5]) (st := []) (st2 := []) (k' := 0) (n' := 0) O (ct_X7_needBetween_ok hl  q4) ce_X7_needBetween ml_X7_61 st_X7_needBetween (xx_dt dd_X7_anew 12 rfl) (by decide) rfl rfl (Nat.le_of_ble_eq_true rfl) rfl ?_
          refine sw_lsE (ls2 := [.ref 1000, .int (nI (rn x + 1)), .int (nI (cn y)), .int (nI (cn z)), .int (nI (cn v))]) (by rw [← (bt_nat 5 q4 (by decide) (by decide) (by decide)).1]) ?_
          have hvq4 := (bt_nat 5 q4 (by decide) (by decide) (by decide)).2
          refine sw_aload_n O (xx_dt dd_X7_anew 13 rfl) rfl ?_
          refine sw_get (v := .ref 3000) O (xx_dt dd_X7_anew 14 rfl) cl_X7 fl_X7_23 (ly_1000 σ h) (by decide) rfl ?_
          refine sw_aload_n O (xx_dt dd_X7_anew 15 rfl) rfl ?_
          refine sw_get (v := .ref 1001) O (xx_dt dd_X7_anew 16 rfl) cl_X7 fl_X7_12 (ly_1000 σ h) (by decide) rfl ?_
          refine sw_aload_n O (xx_dt dd_X7_anew 17 rfl) rfl ?_
          refine sw_get (v := .ref 2000) O (xx_dt dd_X7_anew 18 rfl) cl_X7 fl_X7_19 (ly_1000 σ h) (by decide) rfl ?_
          refine sw_iload_n O (xx_dt dd_X7_anew 19 rfl) rfl ?_
          refine sw_iload_n O (xx_dt dd_X7_anew 20 rfl) rfl ?_
          refine sw_iload_n O (xx_dt dd_X7_anew 21 rfl) rfl ?_
          refine sw_iload O (xx_dt dd_X7_anew 22 rfl) rfl ?_
          refine sw_callVx (as := [.ref 1001, .ref 2000, .int (nI (rn x + 1)), .int (nI (cn y)), .int (nI (cn z)), .int (nI (cn v))]) (st := []) (st2 := []) O (ct_X1_runLog hl (σ := σ) (b := 3000) (c := 2000) (.inr rfl) (.inl rfl) (by decide) (B := B) hB (by omega) (R := R) hR (by omega) (K := K) hK (by omega) (x := nI (rn x + 1)) (y := nI (cn v)) (j := cn y) (r := cn z) (by omega) (by omega)) ce_X1_runLog ml_X7_329 iv_X1_runLog cl_X1 rfl (lk_0 σ h (.inr rfl)) (xx_dt dd_X7_anew 23 rfl) (by decide) rfl rfl (Nat.le_of_ble_eq_true rfl) rfl ?_
          refine sw_aload_n O (xx_dt dd_X7_anew 24 rfl) rfl ?_
          refine sw_get (v := .ref 3000) O (xx_dt dd_X7_anew 25 rfl) cl_X7 fl_X7_23 (ly_1000 (g_runLog σ 3000 2000 (nI (rn x + 1)) (cn y) (cn z) (nI (cn v)) B R K) h) (by decide) rfl ?_
          refine sw_callVx (as := []) (st := []) (st2 := [.int (f_allPrices (g_runLog σ 3000 2000 (nI (rn x + 1)) (cn y) (cn z) (nI (cn v)) B R K) 3000)]) O (ct_X1_allPrices hl (σ := g_runLog σ 3000 2000 (nI (rn x + 1)) (cn y) (cn z) (nI (cn v)) B R K) (b := 3000) (.inr rfl)  ) ce_X1_allPrices ml_X7_120 iv_X1_allPrices cl_X1 rfl (lk_0 (g_runLog σ 3000 2000 (nI (rn x + 1)) (cn y) (cn z) (nI (cn v)) B R K) h (.inr rfl)) (xx_dt dd_X7_anew 26 rfl) (by decide) rfl rfl (Nat.le_of_ble_eq_true rfl) rfl ?_
          exact sw_iret O (xx_dt dd_X7_anew 27 rfl) rfl rfl (by rw [hQ]; exact ⟨by unfold o_anew; simp only [if_pos q1, if_pos q2, if_pos q3, if_pos q4]; rfl, by unfold g_anew; simp only [if_pos q1, if_pos q2, if_pos q3, if_pos q4]⟩)
        · exact sw_callSt (as := [.int v, .int 0, .int 5]) (st := []) (k := 0) (n := 0) (k' := 1) (n' := 6) O (ct_X7_needBetween_no hl  q4) ce_X7_needBetween ml_X7_61 st_X7_needBetween (xx_dt dd_X7_anew 12 rfl) (by decide) rfl rfl (Nat.le_of_ble_eq_true rfl)  (by rw [hQ]; exact ⟨by unfold o_anew; simp only [if_pos q1, if_pos q2, if_pos q3, if_neg q4]; rfl, by unfold g_anew; simp only [if_pos q1, if_pos q2, if_pos q3, if_neg q4]⟩)
      · exact sw_callVt (as := [.int z]) (st := []) (k := 0) (n := 0) (k' := 1) (n' := 6) O (ct_X7_needRegion_no hl (σ := σ) (R := R) hR (by omega) q3) ce_X7_needRegion ml_X7_87 iv_X7_needRegion cl_X7 rfl (ly_1000 σ h) (xx_dt dd_X7_anew 8 rfl) (by decide) rfl rfl (Nat.le_of_ble_eq_true rfl)  (by rw [hQ]; exact ⟨by unfold o_anew; simp only [if_pos q1, if_pos q2, if_neg q3]; rfl, by unfold g_anew; simp only [if_pos q1, if_pos q2, if_neg q3]⟩)
    · exact sw_callVt (as := [.int y]) (st := []) (k := 0) (n := 0) (k' := 1) (n' := 6) O (ct_X7_needBidder_no hl (σ := σ) (B := B) hB (by omega) q2) ce_X7_needBidder ml_X7_124 iv_X7_needBidder cl_X7 rfl (ly_1000 σ h) (xx_dt dd_X7_anew 5 rfl) (by decide) rfl rfl (Nat.le_of_ble_eq_true rfl)  (by rw [hQ]; exact ⟨by unfold o_anew; simp only [if_pos q1, if_neg q2]; rfl, by unfold g_anew; simp only [if_pos q1, if_neg q2]⟩)
  · exact sw_callVt (as := [.int x]) (st := []) (k := 0) (n := 0) (k' := 1) (n' := 6) O (ct_X7_needRound_no hl (σ := σ) (K := K) hK (by omega) q1) ce_X7_needRound ml_X7_255 iv_X7_needRound cl_X7 rfl (ly_1000 σ h) (xx_dt dd_X7_anew 2 rfl) (by decide) rfl rfl (Nat.le_of_ble_eq_true rfl)  (by rw [hQ]; exact ⟨by unfold o_anew; simp only [if_neg q1]; rfl, by unfold g_anew; simp only [if_neg q1]⟩)
end
