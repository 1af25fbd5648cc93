section
/-! ===== what is asked ===== -/
def f_regionFact (σ : XS9) (C r : Nat) (v : Nat) : Int32 := match v with | 0 => f_regionFact0 σ C r | 1 => f_regionFact1 σ C r | 2 => f_regionFact2 σ C r | 3 => f_regionFact3 σ C r | 4 => f_regionFact4 σ C r | 5 => f_regionFact5 σ C r | 6 => f_regionFact6 σ C r | 7 => f_regionFact7 σ C r | _ => f_regionFact8 σ C r
theorem ct_X7_regionFact {l : Launch} {h : XH} (hl : l.stackTraces = false) {σ : XS9} {C : Nat} (hC : σ 1006 1 = nI C) (hC10 : C ≤ 10) {r : Nat} (hr : r < 5) {v : Nat} (hv : v < 9) : XEx l m_X7_regionFact 2 0 0 [.ref 1000, .int (nI r), .int (nI v)] (setC σ h) (some (.int (f_regionFact σ C r v))) (setC σ h) := by
  match v, hv with
  | 0, _ => exact ct_X7_regionFact_0 hl hC hC10 hr
  | 1, _ => exact ct_X7_regionFact_1 hl hC hC10 hr
  | 2, _ => exact ct_X7_regionFact_2 hl hC hC10 hr
  | 3, _ => exact ct_X7_regionFact_3 hl hC hC10 hr
  | 4, _ => exact ct_X7_regionFact_4 hl hC hC10 hr
  | 5, _ => exact ct_X7_regionFact_5 hl hC hC10 hr
  | 6, _ => exact ct_X7_regionFact_6 hl hC hC10 hr
  | 7, _ => exact ct_X7_regionFact_7 hl hC hC10 hr
  | 8, _ => exact ct_X7_regionFact_8 hl hC hC10 hr
def f_bidderFact (σ : XS9) (i : Nat) (v : Nat) : Int32 := match v with | 0 => f_bidderFact0 σ i | 1 => f_bidderFact1 σ i | 2 => f_bidderFact2 σ i | 3 => f_bidderFact3 σ i | 4 => f_bidderFact4 σ i | 5 => f_bidderFact5 σ i | 6 => f_bidderFact6 σ i | 7 => f_bidderFact7 σ i | 8 => f_bidderFact8 σ i | 9 => f_bidderFact9 σ i | _ => f_bidderFact10 σ i
theorem ct_X7_bidderFact {l : Launch} {h : XH} (hl : l.stackTraces = false) {σ : XS9} {i : Nat} (hi : i < 6) {v : Nat} (hv : v < 11) : XEx l m_X7_bidderFact 2 0 0 [.ref 1000, .int (nI i), .int (nI v)] (setC σ h) (some (.int (f_bidderFact σ i v))) (setC σ h) := by
  match v, hv with
  | 0, _ => exact ct_X7_bidderFact_0 hl hi
  | 1, _ => exact ct_X7_bidderFact_1 hl hi
  | 2, _ => exact ct_X7_bidderFact_2 hl hi
  | 3, _ => exact ct_X7_bidderFact_3 hl hi
  | 4, _ => exact ct_X7_bidderFact_4 hl hi
  | 5, _ => exact ct_X7_bidderFact_5 hl hi
  | 6, _ => exact ct_X7_bidderFact_6 hl hi
  | 7, _ => exact ct_X7_bidderFact_7 hl hi
  | 8, _ => exact ct_X7_bidderFact_8 hl hi
  | 9, _ => exact ct_X7_bidderFact_9 hl hi
  | 10, _ => exact ct_X7_bidderFact_10 hl hi
def o_ofRegion (σ : XS9) (x y : Int32) (R C : Nat) : Int32 ⊕ String := (if n_lt x R then (if n_bt y 0 8 then .inl (f_regionFact σ C (cn x) (cn y)) else .inr eIAE) else .inr eIOB)
theorem ct_X7_ofRegion {l : Launch} {h : XH} (hl : l.stackTraces = false) {σ : XS9} {R : Nat} (hR : σ 1001 4 = nI R) (hR5 : R ≤ 5) {C : Nat} (hC : σ 1006 1 = nI C) (hC10 : C ≤ 10) {x y : Int32} : XEo l m_X7_ofRegion 7 1 6 [.ref 1000, .int x, .int y] (setC σ h) ((xoi (o_ofRegion σ x y R C))) (setC σ h) := by
  refine XMet.of hl rfl rfl (Nat.le_of_ble_eq_true rfl) (fun Y O hh hQ => ?_)
  show SW Y 1 6 (setC σ h) 0 [.ref 1000, .int x, .int y] []
  refine sw_aload_n O (xx_dt dd_X7_ofRegion 0 rfl) rfl ?_
  refine sw_iload_n O (xx_dt dd_X7_ofRegion 1 rfl) rfl ?_
  by_cases q1 : n_lt x R
  · refine sw_callVx (as := [.int x]) (st := []) (st2 := []) (k' := 0) (n' := 0) O (ct_X7_needRegion_ok hl (σ := σ) (R := R) hR (by omega) q1) ce_X7_needRegion ml_X7_87 iv_X7_needRegion cl_X7 rfl (ly_1000 σ h) (xx_dt dd_X7_ofRegion 2 rfl) (by decide) rfl rfl (Nat.le_of_ble_eq_true rfl) rfl ?_
    refine sw_lsE (ls2 := [.ref 1000, .int (nI (cn x)), .int y]) (by rw [← q1.1]) ?_
    have hvq1 := q1.2
    refine sw_iload_n O (xx_dt dd_X7_ofRegion 3 rfl) rfl ?_
    refine sw_iconst (x := 0) O (xx_dt dd_X7_ofRegion 4 rfl) (by decide) ?_
    refine sw_bipush (x := 8) O (xx_dt dd_X7_ofRegion 5 rfl) (by decide) ?_
    by_cases q2 : n_bt y 0 8
    · refine sw_callSx (as := [.int y, .int 0, .int 8]) (st := []) (st2 := []) (k' := 0) (n' := 0) O (ct_X7_needBetween_ok hl  q2) ce_X7_needBetween ml_X7_61 st_X7_needBetween (xx_dt dd_X7_ofRegion 6 rfl) (by decide) rfl rfl (Nat.le_of_ble_eq_true rfl) rfl ?_
      refine sw_lsE (ls2 := [.ref 1000, .int (nI (cn x)), .int (nI (cn y))]) (by rw [← (bt_nat 8 q2 (by decide) (by decide) (by decide)).1]) ?_
      have hvq2 := (bt_nat 8 q2 (by decide) (by decide) (by decide)).2
      refine sw_aload_n O (xx_dt dd_X7_ofRegion 7 rfl) rfl ?_
      refine sw_iload_n O (xx_dt dd_X7_ofRegion 8 rfl) rfl ?_
      refine sw_iload_n O (xx_dt dd_X7_ofRegion 9 rfl) rfl ?_
      refine sw_callVx (as := [.int (nI (cn x)), .int (nI (cn y))]) (st := []) (st2 := [.int (f_regionFact σ C (cn x) (cn y))]) O (ct_X7_regionFact hl (σ := σ) (C := C) hC (by omega) (r := cn x) (by omega) (v := cn y) (by omega)) ce_X7_regionFact ml_X7_243 iv_X7_regionFact cl_X7 rfl (ly_1000 σ h) (xx_dt dd_X7_ofRegion 10 rfl) (by decide) rfl rfl (Nat.le_of_ble_eq_true rfl) rfl ?_
      exact sw_iret O (xx_dt dd_X7_ofRegion 11 rfl) rfl rfl (by rw [hQ]; exact ⟨by unfold o_ofRegion; simp only [if_pos q1, if_pos q2]; rfl, rfl⟩)
    · exact sw_callSt (as := [.int y, .int 0, .int 8]) (st := []) (k := 0) (n := 0) (k' := 1) (n' := 6) O (ct_X7_needBetween_no hl  q2) ce_X7_needBetween ml_X7_61 st_X7_needBetween (xx_dt dd_X7_ofRegion 6 rfl) (by decide) rfl rfl (Nat.le_of_ble_eq_true rfl)  (by rw [hQ]; exact ⟨by unfold o_ofRegion; simp only [if_pos q1, if_neg q2]; rfl, rfl⟩)
  · exact sw_callVt (as := [.int x]) (st := []) (k := 0) (n := 0) (k' := 1) (n' := 6) O (ct_X7_needRegion_no hl (σ := σ) (R := R) hR (by omega) q1) ce_X7_needRegion ml_X7_87 iv_X7_needRegion cl_X7 rfl (ly_1000 σ h) (xx_dt dd_X7_ofRegion 2 rfl) (by decide) rfl rfl (Nat.le_of_ble_eq_true rfl)  (by rw [hQ]; exact ⟨by unfold o_ofRegion; simp only [if_neg q1]; rfl, rfl⟩)
def o_ofBidder (σ : XS9) (x y : Int32) (B : Nat) : Int32 ⊕ String := (if n_lt x B then (if n_bt y 0 10 then .inl (f_bidderFact σ (cn x) (cn y)) else .inr eIAE) else .inr eIOB)
theorem ct_X7_ofBidder {l : Launch} {h : XH} (hl : l.stackTraces = false) {σ : XS9} {B : Nat} (hB : σ 1001 9 = nI B) (hB6 : B ≤ 6) {x y : Int32} : XEo l m_X7_ofBidder 7 1 6 [.ref 1000, .int x, .int y] (setC σ h) ((xoi (o_ofBidder σ x y B))) (setC σ h) := by
  refine XMet.of hl rfl rfl (Nat.le_of_ble_eq_true rfl) (fun Y O hh hQ => ?_)
  show SW Y 1 6 (setC σ h) 0 [.ref 1000, .int x, .int y] []
  refine sw_aload_n O (xx_dt dd_X7_ofBidder 0 rfl) rfl ?_
  refine sw_iload_n O (xx_dt dd_X7_ofBidder 1 rfl) rfl ?_
  by_cases q1 : n_lt x B
  · refine sw_callVx (as := [.int x]) (st := []) (st2 := []) (k' := 0) (n' := 0) O (ct_X7_needBidder_ok hl (σ := σ) (B := B) hB (by omega) q1) ce_X7_needBidder ml_X7_124 iv_X7_needBidder cl_X7 rfl (ly_1000 σ h) (xx_dt dd_X7_ofBidder 2 rfl) (by decide) rfl rfl (Nat.le_of_ble_eq_true rfl) rfl ?_
    refine sw_lsE (ls2 := [.ref 1000, .int (nI (cn x)), .int y]) (by rw [← q1.1]) ?_
    have hvq1 := q1.2
    refine sw_iload_n O (xx_dt dd_X7_ofBidder 3 rfl) rfl ?_
    refine sw_iconst (x := 0) O (xx_dt dd_X7_ofBidder 4 rfl) (by decide) ?_
    refine sw_bipush (x := 10) O (xx_dt dd_X7_ofBidder 5 rfl) (by decide) ?_
    by_cases q2 : n_bt y 0 10
    · refine sw_callSx (as := [.int y, .int 0, .int 10]) (st := []) (st2 := []) (k' := 0) (n' := 0) O (ct_X7_needBetween_ok hl  q2) ce_X7_needBetween ml_X7_61 st_X7_needBetween (xx_dt dd_X7_ofBidder 6 rfl) (by decide) rfl rfl (Nat.le_of_ble_eq_true rfl) rfl ?_
      refine sw_lsE (ls2 := [.ref 1000, .int (nI (cn x)), .int (nI (cn y))]) (by rw [← (bt_nat 10 q2 (by decide) (by decide) (by decide)).1]) ?_
      have hvq2 := (bt_nat 10 q2 (by decide) (by decide) (by decide)).2
      refine sw_aload_n O (xx_dt dd_X7_ofBidder 7 rfl) rfl ?_
      refine sw_iload_n O (xx_dt dd_X7_ofBidder 8 rfl) rfl ?_
      refine sw_iload_n O (xx_dt dd_X7_ofBidder 9 rfl) rfl ?_
      refine sw_callVx (as := [.int (nI (cn x)), .int (nI (cn y))]) (st := []) (st2 := [.int (f_bidderFact σ (cn x) (cn y))]) O (ct_X7_bidderFact hl (σ := σ) (i := cn x) (by omega) (v := cn y) (by omega)) ce_X7_bidderFact ml_X7_246 iv_X7_bidderFact cl_X7 rfl (ly_1000 σ h) (xx_dt dd_X7_ofBidder 10 rfl) (by decide) rfl rfl (Nat.le_of_ble_eq_true rfl) rfl ?_
      exact sw_iret O (xx_dt dd_X7_ofBidder 11 rfl) rfl rfl (by rw [hQ]; exact ⟨by unfold o_ofBidder; simp only [if_pos q1, if_pos q2]; rfl, rfl⟩)
    · exact sw_callSt (as := [.int y, .int 0, .int 10]) (st := []) (k := 0) (n := 0) (k' := 1) (n' := 6) O (ct_X7_needBetween_no hl  q2) ce_X7_needBetween ml_X7_61 st_X7_needBetween (xx_dt dd_X7_ofBidder 6 rfl) (by decide) rfl rfl (Nat.le_of_ble_eq_true rfl)  (by rw [hQ]; exact ⟨by unfold o_ofBidder; simp only [if_pos q1, if_neg q2]; rfl, rfl⟩)
  · exact sw_callVt (as := [.int x]) (st := []) (k := 0) (n := 0) (k' := 1) (n' := 6) O (ct_X7_needBidder_no hl (σ := σ) (B := B) hB (by omega) q1) ce_X7_needBidder ml_X7_124 iv_X7_needBidder cl_X7 rfl (ly_1000 σ h) (xx_dt dd_X7_ofBidder 2 rfl) (by decide) rfl rfl (Nat.le_of_ble_eq_true rfl)  (by rw [hQ]; exact ⟨by unfold o_ofBidder; simp only [if_neg q1]; rfl, rfl⟩)
def o_wants (σ : XS9) (x y z : Int32) (R B : Nat) : Int32 ⊕ String := (if n_lt x B then (if n_lt y R then (if z = 0 then .inl (f_many (σ (2000 + 3) (cn x)) (cn y)) else .inl (f_many (σ (2000 + 2) (cn x)) (cn y))) else .inr eIOB) else .inr eIOB)
theorem ct_X7_wants {l : Launch} {h : XH} (hl : l.stackTraces = false) {σ : XS9} {R : Nat} (hR : σ 1001 4 = nI R) (hR5 : R ≤ 5) {B : Nat} (hB : σ 1001 9 = nI B) (hB6 : B ≤ 6) {x y z : Int32} : XEo l m_X7_wants 7 1 6 [.ref 1000, .int x, .int y, .int z] (setC σ h) ((xoi (o_wants σ x y z R B))) (setC σ h) := by
  refine XMet.of hl rfl rfl (Nat.le_of_ble_eq_true rfl) (fun Y O hh hQ => ?_)
  show SW Y 1 6 (setC σ h) 0 [.ref 1000, .int x, .int y, .int z] []
  refine sw_aload_n O (xx_dt dd_X7_wants 0 rfl) rfl ?_
  refine sw_iload_n O (xx_dt dd_X7_wants 1 rfl) rfl ?_
  by_cases q1 : n_lt x B
  · refine sw_callVx (as := [.int x]) (st := []) (st2 := []) (k' := 0) (n' := 0) O (ct_X7_needBidder_ok hl (σ := σ) (B := B) hB (by omega) q1) ce_X7_needBidder ml_X7_124 iv_X7_needBidder cl_X7 rfl (ly_1000 σ h) (xx_dt dd_X7_wants 2 rfl) (by decide) rfl rfl (Nat.le_of_ble_eq_true rfl) rfl ?_
    refine sw_lsE (ls2 := [.ref 1000, .int (nI (cn x)), .int y, .int z]) (by rw [← q1.1]) ?_
    have hvq1 := q1.2
    refine sw_aload_n O (xx_dt dd_X7_wants 3 rfl) rfl ?_
    refine sw_iload_n O (xx_dt dd_X7_wants 4 rfl) rfl ?_
    by_cases q2 : n_lt y R
    · refine sw_callVx (as := [.int y]) (st := []) (st2 := []) (k' := 0) (n' := 0) O (ct_X7_needRegion_ok hl (σ := σ) (R := R) hR (by omega) q2) ce_X7_needRegion ml_X7_87 iv_X7_needRegion cl_X7 rfl (ly_1000 σ h) (xx_dt dd_X7_wants 5 rfl) (by decide) rfl rfl (Nat.le_of_ble_eq_true rfl) rfl ?_
      refine sw_lsE (ls2 := [.ref 1000, .int (nI (cn x)), .int (nI (cn y)), .int z]) (by rw [← q2.1]) ?_
      have hvq2 := q2.2
      refine sw_iload_n O (xx_dt dd_X7_wants 6 rfl) rfl ?_
      refine sw_if_eq (tgt := 26) O (xx_dt dd_X7_wants 7 rfl) (by decide) (fun q3 => ?_) (fun q3 => ?_)
      · refine sw_aload_n O (xx_dt dd_X7_wants 14 rfl) rfl ?_
        refine sw_get (v := .ref 2000) O (xx_dt dd_X7_wants 15 rfl) cl_X7 fl_X7_19 (ly_1000 σ h) (by decide) rfl ?_
        refine sw_get (v := .ref (2000 + 3)) O (xx_dt dd_X7_wants 16 rfl) cl_X1 fl_X7_133 (lk_0 σ h (.inl rfl)) (by decide) rfl ?_
        refine sw_iload_n O (xx_dt dd_X7_wants 17 rfl) rfl ?_
        refine sw_iaload (v := .int (σ (2000 + 3) (cn x))) O (xx_dt dd_X7_wants 18 rfl) (lk_3 σ h (.inl rfl)) (pk_in (cn x) _ (by omega)) (by rw [nI_clamp (by omega)]; try exact rfl) ?_
        refine sw_iload_n O (xx_dt dd_X7_wants 19 rfl) rfl ?_
        refine sw_callSx (as := [.int (σ (2000 + 3) (cn x)), .int (nI (cn y))]) (st := []) (st2 := [.int (f_many (σ (2000 + 3) (cn x)) (cn y))]) O (ct_X0_many hl (c := σ (2000 + 3) (cn x)) (r := cn y) (by omega)) ce_X0_many ml_X7_252 st_X0_many (xx_dt dd_X7_wants 20 rfl) (by decide) rfl rfl (Nat.le_of_ble_eq_true rfl) rfl ?_
        exact sw_iret O (xx_dt dd_X7_wants 21 rfl) rfl rfl (by rw [hQ]; exact ⟨by unfold o_wants; simp only [if_pos q1, if_pos q2, if_pos q3]; rfl, rfl⟩)
      · refine sw_aload_n O (xx_dt dd_X7_wants 8 rfl) rfl ?_
        refine sw_get (v := .ref 2000) O (xx_dt dd_X7_wants 9 rfl) cl_X7 fl_X7_19 (ly_1000 σ h) (by decide) rfl ?_
        refine sw_get (v := .ref (2000 + 2)) O (xx_dt dd_X7_wants 10 rfl) cl_X1 fl_X7_249 (lk_0 σ h (.inl rfl)) (by decide) rfl ?_
        refine sw_iload_n O (xx_dt dd_X7_wants 11 rfl) rfl ?_
        refine sw_iaload (v := .int (σ (2000 + 2) (cn x))) O (xx_dt dd_X7_wants 12 rfl) (lk_2 σ h (.inl rfl)) (pk_in (cn x) _ (by omega)) (by rw [nI_clamp (by omega)]; try exact rfl) ?_
        refine sw_goto (tgt := 35) O (xx_dt dd_X7_wants 13 rfl) (by decide) ?_
        refine sw_iload_n O (xx_dt dd_X7_wants 19 rfl) rfl ?_
        refine sw_callSx (as := [.int (σ (2000 + 2) (cn x)), .int (nI (cn y))]) (st := []) (st2 := [.int (f_many (σ (2000 + 2) (cn x)) (cn y))]) O (ct_X0_many hl (c := σ (2000 + 2) (cn x)) (r := cn y) (by omega)) ce_X0_many ml_X7_252 st_X0_many (xx_dt dd_X7_wants 20 rfl) (by decide) rfl rfl (Nat.le_of_ble_eq_true rfl) rfl ?_
        exact sw_iret O (xx_dt dd_X7_wants 21 rfl) rfl rfl (by rw [hQ]; exact ⟨by unfold o_wants; simp only [if_pos q1, if_pos q2, if_neg q3]; rfl, rfl⟩)
    · exact sw_callVt (as := [.int y]) (st := []) (k := 0) (n := 0) (k' := 1) (n' := 6) O (ct_X7_needRegion_no hl (σ := σ) (R := R) hR (by omega) q2) ce_X7_needRegion ml_X7_87 iv_X7_needRegion cl_X7 rfl (ly_1000 σ h) (xx_dt dd_X7_wants 5 rfl) (by decide) rfl rfl (Nat.le_of_ble_eq_true rfl)  (by rw [hQ]; exact ⟨by unfold o_wants; simp only [if_pos q1, if_neg q2]; rfl, rfl⟩)
  · exact sw_callVt (as := [.int x]) (st := []) (k := 0) (n := 0) (k' := 1) (n' := 6) O (ct_X7_needBidder_no hl (σ := σ) (B := B) hB (by omega) q1) ce_X7_needBidder ml_X7_124 iv_X7_needBidder cl_X7 rfl (ly_1000 σ h) (xx_dt dd_X7_wants 2 rfl) (by decide) rfl rfl (Nat.le_of_ble_eq_true rfl)  (by rw [hQ]; exact ⟨by unfold o_wants; simp only [if_neg q1]; rfl, rfl⟩)
def o_priceIn (σ : XS9) (x y : Int32) (R K : Nat) : Int32 ⊕ String := (if n_rd x K then (if n_lt y R then .inl (σ (2000 + 101 + rn x) (cn y)) else .inr eIOB) else .inr eIOB)
theorem ct_X7_priceIn {l : Launch} {h : XH} (hl : l.stackTraces = false) {σ : XS9} {R : Nat} (hR : σ 1001 4 = nI R) (hR5 : R ≤ 5) {K : Nat} (hK : σ 2000 9 = nI K) (hK60 : K ≤ 60) {x y : Int32} : XEo l m_X7_priceIn 7 1 6 [.ref 1000, .int x, .int y] (setC σ h) ((xoi (o_priceIn σ x y R K))) (setC σ h) := by
  refine XMet.of hl rfl rfl (Nat.le_of_ble_eq_true rfl) (fun Y O hh hQ => ?_)
  show SW Y 1 6 (setC σ h) 0 [.ref 1000, .int x, .int y] []
  refine sw_aload_n O (xx_dt dd_X7_priceIn 0 rfl) rfl ?_
  refine sw_iload_n O (xx_dt dd_X7_priceIn 1 rfl) rfl ?_
  by_cases q1 : n_rd x K
  · refine sw_callVx (as := [.int x]) (st := []) (st2 := []) (k' := 0) (n' := 0) O (ct_X7_needRound_ok hl (σ := σ) (K := K) hK (by omega) q1) ce_X7_needRound ml_X7_255 iv_X7_needRound cl_X7 rfl (ly_1000 σ h) (xx_dt dd_X7_priceIn 2 rfl) (by decide) rfl rfl (Nat.le_of_ble_eq_true rfl) rfl ?_
    refine sw_lsE (ls2 := [.ref 1000, .int (nI (rn x + 1)), .int y]) (by rw [← q1.1]) ?_
    have hvq1 := q1.2
    refine sw_aload_n O (xx_dt dd_X7_priceIn 3 rfl) rfl ?_
    refine sw_iload_n O (xx_dt dd_X7_priceIn 4 rfl) rfl ?_
    by_cases q2 : n_lt y R
    · refine sw_callVx (as := [.int y]) (st := []) (st2 := []) (k' := 0) (n' := 0) O (ct_X7_needRegion_ok hl (σ := σ) (R := R) hR (by omega) q2) ce_X7_needRegion ml_X7_87 iv_X7_needRegion cl_X7 rfl (ly_1000 σ h) (xx_dt dd_X7_priceIn 5 rfl) (by decide) rfl rfl (Nat.le_of_ble_eq_true rfl) rfl ?_
      refine sw_lsE (ls2 := [.ref 1000, .int (nI (rn x + 1)), .int (nI (cn y))]) (by rw [← q2.1]) ?_
      have hvq2 := q2.2
      refine sw_aload_n O (xx_dt dd_X7_priceIn 6 rfl) rfl ?_
      refine sw_get (v := .ref 2000) O (xx_dt dd_X7_priceIn 7 rfl) cl_X7 fl_X7_19 (ly_1000 σ h) (by decide) rfl ?_
      refine sw_get (v := .ref (2000 + 100)) O (xx_dt dd_X7_priceIn 8 rfl) cl_X1 fl_X7_258 (lk_0 σ h (.inl rfl)) (by decide) rfl ?_
      refine sw_iload_n O (xx_dt dd_X7_priceIn 9 rfl) rfl ?_
      refine sw_iconst (x := 1) O (xx_dt dd_X7_priceIn 10 rfl) (by decide) ?_
      refine sw_isub O (xx_dt dd_X7_priceIn 11 rfl) ?_
      rw [nI_s1 (rn x)]
      refine sw_aaload (v := .ref (2000 + 101 + rn x)) O (xx_dt dd_X7_priceIn 12 rfl) (by omega) (by omega) (lk_100 σ h (.inl rfl)) (pk_in (rn x) _ (by omega)) (by rw [nI_clamp (by omega)]; try exact rfl) ?_
      refine sw_iload_n O (xx_dt dd_X7_priceIn 13 rfl) rfl ?_
      refine sw_iaload (v := .int (σ (2000 + 101 + rn x) (cn y))) O (xx_dt dd_X7_priceIn 14 rfl) (lkr_100 σ h (.inl rfl) (k := rn x) (by omega)) (pk_in (cn y) _ (by omega)) (by rw [nI_clamp (by omega)]; try exact rfl) ?_
      exact sw_iret O (xx_dt dd_X7_priceIn 15 rfl) rfl rfl (by rw [hQ]; exact ⟨by unfold o_priceIn; simp only [if_pos q1, if_pos q2]; rfl, rfl⟩)
    · exact sw_callVt (as := [.int y]) (st := []) (k := 0) (n := 0) (k' := 1) (n' := 6) O (ct_X7_needRegion_no hl (σ := σ) (R := R) hR (by omega) q2) ce_X7_needRegion ml_X7_87 iv_X7_needRegion cl_X7 rfl (ly_1000 σ h) (xx_dt dd_X7_priceIn 5 rfl) (by decide) rfl rfl (Nat.le_of_ble_eq_true rfl)  (by rw [hQ]; exact ⟨by unfold o_priceIn; simp only [if_pos q1, if_neg q2]; rfl, rfl⟩)
  · exact sw_callVt (as := [.int x]) (st := []) (k := 0) (n := 0) (k' := 1) (n' := 6) O (ct_X7_needRound_no hl (σ := σ) (K := K) hK (by omega) q1) ce_X7_needRound ml_X7_255 iv_X7_needRound cl_X7 rfl (ly_1000 σ h) (xx_dt dd_X7_priceIn 2 rfl) (by decide) rfl rfl (Nat.le_of_ble_eq_true rfl)  (by rw [hQ]; exact ⟨by unfold o_priceIn; simp only [if_neg q1]; rfl, rfl⟩)
def o_codeIn (σ : XS9) (x y z : Int32) (B K : Nat) : Int32 ⊕ String := (if n_rd x K then (if n_lt y B then (if z = 0 then .inl (σ (2000 + 201 + rn x) (cn y)) else .inl (σ (2000 + 301 + rn x) (cn y))) else .inr eIOB) else .inr eIOB)
theorem ct_X7_codeIn {l : Launch} {h : XH} (hl : l.stackTraces = false) {σ : XS9} {B : Nat} (hB : σ 1001 9 = nI B) (hB6 : B ≤ 6) {K : Nat} (hK : σ 2000 9 = nI K) (hK60 : K ≤ 60) {x y z : Int32} : XEo l m_X7_codeIn 7 1 6 [.ref 1000, .int x, .int y, .int z] (setC σ h) ((xoi (o_codeIn σ x y z B K))) (setC σ h) := by
  refine XMet.of hl rfl rfl (Nat.le_of_ble_eq_true rfl) (fun Y O hh hQ => ?_)
  show SW Y 1 6 (setC σ h) 0 [.ref 1000, .int x, .int y, .int z] []
  refine sw_aload_n O (xx_dt dd_X7_codeIn 0 rfl) rfl ?_
  refine sw_iload_n O (xx_dt dd_X7_codeIn 1 rfl) rfl ?_
  by_cases q1 : n_rd x K
  · refine sw_callVx (as := [.int x]) (st := []) (st2 := []) (k' := 0) (n' := 0) O (ct_X7_needRound_ok hl (σ := σ) (K := K) hK (by omega) q1) ce_X7_needRound ml_X7_255 iv_X7_needRound cl_X7 rfl (ly_1000 σ h) (xx_dt dd_X7_codeIn 2 rfl) (by decide) rfl rfl (Nat.le_of_ble_eq_true rfl) rfl ?_
    refine sw_lsE (ls2 := [.ref 1000, .int (nI (rn x + 1)), .int y, .int z]) (by rw [← q1.1]) ?_
    have hvq1 := q1.2
    refine sw_aload_n O (xx_dt dd_X7_codeIn 3 rfl) rfl ?_
    refine sw_iload_n O (xx_dt dd_X7_codeIn 4 rfl) rfl ?_
    by_cases q2 : n_lt y B
    · refine sw_callVx (as := [.int y]) (st := []) (st2 := []) (k' := 0) (n' := 0) O (ct_X7_needBidder_ok hl (σ := σ) (B := B) hB (by omega) q2) ce_X7_needBidder ml_X7_124 iv_X7_needBidder cl_X7 rfl (ly_1000 σ h) (xx_dt dd_X7_codeIn 5 rfl) (by decide) rfl rfl (Nat.le_of_ble_eq_true rfl) rfl ?_
      refine sw_lsE (ls2 := [.ref 1000, .int (nI (rn x + 1)), .int (nI (cn y)), .int z]) (by rw [← q2.1]) ?_
      have hvq2 := q2.2
      refine sw_iload_n O (xx_dt dd_X7_codeIn 6 rfl) rfl ?_
      refine sw_if_eq (tgt := 30) O (xx_dt dd_X7_codeIn 7 rfl) (by decide) (fun q3 => ?_) (fun q3 => ?_)
      · refine sw_aload_n O (xx_dt dd_X7_codeIn 18 rfl) rfl ?_
        refine sw_get (v := .ref 2000) O (xx_dt dd_X7_codeIn 19 rfl) cl_X7 fl_X7_19 (ly_1000 σ h) (by decide) rfl ?_
        refine sw_get (v := .ref (2000 + 200)) O (xx_dt dd_X7_codeIn 20 rfl) cl_X1 fl_X7_265 (lk_0 σ h (.inl rfl)) (by decide) rfl ?_
        refine sw_iload_n O (xx_dt dd_X7_codeIn 21 rfl) rfl ?_
        refine sw_iconst (x := 1) O (xx_dt dd_X7_codeIn 22 rfl) (by decide) ?_
        refine sw_isub O (xx_dt dd_X7_codeIn 23 rfl) ?_
        rw [nI_s1 (rn x)]
        refine sw_aaload (v := .ref (2000 + 201 + rn x)) O (xx_dt dd_X7_codeIn 24 rfl) (by omega) (by omega) (lk_200 σ h (.inl rfl)) (pk_in (rn x) _ (by omega)) (by rw [nI_clamp (by omega)]; try exact rfl) ?_
        refine sw_iload_n O (xx_dt dd_X7_codeIn 25 rfl) rfl ?_
        refine sw_iaload (v := .int (σ (2000 + 201 + rn x) (cn y))) O (xx_dt dd_X7_codeIn 26 rfl) (lkr_200 σ h (.inl rfl) (k := rn x) (by omega)) (pk_in (cn y) _ (by omega)) (by rw [nI_clamp (by omega)]; try exact rfl) ?_
        exact sw_iret O (xx_dt dd_X7_codeIn 27 rfl) rfl rfl (by rw [hQ]; exact ⟨by unfold o_codeIn; simp only [if_pos q1, if_pos q2, if_pos q3]; rfl, rfl⟩)
      · refine sw_aload_n O (xx_dt dd_X7_codeIn 8 rfl) rfl ?_
        refine sw_get (v := .ref 2000) O (xx_dt dd_X7_codeIn 9 rfl) cl_X7 fl_X7_19 (ly_1000 σ h) (by decide) rfl ?_
        refine sw_get (v := .ref (2000 + 300)) O (xx_dt dd_X7_codeIn 10 rfl) cl_X1 fl_X7_262 (lk_0 σ h (.inl rfl)) (by decide) rfl ?_
        refine sw_iload_n O (xx_dt dd_X7_codeIn 11 rfl) rfl ?_
        refine sw_iconst (x := 1) O (xx_dt dd_X7_codeIn 12 rfl) (by decide) ?_
        refine sw_isub O (xx_dt dd_X7_codeIn 13 rfl) ?_
        rw [nI_s1 (rn x)]
        refine sw_aaload (v := .ref (2000 + 301 + rn x)) O (xx_dt dd_X7_codeIn 14 rfl) (by omega) (by omega) (lk_300 σ h (.inl rfl)) (pk_in (rn x) _ (by omega)) (by rw [nI_clamp (by omega)]; try exact rfl) ?_
        refine sw_iload_n O (xx_dt dd_X7_codeIn 15 rfl) rfl ?_
        refine sw_iaload (v := .int (σ (2000 + 301 + rn x) (cn y))) O (xx_dt dd_X7_codeIn 16 rfl) (lkr_300 σ h (.inl rfl) (k := rn x) (by omega)) (pk_in (cn y) _ (by omega)) (by rw [nI_clamp (by omega)]; try exact rfl) ?_
        refine sw_goto (tgt := 43) O (xx_dt dd_X7_codeIn 17 rfl) (by decide) ?_
        exact sw_iret O (xx_dt dd_X7_codeIn 27 rfl) rfl rfl (by rw [hQ]; exact ⟨by unfold o_codeIn; simp only [if_pos q1, if_pos q2, if_neg q3]; rfl, rfl⟩)
    · exact sw_callVt (as := [.int y]) (st := []) (k := 0) (n := 0) (k' := 1) (n' := 6) O (ct_X7_needBidder_no hl (σ := σ) (B := B) hB (by omega) q2) ce_X7_needBidder ml_X7_124 iv_X7_needBidder cl_X7 rfl (ly_1000 σ h) (xx_dt dd_X7_codeIn 5 rfl) (by decide) rfl rfl (Nat.le_of_ble_eq_true rfl)  (by rw [hQ]; exact ⟨by unfold o_codeIn; simp only [if_pos q1, if_neg q2]; rfl, rfl⟩)
  · exact sw_callVt (as := [.int x]) (st := []) (k := 0) (n := 0) (k' := 1) (n' := 6) O (ct_X7_needRound_no hl (σ := σ) (K := K) hK (by omega) q1) ce_X7_needRound ml_X7_255 iv_X7_needRound cl_X7 rfl (ly_1000 σ h) (xx_dt dd_X7_codeIn 2 rfl) (by decide) rfl rfl (Nat.le_of_ble_eq_true rfl)  (by rw [hQ]; exact ⟨by unfold o_codeIn; simp only [if_neg q1]; rfl, rfl⟩)
def o_ofPackage (σ : XS9) (x y z : Int32) (B : Nat) (cnt : Nat → Nat) : Int32 ⊕ String := (if n_lt x B then (if y < 0 then .inr eIOB else (if y < (nI (cnt (cn x))) then (if z = 0 then .inl (σ (1022 + cn x) (cn y)) else .inl (σ (1031 + cn x) (cn y))) else .inr eIOB)) else .inr eIOB)
theorem ct_X7_ofPackage {l : Launch} {h : XH} (hl : l.stackTraces = false) {σ : XS9} {B : Nat} (hB : σ 1001 9 = nI B) (hB6 : B ≤ 6) {cnt : Nat → Nat} (hct : ∀ i, i < 6 → σ 1020 i = nI (cnt i) ∧ cnt i ≤ 6) {x y z : Int32} : XEo l m_X7_ofPackage 7 1 6 [.ref 1000, .int x, .int y, .int z] (setC σ h) ((xoi (o_ofPackage σ x y z B cnt))) (setC σ h) := by
  refine XMet.of hl rfl rfl (Nat.le_of_ble_eq_true rfl) (fun Y O hh hQ => ?_)
  show SW Y 1 6 (setC σ h) 0 [.ref 1000, .int x, .int y, .int z] []
  refine sw_aload_n O (xx_dt dd_X7_ofPackage 0 rfl) rfl ?_
  refine sw_iload_n O (xx_dt dd_X7_ofPackage 1 rfl) rfl ?_
  by_cases q1 : n_lt x B
  · refine sw_callVx (as := [.int x]) (st := []) (st2 := []) (k' := 0) (n' := 0) O (ct_X7_needBidder_ok hl (σ := σ) (B := B) hB (by omega) q1) ce_X7_needBidder ml_X7_124 iv_X7_needBidder cl_X7 rfl (ly_1000 σ h) (xx_dt dd_X7_ofPackage 2 rfl) (by decide) rfl rfl (Nat.le_of_ble_eq_true rfl) rfl ?_
    refine sw_lsE (ls2 := [.ref 1000, .int (nI (cn x)), .int y, .int z]) (by rw [← q1.1]) ?_
    have hvq1 := q1.2
    refine sw_iload_n O (xx_dt dd_X7_ofPackage 3 rfl) rfl ?_
    refine sw_if_lt (tgt := 22) O (xx_dt dd_X7_ofPackage 4 rfl) (by decide) (fun q2 => ?_) (fun q2 => ?_)
    · exact sw_throwW (k := 0) (n := 0) O ex_IOB th_X7_ofPackage_22 (xx_dt dd_X7_ofPackage 12 rfl) (xx_dt dd_X7_ofPackage 13 rfl) (xx_dt dd_X7_ofPackage 14 rfl) (xx_dt dd_X7_ofPackage 15 rfl) (xx_dt dd_X7_ofPackage 16 rfl) (by decide) (by decide) (by rw [hQ]; exact ⟨by unfold o_ofPackage; simp only [if_pos q1, if_pos q2]; rfl, rfl⟩)
    · refine sw_iload_n O (xx_dt dd_X7_ofPackage 5 rfl) rfl ?_
      refine sw_aload_n O (xx_dt dd_X7_ofPackage 6 rfl) rfl ?_
      refine sw_get (v := .ref 1003) O (xx_dt dd_X7_ofPackage 7 rfl) cl_X7 fl_X7_29 (ly_1000 σ h) (by decide) rfl ?_
      refine sw_get (v := .ref 1020) O (xx_dt dd_X7_ofPackage 8 rfl) cl_X2 fl_X7_173 (ly_1003 σ h) (by decide) rfl ?_
      refine sw_iload_n O (xx_dt dd_X7_ofPackage 9 rfl) rfl ?_
      have hz18 := (hct (cn x) (by omega)).2
      refine sw_iaload (v := .int (nI (cnt (cn x)))) O (xx_dt dd_X7_ofPackage 10 rfl) (ly_1020 σ h) (pk_in (cn x) _ (by omega)) (by rw [nI_clamp (by omega)]; exact (congrArg Value.int (hct (cn x) (by omega)).1)) ?_
      refine sw_icmp_lt (tgt := 33) O (xx_dt dd_X7_ofPackage 11 rfl) (by decide) (fun q3 => ?_) (fun q3 => ?_)
      · have hc19 := (n_lt_iff (x := y) (R := cnt (cn x)) (by omega)).mpr ⟨q2, q3⟩
        refine sw_lsE (ls2 := [.ref 1000, .int (nI (cn x)), .int (nI (cn y)), .int z]) (by rw [← hc19.1]) ?_
        have hd19 := hc19.2
        refine sw_iload_n O (xx_dt dd_X7_ofPackage 17 rfl) rfl ?_
        refine sw_if_eq (tgt := 51) O (xx_dt dd_X7_ofPackage 18 rfl) (by decide) (fun q4 => ?_) (fun q4 => ?_)
        · refine sw_aload_n O (xx_dt dd_X7_ofPackage 27 rfl) rfl ?_
          refine sw_get (v := .ref 1003) O (xx_dt dd_X7_ofPackage 28 rfl) cl_X7 fl_X7_29 (ly_1000 σ h) (by decide) rfl ?_
          refine sw_get (v := .ref 1021) O (xx_dt dd_X7_ofPackage 29 rfl) cl_X2 fl_X7_276 (ly_1003 σ h) (by decide) rfl ?_
          refine sw_iload_n O (xx_dt dd_X7_ofPackage 30 rfl) rfl ?_
          refine sw_aaload (v := .ref (1022 + cn x)) O (xx_dt dd_X7_ofPackage 31 rfl) (by omega) (by omega) (ly_1021 σ h) (pk_in (cn x) _ (by omega)) (by rw [nI_clamp (by omega)]; try exact rfl) ?_
          refine sw_iload_n O (xx_dt dd_X7_ofPackage 32 rfl) rfl ?_
          refine sw_iaload (v := .int (σ (1022 + cn x) (cn y))) O (xx_dt dd_X7_ofPackage 33 rfl) (lr_1021 σ h (k := cn x) (by omega)) (pk_in (cn y) _ (by omega)) (by rw [nI_clamp (by omega)]; try exact rfl) ?_
          exact sw_iret O (xx_dt dd_X7_ofPackage 34 rfl) rfl rfl (by rw [hQ]; exact ⟨by unfold o_ofPackage; simp only [if_pos q1, if_neg q2, if_pos q3, if_pos q4]; rfl, rfl⟩)
        · refine sw_aload_n O (xx_dt dd_X7_ofPackage 19 rfl) rfl ?_
          refine sw_get (v := .ref 1003) O (xx_dt dd_X7_ofPackage 20 rfl) cl_X7 fl_X7_29 (ly_1000 σ h) (by decide) rfl ?_
          refine sw_get (v := .ref 1030) O (xx_dt dd_X7_ofPackage 21 rfl) cl_X2 fl_X7_273 (ly_1003 σ h) (by decide) rfl ?_
          refine sw_iload_n O (xx_dt dd_X7_ofPackage 22 rfl) rfl ?_
          refine sw_aaload (v := .ref (1031 + cn x)) O (xx_dt dd_X7_ofPackage 23 rfl) (by omega) (by omega) (ly_1030 σ h) (pk_in (cn x) _ (by omega)) (by rw [nI_clamp (by omega)]; try exact rfl) ?_
          refine sw_iload_n O (xx_dt dd_X7_ofPackage 24 rfl) rfl ?_
          refine sw_iaload (v := .int (σ (1031 + cn x) (cn y))) O (xx_dt dd_X7_ofPackage 25 rfl) (lr_1030 σ h (k := cn x) (by omega)) (pk_in (cn y) _ (by omega)) (by rw [nI_clamp (by omega)]; try exact rfl) ?_
          refine sw_goto (tgt := 62) O (xx_dt dd_X7_ofPackage 26 rfl) (by decide) ?_
          exact sw_iret O (xx_dt dd_X7_ofPackage 34 rfl) rfl rfl (by rw [hQ]; exact ⟨by unfold o_ofPackage; simp only [if_pos q1, if_neg q2, if_pos q3, if_neg q4]; rfl, rfl⟩)
      · exact sw_throwW (k := 0) (n := 0) O ex_IOB th_X7_ofPackage_22 (xx_dt dd_X7_ofPackage 12 rfl) (xx_dt dd_X7_ofPackage 13 rfl) (xx_dt dd_X7_ofPackage 14 rfl) (xx_dt dd_X7_ofPackage 15 rfl) (xx_dt dd_X7_ofPackage 16 rfl) (by decide) (by decide) (by rw [hQ]; exact ⟨by unfold o_ofPackage; simp only [if_pos q1, if_neg q2, if_neg q3]; rfl, rfl⟩)
  · exact sw_callVt (as := [.int x]) (st := []) (k := 0) (n := 0) (k' := 1) (n' := 6) O (ct_X7_needBidder_no hl (σ := σ) (B := B) hB (by omega) q1) ce_X7_needBidder ml_X7_124 iv_X7_needBidder cl_X7 rfl (ly_1000 σ h) (xx_dt dd_X7_ofPackage 2 rfl) (by decide) rfl rfl (Nat.le_of_ble_eq_true rfl)  (by rw [hQ]; exact ⟨by unfold o_ofPackage; simp only [if_neg q1]; rfl, rfl⟩)
def o_wins (σ : XS9) (x : Int32) (B : Nat) : Int32 ⊕ String := (if n_lt x B then .inl (σ 1040 (cn x)) else .inr eIOB)
theorem ct_X7_wins {l : Launch} {h : XH} (hl : l.stackTraces = false) {σ : XS9} {B : Nat} (hB : σ 1001 9 = nI B) (hB6 : B ≤ 6) {x : Int32} : XEo l m_X7_wins 7 1 6 [.ref 1000, .int x] (setC σ h) ((xoi (o_wins σ x B))) (setC σ h) := by
  refine XMet.of hl rfl rfl (Nat.le_of_ble_eq_true rfl) (fun Y O hh hQ => ?_)
  show SW Y 1 6 (setC σ h) 0 [.ref 1000, .int x] []
  refine sw_aload_n O (xx_dt dd_X7_wins 0 rfl) rfl ?_
  refine sw_iload_n O (xx_dt dd_X7_wins 1 rfl) rfl ?_
  by_cases q1 : n_lt x B
  · refine sw_callVx (as := [.int x]) (st := []) (st2 := []) (k' := 0) (n' := 0) O (ct_X7_needBidder_ok hl (σ := σ) (B := B) hB (by omega) q1) ce_X7_needBidder ml_X7_124 iv_X7_needBidder cl_X7 rfl (ly_1000 σ h) (xx_dt dd_X7_wins 2 rfl) (by decide) rfl rfl (Nat.le_of_ble_eq_true rfl) rfl ?_
    refine sw_lsE (ls2 := [.ref 1000, .int (nI (cn x))]) (by rw [← q1.1]) ?_
    have hvq1 := q1.2
    refine sw_aload_n O (xx_dt dd_X7_wins 3 rfl) rfl ?_
    refine sw_get (v := .ref 1003) O (xx_dt dd_X7_wins 4 rfl) cl_X7 fl_X7_29 (ly_1000 σ h) (by decide) rfl ?_
    refine sw_get (v := .ref 1040) O (xx_dt dd_X7_wins 5 rfl) cl_X2 fl_X7_200 (ly_1003 σ h) (by decide) rfl ?_
    refine sw_iload_n O (xx_dt dd_X7_wins 6 rfl) rfl ?_
    refine sw_iaload (v := .int (σ 1040 (cn x))) O (xx_dt dd_X7_wins 7 rfl) (ly_1040 σ h) (pk_in (cn x) _ (by omega)) (by rw [nI_clamp (by omega)]; try exact rfl) ?_
    exact sw_iret O (xx_dt dd_X7_wins 8 rfl) rfl rfl (by rw [hQ]; exact ⟨by unfold o_wins; simp only [if_pos q1]; rfl, rfl⟩)
  · exact sw_callVt (as := [.int x]) (st := []) (k := 0) (n := 0) (k' := 1) (n' := 6) O (ct_X7_needBidder_no hl (σ := σ) (B := B) hB (by omega) q1) ce_X7_needBidder ml_X7_124 iv_X7_needBidder cl_X7 rfl (ly_1000 σ h) (xx_dt dd_X7_wins 2 rfl) (by decide) rfl rfl (Nat.le_of_ble_eq_true rfl)  (by rw [hQ]; exact ⟨by unfold o_wins; simp only [if_neg q1]; rfl, rfl⟩)
def o_pays (σ : XS9) (x y : Int32) (B w : Nat) : Int32 ⊕ String := (if n_lt x B then (if y = 0 then .inl (f_paymentOf σ (cn x) w) else .inl (f_dueOf σ (cn x) w)) else .inr eIOB)
theorem ct_X7_pays {l : Launch} {h : XH} (hl : l.stackTraces = false) {σ : XS9} {B : Nat} (hB : σ 1001 9 = nI B) (hB6 : B ≤ 6) {w : Nat} (hw : σ 1000 9 = nI w) (hw3 : w < 3) {x y : Int32} : XEo l m_X7_pays 7 1 6 [.ref 1000, .int x, .int y] (setC σ h) ((xoi (o_pays σ x y B w))) (setC σ h) := by
  refine XMet.of hl rfl rfl (Nat.le_of_ble_eq_true rfl) (fun Y O hh hQ => ?_)
  show SW Y 1 6 (setC σ h) 0 [.ref 1000, .int x, .int y] []
  refine sw_aload_n O (xx_dt dd_X7_pays 0 rfl) rfl ?_
  refine sw_iload_n O (xx_dt dd_X7_pays 1 rfl) rfl ?_
  by_cases q1 : n_lt x B
  · refine sw_callVx (as := [.int x]) (st := []) (st2 := []) (k' := 0) (n' := 0) O (ct_X7_needBidder_ok hl (σ := σ) (B := B) hB (by omega) q1) ce_X7_needBidder ml_X7_124 iv_X7_needBidder cl_X7 rfl (ly_1000 σ h) (xx_dt dd_X7_pays 2 rfl) (by decide) rfl rfl (Nat.le_of_ble_eq_true rfl) rfl ?_
    refine sw_lsE (ls2 := [.ref 1000, .int (nI (cn x)), .int y]) (by rw [← q1.1]) ?_
    have hvq1 := q1.2
    refine sw_iload_n O (xx_dt dd_X7_pays 3 rfl) rfl ?_
    refine sw_if_eq (tgt := 17) O (xx_dt dd_X7_pays 4 rfl) (by decide) (fun q2 => ?_) (fun q2 => ?_)
    · refine sw_aload_n O (xx_dt dd_X7_pays 9 rfl) rfl ?_
      refine sw_iload_n O (xx_dt dd_X7_pays 10 rfl) rfl ?_
      refine sw_callVx (as := [.int (nI (cn x))]) (st := []) (st2 := [.int (f_paymentOf σ (cn x) w)]) O (ct_X7_paymentOf hl (σ := σ) (w := w) hw (by omega) (i := cn x) (by omega)) ce_X7_paymentOf ml_X7_282 iv_X7_paymentOf cl_X7 rfl (ly_1000 σ h) (xx_dt dd_X7_pays 11 rfl) (by decide) rfl rfl (Nat.le_of_ble_eq_true rfl) rfl ?_
      exact sw_iret O (xx_dt dd_X7_pays 12 rfl) rfl rfl (by rw [hQ]; exact ⟨by unfold o_pays; simp only [if_pos q1, if_pos q2]; rfl, rfl⟩)
    · refine sw_aload_n O (xx_dt dd_X7_pays 5 rfl) rfl ?_
      refine sw_iload_n O (xx_dt dd_X7_pays 6 rfl) rfl ?_
      refine sw_callVx (as := [.int (nI (cn x))]) (st := []) (st2 := [.int (f_dueOf σ (cn x) w)]) O (ct_X7_dueOf hl (σ := σ) (w := w) hw (by omega) (i := cn x) (by omega)) ce_X7_dueOf ml_X7_279 iv_X7_dueOf cl_X7 rfl (ly_1000 σ h) (xx_dt dd_X7_pays 7 rfl) (by decide) rfl rfl (Nat.le_of_ble_eq_true rfl) rfl ?_
      refine sw_goto (tgt := 22) O (xx_dt dd_X7_pays 8 rfl) (by decide) ?_
      exact sw_iret O (xx_dt dd_X7_pays 12 rfl) rfl rfl (by rw [hQ]; exact ⟨by unfold o_pays; simp only [if_pos q1, if_neg q2]; rfl, rfl⟩)
  · exact sw_callVt (as := [.int x]) (st := []) (k := 0) (n := 0) (k' := 1) (n' := 6) O (ct_X7_needBidder_no hl (σ := σ) (B := B) hB (by omega) q1) ce_X7_needBidder ml_X7_124 iv_X7_needBidder cl_X7 rfl (ly_1000 σ h) (xx_dt dd_X7_pays 2 rfl) (by decide) rfl rfl (Nat.le_of_ble_eq_true rfl)  (by rw [hQ]; exact ⟨by unfold o_pays; simp only [if_neg q1]; rfl, rfl⟩)
def o_holder (σ : XS9) (x y : Int32) (R : Nat) (sp : Nat → Nat) : Int32 ⊕ String := (if n_lt x R then (if y < 0 then .inr eIOB else (if y < (nI (sp (cn x))) then .inl (σ (1141 + cn x) (cn y)) else .inr eIOB)) else .inr eIOB)
theorem ct_X7_holder {l : Launch} {h : XH} (hl : l.stackTraces = false) {σ : XS9} {R : Nat} (hR : σ 1001 4 = nI R) (hR5 : R ≤ 5) {sp : Nat → Nat} (hsp : ∀ r, r < 5 → σ 1010 r = nI (sp r) ∧ sp r ≤ 5) {x y : Int32} : XEo l m_X7_holder 7 1 6 [.ref 1000, .int x, .int y] (setC σ h) ((xoi (o_holder σ x y R sp))) (setC σ h) := by
  refine XMet.of hl rfl rfl (Nat.le_of_ble_eq_true rfl) (fun Y O hh hQ => ?_)
  show SW Y 1 6 (setC σ h) 0 [.ref 1000, .int x, .int y] []
  refine sw_aload_n O (xx_dt dd_X7_holder 0 rfl) rfl ?_
  refine sw_iload_n O (xx_dt dd_X7_holder 1 rfl) rfl ?_
  by_cases q1 : n_lt x R
  · refine sw_callVx (as := [.int x]) (st := []) (st2 := []) (k' := 0) (n' := 0) O (ct_X7_needRegion_ok hl (σ := σ) (R := R) hR (by omega) q1) ce_X7_needRegion ml_X7_87 iv_X7_needRegion cl_X7 rfl (ly_1000 σ h) (xx_dt dd_X7_holder 2 rfl) (by decide) rfl rfl (Nat.le_of_ble_eq_true rfl) rfl ?_
    refine sw_lsE (ls2 := [.ref 1000, .int (nI (cn x)), .int y]) (by rw [← q1.1]) ?_
    have hvq1 := q1.2
    refine sw_iload_n O (xx_dt dd_X7_holder 3 rfl) rfl ?_
    refine sw_if_lt (tgt := 22) O (xx_dt dd_X7_holder 4 rfl) (by decide) (fun q2 => ?_) (fun q2 => ?_)
    · exact sw_throwW (k := 0) (n := 0) O ex_IOB th_X7_holder_22 (xx_dt dd_X7_holder 12 rfl) (xx_dt dd_X7_holder 13 rfl) (xx_dt dd_X7_holder 14 rfl) (xx_dt dd_X7_holder 15 rfl) (xx_dt dd_X7_holder 16 rfl) (by decide) (by decide) (by rw [hQ]; exact ⟨by unfold o_holder; simp only [if_pos q1, if_pos q2]; rfl, rfl⟩)
    · refine sw_iload_n O (xx_dt dd_X7_holder 5 rfl) rfl ?_
      refine sw_aload_n O (xx_dt dd_X7_holder 6 rfl) rfl ?_
      refine sw_get (v := .ref 1001) O (xx_dt dd_X7_holder 7 rfl) cl_X7 fl_X7_12 (ly_1000 σ h) (by decide) rfl ?_
      refine sw_get (v := .ref 1010) O (xx_dt dd_X7_holder 8 rfl) cl_X6 fl_X7_285 (ly_1001 σ h) (by decide) rfl ?_
      refine sw_iload_n O (xx_dt dd_X7_holder 9 rfl) rfl ?_
      have hz18 := (hsp (cn x) (by omega)).2
      refine sw_iaload (v := .int (nI (sp (cn x)))) O (xx_dt dd_X7_holder 10 rfl) (ly_1010 σ h) (pk_in (cn x) _ (by omega)) (by rw [nI_clamp (by omega)]; exact (congrArg Value.int (hsp (cn x) (by omega)).1)) ?_
      refine sw_icmp_lt (tgt := 33) O (xx_dt dd_X7_holder 11 rfl) (by decide) (fun q3 => ?_) (fun q3 => ?_)
      · have hc19 := (n_lt_iff (x := y) (R := sp (cn x)) (by omega)).mpr ⟨q2, q3⟩
        refine sw_lsE (ls2 := [.ref 1000, .int (nI (cn x)), .int (nI (cn y))]) (by rw [← hc19.1]) ?_
        have hd19 := hc19.2
        refine sw_aload_n O (xx_dt dd_X7_holder 17 rfl) rfl ?_
        refine sw_get (v := .ref 1005) O (xx_dt dd_X7_holder 18 rfl) cl_X7 fl_X7_43 (ly_1000 σ h) (by decide) rfl ?_
        refine sw_get (v := .ref 1140) O (xx_dt dd_X7_holder 19 rfl) cl_X3 fl_X7_290 (ly_1005 σ h) (by decide) rfl ?_
        refine sw_iload_n O (xx_dt dd_X7_holder 20 rfl) rfl ?_
        refine sw_aaload (v := .ref (1141 + cn x)) O (xx_dt dd_X7_holder 21 rfl) (by omega) (by omega) (ly_1140 σ h) (pk_in (cn x) _ (by omega)) (by rw [nI_clamp (by omega)]; try exact rfl) ?_
        refine sw_iload_n O (xx_dt dd_X7_holder 22 rfl) rfl ?_
        refine sw_iaload (v := .int (σ (1141 + cn x) (cn y))) O (xx_dt dd_X7_holder 23 rfl) (lr_1140 σ h (k := cn x) (by omega)) (pk_in (cn y) _ (by omega)) (by rw [nI_clamp (by omega)]; try exact rfl) ?_
        exact sw_iret O (xx_dt dd_X7_holder 24 rfl) rfl rfl (by rw [hQ]; exact ⟨by unfold o_holder; simp only [if_pos q1, if_neg q2, if_pos q3]; rfl, rfl⟩)
      · exact sw_throwW (k := 0) (n := 0) O ex_IOB th_X7_holder_22 (xx_dt dd_X7_holder 12 rfl) (xx_dt dd_X7_holder 13 rfl) (xx_dt dd_X7_holder 14 rfl) (xx_dt dd_X7_holder 15 rfl) (xx_dt dd_X7_holder 16 rfl) (by decide) (by decide) (by rw [hQ]; exact ⟨by unfold o_holder; simp only [if_pos q1, if_neg q2, if_neg q3]; rfl, rfl⟩)
  · exact sw_callVt (as := [.int x]) (st := []) (k := 0) (n := 0) (k' := 1) (n' := 6) O (ct_X7_needRegion_no hl (σ := σ) (R := R) hR (by omega) q1) ce_X7_needRegion ml_X7_87 iv_X7_needRegion cl_X7 rfl (ly_1000 σ h) (xx_dt dd_X7_holder 2 rfl) (by decide) rfl rfl (Nat.le_of_ble_eq_true rfl)  (by rw [hQ]; exact ⟨by unfold o_holder; simp only [if_neg q1]; rfl, rfl⟩)
def o_worth (σ : XS9) (x : Int32) (B : Nat) : Int32 ⊕ String := (if n_lt x (2 ^ B) then .inl (σ 1041 (cn x)) else .inr eIAE)
theorem ct_X7_worth {l : Launch} {h : XH} (hl : l.stackTraces = false) {σ : XS9} {B : Nat} (hB : σ 1001 9 = nI B) (hB6 : B ≤ 6) {x : Int32} : XEo l m_X7_worth 7 1 6 [.ref 1000, .int x] (setC σ h) ((xoi (o_worth σ x B))) (setC σ h) := by
  refine XMet.of hl rfl rfl (Nat.le_of_ble_eq_true rfl) (fun Y O hh hQ => ?_)
  show SW Y 1 6 (setC σ h) 0 [.ref 1000, .int x] []
  refine sw_iload_n O (xx_dt dd_X7_worth 0 rfl) rfl ?_
  refine sw_aload_n O (xx_dt dd_X7_worth 1 rfl) rfl ?_
  refine sw_get (v := .ref 1001) O (xx_dt dd_X7_worth 2 rfl) cl_X7 fl_X7_12 (ly_1000 σ h) (by decide) rfl ?_
  refine sw_get (v := .int (nI B)) O (xx_dt dd_X7_worth 3 rfl) cl_X6 fl_X7_100 (ly_1001 σ h) (by decide) (congrArg Value.int hB) ?_
  by_cases q1 : n_lt x (2 ^ B)
  · refine sw_callSx (as := [.int x, .int (nI B)]) (st := []) (st2 := []) (k' := 0) (n' := 0) O (ct_X7_needSet_ok hl (C := B) (by omega) q1) ce_X7_needSet ml_X7_228 st_X7_needSet (xx_dt dd_X7_worth 4 rfl) (by decide) rfl rfl (Nat.le_of_ble_eq_true rfl) rfl ?_
    refine sw_lsE (ls2 := [.ref 1000, .int (nI (cn x))]) (by rw [← q1.1]) ?_
    have hvq1 := q1.2
    have hpq1 := Nat.lt_of_lt_of_le q1.2 (pow6 (C := B) (by omega))
    refine sw_aload_n O (xx_dt dd_X7_worth 5 rfl) rfl ?_
    refine sw_get (v := .ref 1003) O (xx_dt dd_X7_worth 6 rfl) cl_X7 fl_X7_29 (ly_1000 σ h) (by decide) rfl ?_
    refine sw_get (v := .ref 1041) O (xx_dt dd_X7_worth 7 rfl) cl_X2 fl_X7_307 (ly_1003 σ h) (by decide) rfl ?_
    refine sw_iload_n O (xx_dt dd_X7_worth 8 rfl) rfl ?_
    refine sw_iaload (v := .int (σ 1041 (cn x))) O (xx_dt dd_X7_worth 9 rfl) (ly_1041 σ h) (pk_in (cn x) _ (by omega)) (by rw [nI_clamp (by omega)]; try exact rfl) ?_
    exact sw_iret O (xx_dt dd_X7_worth 10 rfl) rfl rfl (by rw [hQ]; exact ⟨by unfold o_worth; simp only [if_pos q1]; rfl, rfl⟩)
  · exact sw_callSt (as := [.int x, .int (nI B)]) (st := []) (k := 0) (n := 0) (k' := 1) (n' := 6) O (ct_X7_needSet_no hl (C := B) (by omega) q1) ce_X7_needSet ml_X7_228 st_X7_needSet (xx_dt dd_X7_worth 4 rfl) (by decide) rfl rfl (Nat.le_of_ble_eq_true rfl)  (by rw [hQ]; exact ⟨by unfold o_worth; simp only [if_neg q1]; rfl, rfl⟩)
def o_wouldPay (σ : XS9) (x y : Int32) (B : Nat) : Int32 ⊕ String := (if n_lt x B then (if n_bt y 0 2 then .inl (σ (1131 + cn y) (cn x)) else .inr eIAE) else .inr eIOB)
theorem ct_X7_wouldPay {l : Launch} {h : XH} (hl : l.stackTraces = false) {σ : XS9} {B : Nat} (hB : σ 1001 9 = nI B) (hB6 : B ≤ 6) {x y : Int32} : XEo l m_X7_wouldPay 7 1 6 [.ref 1000, .int x, .int y] (setC σ h) ((xoi (o_wouldPay σ x y B))) (setC σ h) := by
  refine XMet.of hl rfl rfl (Nat.le_of_ble_eq_true rfl) (fun Y O hh hQ => ?_)
  show SW Y 1 6 (setC σ h) 0 [.ref 1000, .int x, .int y] []
  refine sw_aload_n O (xx_dt dd_X7_wouldPay 0 rfl) rfl ?_
  refine sw_iload_n O (xx_dt dd_X7_wouldPay 1 rfl) rfl ?_
  by_cases q1 : n_lt x B
  · refine sw_callVx (as := [.int x]) (st := []) (st2 := []) (k' := 0) (n' := 0) O (ct_X7_needBidder_ok hl (σ := σ) (B := B) hB (by omega) q1) ce_X7_needBidder ml_X7_124 iv_X7_needBidder cl_X7 rfl (ly_1000 σ h) (xx_dt dd_X7_wouldPay 2 rfl) (by decide) rfl rfl (Nat.le_of_ble_eq_true rfl) rfl ?_
    refine sw_lsE (ls2 := [.ref 1000, .int (nI (cn x)), .int y]) (by rw [← q1.1]) ?_
    have hvq1 := q1.2
    refine sw_iload_n O (xx_dt dd_X7_wouldPay 3 rfl) rfl ?_
    refine sw_iconst (x := 0) O (xx_dt dd_X7_wouldPay 4 rfl) (by decide) ?_
    refine sw_iconst (x := 2) O (xx_dt dd_X7_wouldPay 5 rfl) (by decide) ?_
    by_cases q2 : n_bt y 0 2
    · refine sw_callSx (as := [.int y, .int 0, .int 2]) (st := []) (st2 := []) (k' := 0) (n' := 0) O (ct_X7_needBetween_ok hl  q2) ce_X7_needBetween ml_X7_61 st_X7_needBetween (xx_dt dd_X7_wouldPay 6 rfl) (by decide) rfl rfl (Nat.le_of_ble_eq_true rfl) rfl ?_
      refine sw_lsE (ls2 := [.ref 1000, .int (nI (cn x)), .int (nI (cn y))]) (by rw [← (bt_nat 2 q2 (by decide) (by decide) (by decide)).1]) ?_
      have hvq2 := (bt_nat 2 q2 (by decide) (by decide) (by decide)).2
      refine sw_aload_n O (xx_dt dd_X7_wouldPay 7 rfl) rfl ?_
      refine sw_get (v := .ref 1004) O (xx_dt dd_X7_wouldPay 8 rfl) cl_X7 fl_X7_36 (ly_1000 σ h) (by decide) rfl ?_
      refine sw_get (v := .ref 1130) O (xx_dt dd_X7_wouldPay 9 rfl) cl_X4 fl_X7_310 (ly_1004 σ h) (by decide) rfl ?_
      refine sw_iload_n O (xx_dt dd_X7_wouldPay 10 rfl) rfl ?_
      refine sw_aaload (v := .ref (1131 + cn y)) O (xx_dt dd_X7_wouldPay 11 rfl) (by omega) (by omega) (ly_1130 σ h) (pk_in (cn y) _ (by omega)) (by rw [nI_clamp (by omega)]; try exact rfl) ?_
      refine sw_iload_n O (xx_dt dd_X7_wouldPay 12 rfl) rfl ?_
      refine sw_iaload (v := .int (σ (1131 + cn y) (cn x))) O (xx_dt dd_X7_wouldPay 13 rfl) (lr_1130 σ h (k := cn y) (by omega)) (pk_in (cn x) _ (by omega)) (by rw [nI_clamp (by omega)]; try exact rfl) ?_
      exact sw_iret O (xx_dt dd_X7_wouldPay 14 rfl) rfl rfl (by rw [hQ]; exact ⟨by unfold o_wouldPay; simp only [if_pos q1, if_pos q2]; rfl, rfl⟩)
    · exact sw_callSt (as := [.int y, .int 0, .int 2]) (st := []) (k := 0) (n := 0) (k' := 1) (n' := 6) O (ct_X7_needBetween_no hl  q2) ce_X7_needBetween ml_X7_61 st_X7_needBetween (xx_dt dd_X7_wouldPay 6 rfl) (by decide) rfl rfl (Nat.le_of_ble_eq_true rfl)  (by rw [hQ]; exact ⟨by unfold o_wouldPay; simp only [if_pos q1, if_neg q2]; rfl, rfl⟩)
  · exact sw_callVt (as := [.int x]) (st := []) (k := 0) (n := 0) (k' := 1) (n' := 6) O (ct_X7_needBidder_no hl (σ := σ) (B := B) hB (by omega) q1) ce_X7_needBidder ml_X7_124 iv_X7_needBidder cl_X7 rfl (ly_1000 σ h) (xx_dt dd_X7_wouldPay 2 rfl) (by decide) rfl rfl (Nat.le_of_ble_eq_true rfl)  (by rw [hQ]; exact ⟨by unfold o_wouldPay; simp only [if_neg q1]; rfl, rfl⟩)
def o_objects (σ : XS9) (x y : Int32) (B : Nat) : Int32 ⊕ String := (if n_lt x (2 ^ B) then (if n_bt y 0 2 then .inl (if 0 < (f_objection σ (cn x) (cn y)) then (f_objection σ (cn x) (cn y)) else 0) else .inr eIAE) else .inr eIAE)
theorem ct_X7_objects {l : Launch} {h : XH} (hl : l.stackTraces = false) {σ : XS9} {B : Nat} (hB : σ 1001 9 = nI B) (hB6 : B ≤ 6) {x y : Int32} : XEo l m_X7_objects 7 1 6 [.ref 1000, .int x, .int y] (setC σ h) ((xoi (o_objects σ x y B))) (setC σ h) := by
  refine XMet.of hl rfl rfl (Nat.le_of_ble_eq_true rfl) (fun Y O hh hQ => ?_)
  show SW Y 1 6 (setC σ h) 0 [.ref 1000, .int x, .int y] []
  refine sw_iload_n O (xx_dt dd_X7_objects 0 rfl) rfl ?_
  refine sw_aload_n O (xx_dt dd_X7_objects 1 rfl) rfl ?_
  refine sw_get (v := .ref 1001) O (xx_dt dd_X7_objects 2 rfl) cl_X7 fl_X7_12 (ly_1000 σ h) (by decide) rfl ?_
  refine sw_get (v := .int (nI B)) O (xx_dt dd_X7_objects 3 rfl) cl_X6 fl_X7_100 (ly_1001 σ h) (by decide) (congrArg Value.int hB) ?_
  by_cases q1 : n_lt x (2 ^ B)
  · refine sw_callSx (as := [.int x, .int (nI B)]) (st := []) (st2 := []) (k' := 0) (n' := 0) O (ct_X7_needSet_ok hl (C := B) (by omega) q1) ce_X7_needSet ml_X7_228 st_X7_needSet (xx_dt dd_X7_objects 4 rfl) (by decide) rfl rfl (Nat.le_of_ble_eq_true rfl) rfl ?_
    refine sw_lsE (ls2 := [.ref 1000, .int (nI (cn x)), .int y]) (by rw [← q1.1]) ?_
    have hvq1 := q1.2
    have hpq1 := Nat.lt_of_lt_of_le q1.2 (pow6 (C := B) (by omega))
    refine sw_iload_n O (xx_dt dd_X7_objects 5 rfl) rfl ?_
    refine sw_iconst (x := 0) O (xx_dt dd_X7_objects 6 rfl) (by decide) ?_
    refine sw_iconst (x := 2) O (xx_dt dd_X7_objects 7 rfl) (by decide) ?_
    by_cases q2 : n_bt y 0 2
    · refine sw_callSx (as := [.int y, .int 0, .int 2]) (st := []) (st2 := []) (k' := 0) (n' := 0) O (ct_X7_needBetween_ok hl  q2) ce_X7_needBetween ml_X7_61 st_X7_needBetween (xx_dt dd_X7_objects 8 rfl) (by decide) rfl rfl (Nat.le_of_ble_eq_true rfl) rfl ?_
      refine sw_lsE (ls2 := [.ref 1000, .int (nI (cn x)), .int (nI (cn y))]) (by rw [← (bt_nat 2 q2 (by decide) (by decide) (by decide)).1]) ?_
      have hvq2 := (bt_nat 2 q2 (by decide) (by decide) (by decide)).2
      refine sw_iconst (x := 0) O (xx_dt dd_X7_objects 9 rfl) (by decide) ?_
      refine sw_aload_n O (xx_dt dd_X7_objects 10 rfl) rfl ?_
      refine sw_get (v := .ref 1004) O (xx_dt dd_X7_objects 11 rfl) cl_X7 fl_X7_36 (ly_1000 σ h) (by decide) rfl ?_
      refine sw_aload_n O (xx_dt dd_X7_objects 12 rfl) rfl ?_
      refine sw_get (v := .ref 1003) O (xx_dt dd_X7_objects 13 rfl) cl_X7 fl_X7_29 (ly_1000 σ h) (by decide) rfl ?_
      refine sw_iload_n O (xx_dt dd_X7_objects 14 rfl) rfl ?_
      refine sw_iload_n O (xx_dt dd_X7_objects 15 rfl) rfl ?_
      refine sw_callVx (as := [.ref 1003, .int (nI (cn x)), .int (nI (cn y))]) (st := [.int 0]) (st2 := [.int (f_objection σ (cn x) (cn y)), .int 0]) O (ct_X4_objection hl (σ := σ) (S := cn x) (w := cn y) (by omega) (by omega)) ce_X4_objection ml_X7_313 iv_X4_objection cl_X4 rfl (ly_1004 σ h) (xx_dt dd_X7_objects 16 rfl) (by decide) rfl rfl (Nat.le_of_ble_eq_true rfl) rfl ?_
      refine sw_max O mm_X7_317 (xx_dt dd_X7_objects 17 rfl) (by omega) (Nat.le_of_ble_eq_true rfl) ?_
      exact sw_iret O (xx_dt dd_X7_objects 18 rfl) rfl rfl (by rw [hQ]; exact ⟨by unfold o_objects; simp only [if_pos q1, if_pos q2]; rfl, rfl⟩)
    · exact sw_callSt (as := [.int y, .int 0, .int 2]) (st := []) (k := 0) (n := 0) (k' := 1) (n' := 6) O (ct_X7_needBetween_no hl  q2) ce_X7_needBetween ml_X7_61 st_X7_needBetween (xx_dt dd_X7_objects 8 rfl) (by decide) rfl rfl (Nat.le_of_ble_eq_true rfl)  (by rw [hQ]; exact ⟨by unfold o_objects; simp only [if_pos q1, if_neg q2]; rfl, rfl⟩)
  · exact sw_callSt (as := [.int x, .int (nI B)]) (st := []) (k := 0) (n := 0) (k' := 1) (n' := 6) O (ct_X7_needSet_no hl (C := B) (by omega) q1) ce_X7_needSet ml_X7_228 st_X7_needSet (xx_dt dd_X7_objects 4 rfl) (by decide) rfl rfl (Nat.le_of_ble_eq_true rfl)  (by rw [hQ]; exact ⟨by unfold o_objects; simp only [if_neg q1]; rfl, rfl⟩)
def o_most (σ : XS9) (x y : Int32) (R B : Nat) : Int32 ⊕ String := (if n_lt x B then (if n_lt y R then (if (σ 1000 7) = 1 then .inl (f_greatestWish σ 2000 (cn x) (cn y) B) else .inl (-1)) else .inr eIOB) else .inr eIOB)
theorem ct_X7_most {l : Launch} {h : XH} (hl : l.stackTraces = false) {σ : XS9} {R : Nat} (hR : σ 1001 4 = nI R) (hR5 : R ≤ 5) {B : Nat} (hB : σ 1001 9 = nI B) (hB6 : B ≤ 6) {x y : Int32} : XEo l m_X7_most 7 1 6 [.ref 1000, .int x, .int y] (setC σ h) ((xoi (o_most σ x y R B))) (setC σ h) := by
  refine XMet.of hl rfl rfl (Nat.le_of_ble_eq_true rfl) (fun Y O hh hQ => ?_)
  show SW Y 1 6 (setC σ h) 0 [.ref 1000, .int x, .int y] []
  refine sw_aload_n O (xx_dt dd_X7_most 0 rfl) rfl ?_
  refine sw_iload_n O (xx_dt dd_X7_most 1 rfl) rfl ?_
  by_cases q1 : n_lt x B
  · refine sw_callVx (as := [.int x]) (st := []) (st2 := []) (k' := 0) (n' := 0) O (ct_X7_needBidder_ok hl (σ := σ) (B := B) hB (by omega) q1) ce_X7_needBidder ml_X7_124 iv_X7_needBidder cl_X7 rfl (ly_1000 σ h) (xx_dt dd_X7_most 2 rfl) (by decide) rfl rfl (Nat.le_of_ble_eq_true rfl) rfl ?_
    refine sw_lsE (ls2 := [.ref 1000, .int (nI (cn x)), .int y]) (by rw [← q1.1]) ?_
    have hvq1 := q1.2
    refine sw_aload_n O (xx_dt dd_X7_most 3 rfl) rfl ?_
    refine sw_iload_n O (xx_dt dd_X7_most 4 rfl) rfl ?_
    by_cases q2 : n_lt y R
    · refine sw_callVx (as := [.int y]) (st := []) (st2 := []) (k' := 0) (n' := 0) O (ct_X7_needRegion_ok hl (σ := σ) (R := R) hR (by omega) q2) ce_X7_needRegion ml_X7_87 iv_X7_needRegion cl_X7 rfl (ly_1000 σ h) (xx_dt dd_X7_most 5 rfl) (by decide) rfl rfl (Nat.le_of_ble_eq_true rfl) rfl ?_
      refine sw_lsE (ls2 := [.ref 1000, .int (nI (cn x)), .int (nI (cn y))]) (by rw [← q2.1]) ?_
      have hvq2 := q2.2
      refine sw_aload_n O (xx_dt dd_X7_most 6 rfl) rfl ?_
      refine sw_get (v := .int (σ 1000 7)) O (xx_dt dd_X7_most 7 rfl) cl_X7 fl_X7_54 (ly_1000 σ h) (by decide) rfl ?_
      refine sw_iconst (x := 1) O (xx_dt dd_X7_most 8 rfl) (by decide) ?_
      refine sw_icmp_ne (tgt := 34) O (xx_dt dd_X7_most 9 rfl) (by decide) (fun q3 => ?_) (fun q3 => ?_)
      · refine sw_iconst (x := (-1)) O (xx_dt dd_X7_most 18 rfl) (by decide) ?_
        exact sw_iret O (xx_dt dd_X7_most 19 rfl) rfl rfl (by rw [hQ]; exact ⟨by unfold o_most; simp only [if_pos q1, if_pos q2, if_neg q3]; rfl, rfl⟩)
      · refine sw_aload_n O (xx_dt dd_X7_most 10 rfl) rfl ?_
        refine sw_get (v := .ref 2000) O (xx_dt dd_X7_most 11 rfl) cl_X7 fl_X7_19 (ly_1000 σ h) (by decide) rfl ?_
        refine sw_aload_n O (xx_dt dd_X7_most 12 rfl) rfl ?_
        refine sw_get (v := .ref 1001) O (xx_dt dd_X7_most 13 rfl) cl_X7 fl_X7_12 (ly_1000 σ h) (by decide) rfl ?_
        refine sw_iload_n O (xx_dt dd_X7_most 14 rfl) rfl ?_
        refine sw_iload_n O (xx_dt dd_X7_most 15 rfl) rfl ?_
        refine sw_callVx (as := [.ref 1001, .int (nI (cn x)), .int (nI (cn y))]) (st := []) (st2 := [.int (f_greatestWish σ 2000 (cn x) (cn y) B)]) O (ct_X1_greatestWish hl (σ := σ) (b := 2000) (.inl rfl) (B := B) hB (by omega) (i := cn x) (r := cn y) (by omega) (by omega)) ce_X1_greatestWish ml_X7_322 iv_X1_greatestWish cl_X1 rfl (lk_0 σ h (.inl rfl)) (xx_dt dd_X7_most 16 rfl) (by decide) rfl rfl (Nat.le_of_ble_eq_true rfl) rfl ?_
        refine sw_goto (tgt := 35) O (xx_dt dd_X7_most 17 rfl) (by decide) ?_
        exact sw_iret O (xx_dt dd_X7_most 19 rfl) rfl rfl (by rw [hQ]; exact ⟨by unfold o_most; simp only [if_pos q1, if_pos q2, if_pos q3]; rfl, rfl⟩)
    · exact sw_callVt (as := [.int y]) (st := []) (k := 0) (n := 0) (k' := 1) (n' := 6) O (ct_X7_needRegion_no hl (σ := σ) (R := R) hR (by omega) q2) ce_X7_needRegion ml_X7_87 iv_X7_needRegion cl_X7 rfl (ly_1000 σ h) (xx_dt dd_X7_most 5 rfl) (by decide) rfl rfl (Nat.le_of_ble_eq_true rfl)  (by rw [hQ]; exact ⟨by unfold o_most; simp only [if_pos q1, if_neg q2]; rfl, rfl⟩)
  · exact sw_callVt (as := [.int x]) (st := []) (k := 0) (n := 0) (k' := 1) (n' := 6) O (ct_X7_needBidder_no hl (σ := σ) (B := B) hB (by omega) q1) ce_X7_needBidder ml_X7_124 iv_X7_needBidder cl_X7 rfl (ly_1000 σ h) (xx_dt dd_X7_most 2 rfl) (by decide) rfl rfl (Nat.le_of_ble_eq_true rfl)  (by rw [hQ]; exact ⟨by unfold o_most; simp only [if_neg q1]; rfl, rfl⟩)
def o_contradicts (σ : XS9) (x : Int32) (B K : Nat) : Int32 ⊕ String := (if n_lt x B then (if (σ 1000 7) = 1 then .inl (f_contradictedRound σ 2000 (cn x) K) else .inl (-1)) else .inr eIOB)
theorem ct_X7_contradicts {l : Launch} {h : XH} (hl : l.stackTraces = false) {σ : XS9} {B : Nat} (hB : σ 1001 9 = nI B) (hB6 : B ≤ 6) {K : Nat} (hK : σ 2000 9 = nI K) (hK60 : K ≤ 60) {x : Int32} : XEo l m_X7_contradicts 7 1 6 [.ref 1000, .int x] (setC σ h) ((xoi (o_contradicts σ x B K))) (setC σ h) := by
  refine XMet.of hl rfl rfl (Nat.le_of_ble_eq_true rfl) (fun Y O hh hQ => ?_)
  show SW Y 1 6 (setC σ h) 0 [.ref 1000, .int x] []
  refine sw_aload_n O (xx_dt dd_X7_contradicts 0 rfl) rfl ?_
  refine sw_iload_n O (xx_dt dd_X7_contradicts 1 rfl) rfl ?_
  by_cases q1 : n_lt x B
  · refine sw_callVx (as := [.int x]) (st := []) (st2 := []) (k' := 0) (n' := 0) O (ct_X7_needBidder_ok hl (σ := σ) (B := B) hB (by omega) q1) ce_X7_needBidder ml_X7_124 iv_X7_needBidder cl_X7 rfl (ly_1000 σ h) (xx_dt dd_X7_contradicts 2 rfl) (by decide) rfl rfl (Nat.le_of_ble_eq_true rfl) rfl ?_
    refine sw_lsE (ls2 := [.ref 1000, .int (nI (cn x))]) (by rw [← q1.1]) ?_
    have hvq1 := q1.2
    refine sw_aload_n O (xx_dt dd_X7_contradicts 3 rfl) rfl ?_
    refine sw_get (v := .int (σ 1000 7)) O (xx_dt dd_X7_contradicts 4 rfl) cl_X7 fl_X7_54 (ly_1000 σ h) (by decide) rfl ?_
    refine sw_iconst (x := 1) O (xx_dt dd_X7_contradicts 5 rfl) (by decide) ?_
    refine sw_icmp_ne (tgt := 24) O (xx_dt dd_X7_contradicts 6 rfl) (by decide) (fun q2 => ?_) (fun q2 => ?_)
    · refine sw_iconst (x := (-1)) O (xx_dt dd_X7_contradicts 12 rfl) (by decide) ?_
      exact sw_iret O (xx_dt dd_X7_contradicts 13 rfl) rfl rfl (by rw [hQ]; exact ⟨by unfold o_contradicts; simp only [if_pos q1, if_neg q2]; rfl, rfl⟩)
    · refine sw_aload_n O (xx_dt dd_X7_contradicts 7 rfl) rfl ?_
      refine sw_get (v := .ref 2000) O (xx_dt dd_X7_contradicts 8 rfl) cl_X7 fl_X7_19 (ly_1000 σ h) (by decide) rfl ?_
      refine sw_iload_n O (xx_dt dd_X7_contradicts 9 rfl) rfl ?_
      refine sw_callVx (as := [.int (nI (cn x))]) (st := []) (st2 := [.int (f_contradictedRound σ 2000 (cn x) K)]) O (ct_X1_contradictedRound hl (σ := σ) (b := 2000) (.inl rfl) (K := K) hK (by omega) (i := cn x) (by omega)) ce_X1_contradictedRound ml_X7_326 iv_X1_contradictedRound cl_X1 rfl (lk_0 σ h (.inl rfl)) (xx_dt dd_X7_contradicts 10 rfl) (by decide) rfl rfl (Nat.le_of_ble_eq_true rfl) rfl ?_
      refine sw_goto (tgt := 25) O (xx_dt dd_X7_contradicts 11 rfl) (by decide) ?_
      exact sw_iret O (xx_dt dd_X7_contradicts 13 rfl) rfl rfl (by rw [hQ]; exact ⟨by unfold o_contradicts; simp only [if_pos q1, if_pos q2]; rfl, rfl⟩)
  · exact sw_callVt (as := [.int x]) (st := []) (k := 0) (n := 0) (k' := 1) (n' := 6) O (ct_X7_needBidder_no hl (σ := σ) (B := B) hB (by omega) q1) ce_X7_needBidder ml_X7_124 iv_X7_needBidder cl_X7 rfl (ly_1000 σ h) (xx_dt dd_X7_contradicts 2 rfl) (by decide) rfl rfl (Nat.le_of_ble_eq_true rfl)  (by rw [hQ]; exact ⟨by unfold o_contradicts; simp only [if_neg q1]; rfl, rfl⟩)
def o_anew (σ : XS9) (x y z v : Int32) (R B K : Nat) : Int32 ⊕ String := (if n_rd x K then (if n_lt y B then (if n_lt z R then (if n_bt v 0 5 then .inl (f_allPrices (g_runLog σ 3000 2000 (nI (rn x + 1)) (cn y) (cn z) (nI (cn v)) B R K) 3000) else .inr eIAE) else .inr eIOB) else .inr eIOB) else .inr eIOB)
def g_anew (σ : XS9) (x y z v : Int32) (R B K : Nat) : XS9 := (if n_rd x K then (if n_lt y B then (if n_lt z R then (if n_bt v 0 5 then g_runLog σ 3000 2000 (nI (rn x + 1)) (cn y) (cn z) (nI (cn v)) B R K else σ) else σ) else σ) else σ)
theorem ct_X7_anew {l : Launch} {h : XH} (hl : l.stackTraces = false) {σ : XS9} {R : Nat} (hR : σ 1001 4 = nI R) (hR5 : R ≤ 5) {B : Nat} (hB : σ 1001 9 = nI B) (hB6 : B ≤ 6) {K : Nat} (hK : σ 2000 9 = nI K) (hK60 : K ≤ 60) {x y z v : Int32} : XEo l m_X7_anew 7 1 6 [.ref 1000, .int x, .int y, .int z, .int v] (setC σ h) ((xoi (o_anew σ x y z v R B K))) (setC (g_anew σ x y z v R B K) h) := by
  refine XMet.of hl rfl rfl (Nat.le_of_ble_eq_true rfl) (fun Y O hh hQ => ?_)
  show SW Y 1 6 (setC σ h) 0 [.ref 1000, .int x, .int y, .int z, .int v] []
  refine sw_aload_n O (xx_dt dd_X7_anew 0 rfl) rfl ?_
  refine sw_iload_n O (xx_dt dd_X7_anew 1 rfl) rfl ?_
  by_cases q1 : n_rd x K
  · refine sw_callVx (as := [.int x]) (st := []) (st2 := []) (k' := 0) (n' := 0) O (ct_X7_needRound_ok hl (σ := σ) (K := K) hK (by omega) q1) ce_X7_needRound ml_X7_255 iv_X7_needRound cl_X7 rfl (ly_1000 σ h) (xx_dt dd_X7_anew 2 rfl) (by decide) rfl rfl (Nat.le_of_ble_eq_true rfl) rfl ?_
    refine sw_lsE (ls2 := [.ref 1000, .int (nI (rn x + 1)), .int y, .int z, .int v]) (by rw [← q1.1]) ?_
    have hvq1 := q1.2
    refine sw_aload_n O (xx_dt dd_X7_anew 3 rfl) rfl ?_
    refine sw_iload_n O (xx_dt dd_X7_anew 4 rfl) rfl ?_
    by_cases q2 : n_lt y B
    · refine sw_callVx (as := [.int y]) (st := []) (st2 := []) (k' := 0) (n' := 0) O (ct_X7_needBidder_ok hl (σ := σ) (B := B) hB (by omega) q2) ce_X7_needBidder ml_X7_124 iv_X7_needBidder cl_X7 rfl (ly_1000 σ h) (xx_dt dd_X7_anew 5 rfl) (by decide) rfl rfl (Nat.le_of_ble_eq_true rfl) rfl ?_
      refine sw_lsE (ls2 := [.ref 1000, .int (nI (rn x + 1)), .int (nI (cn y)), .int z, .int v]) (by rw [← q2.1]) ?_
      have hvq2 := q2.2
      refine sw_aload_n O (xx_dt dd_X7_anew 6 rfl) rfl ?_
      refine sw_iload_n O (xx_dt dd_X7_anew 7 rfl) rfl ?_
      by_cases q3 : n_lt z R
      · refine sw_callVx (as := [.int z]) (st := []) (st2 := []) (k' := 0) (n' := 0) O (ct_X7_needRegion_ok hl (σ := σ) (R := R) hR (by omega) q3) ce_X7_needRegion ml_X7_87 iv_X7_needRegion cl_X7 rfl (ly_1000 σ h) (xx_dt dd_X7_anew 8 rfl) (by decide) rfl rfl (Nat.le_of_ble_eq_true rfl) rfl ?_
        refine sw_lsE (ls2 := [.ref 1000, .int (nI (rn x + 1)), .int (nI (cn y)), .int (nI (cn z)), .int v]) (by rw [← q3.1]) ?_
        have hvq3 := q3.2
        refine sw_iload O (xx_dt dd_X7_anew 9 rfl) rfl ?_
        refine sw_iconst (x := 0) O (xx_dt dd_X7_anew 10 rfl) (by decide) ?_
        refine sw_iconst (x := 5) O (xx_dt dd_X7_anew 11 rfl) (by decide) ?_
        by_cases q4 : n_bt v 0 5
        · refine sw_callSx (as := [.int v, .int 0, .int 5]) (st := []) (st2 := []) (k' := 0) (n' := 0) O (ct_X7_needBetween_ok hl  q4) ce_X7_needBetween ml_X7_61 st_X7_needBetween (xx_dt dd_X7_anew 12 rfl) (by decide) rfl rfl (Nat.le_of_ble_eq_true rfl) rfl ?_
          refine sw_lsE (ls2 := [.ref 1000, .int (nI (rn x + 1)), .int (nI (cn y)), .int (nI (cn z)), .int (nI (cn v))]) (by rw [← (bt_nat 5 q4 (by decide) (by decide) (by decide)).1]) ?_
          have hvq4 := (bt_nat 5 q4 (by decide) (by decide) (by decide)).2
          refine sw_aload_n O (xx_dt dd_X7_anew 13 rfl) rfl ?_
          refine sw_get (v := .ref 3000) O (xx_dt dd_X7_anew 14 rfl) cl_X7 fl_X7_23 (ly_1000 σ h) (by decide) rfl ?_
          refine sw_aload_n O (xx_dt dd_X7_anew 15 rfl) rfl ?_
          refine sw_get (v := .ref 1001) O (xx_dt dd_X7_anew 16 rfl) cl_X7 fl_X7_12 (ly_1000 σ h) (by decide) rfl ?_
          refine sw_aload_n O (xx_dt dd_X7_anew 17 rfl) rfl ?_
          refine sw_get (v := .ref 2000) O (xx_dt dd_X7_anew 18 rfl) cl_X7 fl_X7_19 (ly_1000 σ h) (by decide) rfl ?_
          refine sw_iload_n O (xx_dt dd_X7_anew 19 rfl) rfl ?_
          refine sw_iload_n O (xx_dt dd_X7_anew 20 rfl) rfl ?_
          refine sw_iload_n O (xx_dt dd_X7_anew 21 rfl) rfl ?_
          refine sw_iload O (xx_dt dd_X7_anew 22 rfl) rfl ?_
          refine sw_callVx (as := [.ref 1001, .ref 2000, .int (nI (rn x + 1)), .int (nI (cn y)), .int (nI (cn z)), .int (nI (cn v))]) (st := []) (st2 := []) O (ct_X1_runLog hl (σ := σ) (b := 3000) (c := 2000) (.inr rfl) (.inl rfl) (by decide) (B := B) hB (by omega) (R := R) hR (by omega) (K := K) hK (by omega) (x := nI (rn x + 1)) (y := nI (cn v)) (j := cn y) (r := cn z) (by omega) (by omega)) ce_X1_runLog ml_X7_329 iv_X1_runLog cl_X1 rfl (lk_0 σ h (.inr rfl)) (xx_dt dd_X7_anew 23 rfl) (by decide) rfl rfl (Nat.le_of_ble_eq_true rfl) rfl ?_
          refine sw_aload_n O (xx_dt dd_X7_anew 24 rfl) rfl ?_
          refine sw_get (v := .ref 3000) O (xx_dt dd_X7_anew 25 rfl) cl_X7 fl_X7_23 (ly_1000 (g_runLog σ 3000 2000 (nI (rn x + 1)) (cn y) (cn z) (nI (cn v)) B R K) h) (by decide) rfl ?_
          refine sw_callVx (as := []) (st := []) (st2 := [.int (f_allPrices (g_runLog σ 3000 2000 (nI (rn x + 1)) (cn y) (cn z) (nI (cn v)) B R K) 3000)]) O (ct_X1_allPrices hl (σ := g_runLog σ 3000 2000 (nI (rn x + 1)) (cn y) (cn z) (nI (cn v)) B R K) (b := 3000) (.inr rfl)  ) ce_X1_allPrices ml_X7_120 iv_X1_allPrices cl_X1 rfl (lk_0 (g_runLog σ 3000 2000 (nI (rn x + 1)) (cn y) (cn z) (nI (cn v)) B R K) h (.inr rfl)) (xx_dt dd_X7_anew 26 rfl) (by decide) rfl rfl (Nat.le_of_ble_eq_true rfl) rfl ?_
          exact sw_iret O (xx_dt dd_X7_anew 27 rfl) rfl rfl (by rw [hQ]; exact ⟨by unfold o_anew; simp only [if_pos q1, if_pos q2, if_pos q3, if_pos q4]; rfl, by unfold g_anew; simp only [if_pos q1, if_pos q2, if_pos q3, if_pos q4]⟩)
        · exact sw_callSt (as := [.int v, .int 0, .int 5]) (st := []) (k := 0) (n := 0) (k' := 1) (n' := 6) O (ct_X7_needBetween_no hl  q4) ce_X7_needBetween ml_X7_61 st_X7_needBetween (xx_dt dd_X7_anew 12 rfl) (by decide) rfl rfl (Nat.le_of_ble_eq_true rfl)  (by rw [hQ]; exact ⟨by unfold o_anew; simp only [if_pos q1, if_pos q2, if_pos q3, if_neg q4]; rfl, by unfold g_anew; simp only [if_pos q1, if_pos q2, if_pos q3, if_neg q4]⟩)
      · exact sw_callVt (as := [.int z]) (st := []) (k := 0) (n := 0) (k' := 1) (n' := 6) O (ct_X7_needRegion_no hl (σ := σ) (R := R) hR (by omega) q3) ce_X7_needRegion ml_X7_87 iv_X7_needRegion cl_X7 rfl (ly_1000 σ h) (xx_dt dd_X7_anew 8 rfl) (by decide) rfl rfl (Nat.le_of_ble_eq_true rfl)  (by rw [hQ]; exact ⟨by unfold o_anew; simp only [if_pos q1, if_pos q2, if_neg q3]; rfl, by unfold g_anew; simp only [if_pos q1, if_pos q2, if_neg q3]⟩)
    · exact sw_callVt (as := [.int y]) (st := []) (k := 0) (n := 0) (k' := 1) (n' := 6) O (ct_X7_needBidder_no hl (σ := σ) (B := B) hB (by omega) q2) ce_X7_needBidder ml_X7_124 iv_X7_needBidder cl_X7 rfl (ly_1000 σ h) (xx_dt dd_X7_anew 5 rfl) (by decide) rfl rfl (Nat.le_of_ble_eq_true rfl)  (by rw [hQ]; exact ⟨by unfold o_anew; simp only [if_pos q1, if_neg q2]; rfl, by unfold g_anew; simp only [if_pos q1, if_neg q2]⟩)
  · exact sw_callVt (as := [.int x]) (st := []) (k := 0) (n := 0) (k' := 1) (n' := 6) O (ct_X7_needRound_no hl (σ := σ) (K := K) hK (by omega) q1) ce_X7_needRound ml_X7_255 iv_X7_needRound cl_X7 rfl (ly_1000 σ h) (xx_dt dd_X7_anew 2 rfl) (by decide) rfl rfl (Nat.le_of_ble_eq_true rfl)  (by rw [hQ]; exact ⟨by unfold o_anew; simp only [if_neg q1]; rfl, by unfold g_anew; simp only [if_neg q1]⟩)
end
section
/-! ===== the market: what is picked ===== -/
theorem fr_moveTaken' {σ : XS9} {i R : Nat} {x y : Int32} {gr : Nat → Nat} {q : Nat} (h : q ≠ 1044 ∧ q ≠ 1121 + gr i) : g_moveTaken σ i x y R gr q = σ q := by
  have H : ∀ s0, (x_moveTaken_19 σ i x y R gr s0).1 q = s0.1 q := fun s0 => xit_keep (fun s : XS9 × Int32 => s.1 q) (fun i s => by simp (disch := omega) only [u2_ne]) _ _ _
  unfold g_moveTaken
  exact H _
def g_take (σ : XS9) (i n R : Nat) (gr : Nat → Nat) : XS9 := g_moveTaken (u2 σ 1043 i (nI n)) i (σ (1022 + i) n) 1 R gr
theorem ct_X2_take {l : Launch} {h : XH} (hl : l.stackTraces = false) {σ : XS9} {R : Nat} (hR : σ 1001 4 = nI R) (hR5 : R ≤ 5) {gr : Nat → Nat} (hgr : ∀ i, i < 6 → σ 1017 i = nI (gr i) ∧ gr i < 4) {i n : Nat} (hi : i < 6) (hn : n < 6) : XEx l m_X2_take 1 0 0 [.ref 1003, .ref 1001, .int (nI i), .int (nI n)] (setC σ h) (none) (setC (g_take σ i n R gr) h) := by
  refine XMet.of hl rfl rfl (Nat.le_of_ble_eq_true rfl) (fun Y O hh hQ => ?_)
  show SW Y 0 0 (setC σ h) 0 [.ref 1003, .ref 1001, .int (nI i), .int (nI n)] []
  refine sw_aload_n O (xx_dt dd_X2_take 0 rfl) rfl ?_
  refine sw_get (v := .ref 1043) O (xx_dt dd_X2_take 1 rfl) cl_X2 fl_X2_35 (ly_1003 σ h) (by decide) rfl ?_
  refine sw_iload_n O (xx_dt dd_X2_take 2 rfl) rfl ?_
  refine sw_iload_n O (xx_dt dd_X2_take 3 rfl) rfl ?_
  refine sw_iastore (h2 := setC (u2 σ 1043 i (nI n)) h) O (xx_dt dd_X2_take 4 rfl) (ly_1043 σ h) (pk_in i _ (by omega)) (by decide) (by rw [nI_clamp (by omega)]; exact pa_1043) ?_
  refine sw_aload_n O (xx_dt dd_X2_take 5 rfl) rfl ?_
  refine sw_aload_n O (xx_dt dd_X2_take 6 rfl) rfl ?_
  refine sw_iload_n O (xx_dt dd_X2_take 7 rfl) rfl ?_
  refine sw_aload_n O (xx_dt dd_X2_take 8 rfl) rfl ?_
  refine sw_get (v := .ref 1021) O (xx_dt dd_X2_take 9 rfl) cl_X2 fl_X2_17 (ly_1003 (u2 σ 1043 i (nI n)) h) (by decide) rfl ?_
  refine sw_iload_n O (xx_dt dd_X2_take 10 rfl) rfl ?_
  refine sw_aaload (v := .ref (1022 + i)) O (xx_dt dd_X2_take 11 rfl) (by omega) (by omega) (ly_1021 (u2 σ 1043 i (nI n)) h) (pk_in i _ (by omega)) (by rw [nI_clamp (by omega)]; try exact rfl) ?_
  refine sw_iload_n O (xx_dt dd_X2_take 12 rfl) rfl ?_
  refine sw_iaload (v := .int (σ (1022 + i) n)) O (xx_dt dd_X2_take 13 rfl) (lr_1021 (u2 σ 1043 i (nI n)) h (k := i) (by omega)) (pk_in n _ (by omega)) (by rw [nI_clamp (by omega)]; exact (congrArg Value.int (congrFun (u2_ne (by omega)) n))) ?_
  refine sw_iconst (x := 1) O (xx_dt dd_X2_take 14 rfl) (by decide) ?_
  refine sw_callVx (as := [.ref 1001, .int (nI i), .int (σ (1022 + i) n), .int 1]) (st := []) (st2 := []) O (ct_X2_moveTaken hl (σ := u2 σ 1043 i (nI n)) (R := R) hR (by omega) (gr := gr) hgr (i := i) (x := σ (1022 + i) n) (y := 1) (by omega)) ce_X2_moveTaken ml_X2_99 iv_X2_moveTaken cl_X2 rfl (ly_1003 (u2 σ 1043 i (nI n)) h) (xx_dt dd_X2_take 15 rfl) (by first | decide | omega) rfl rfl (Nat.le_of_ble_eq_true rfl) rfl ?_
  exact sw_ret O (xx_dt dd_X2_take 16 rfl) rfl (by rw [hQ]; exact ⟨rfl, by unfold g_take; rfl⟩)
theorem fr_take {σ : XS9} {i n R : Nat} {gr : Nat → Nat} {q : Nat} (h : q ≠ 1043 ∧ q ≠ 1044 ∧ q ≠ 1121 + gr i) : g_take σ i n R gr q = σ q := by
  unfold g_take
  simp (disch := omega) only [fr_moveTaken', u2_ne]
def g_giveBack (σ : XS9) (i n R : Nat) (gr : Nat → Nat) : XS9 := g_moveTaken (u2 σ 1043 i (-1)) i (σ (1022 + i) n) (-1) R gr
theorem ct_X2_giveBack {l : Launch} {h : XH} (hl : l.stackTraces = false) {σ : XS9} {R : Nat} (hR : σ 1001 4 = nI R) (hR5 : R ≤ 5) {gr : Nat → Nat} (hgr : ∀ i, i < 6 → σ 1017 i = nI (gr i) ∧ gr i < 4) {i n : Nat} (hi : i < 6) (hn : n < 6) : XEx l m_X2_giveBack 1 0 0 [.ref 1003, .ref 1001, .int (nI i), .int (nI n)] (setC σ h) (none) (setC (g_giveBack σ i n R gr) h) := by
  refine XMet.of hl rfl rfl (Nat.le_of_ble_eq_true rfl) (fun Y O hh hQ => ?_)
  show SW Y 0 0 (setC σ h) 0 [.ref 1003, .ref 1001, .int (nI i), .int (nI n)] []
  refine sw_aload_n O (xx_dt dd_X2_giveBack 0 rfl) rfl ?_
  refine sw_get (v := .ref 1043) O (xx_dt dd_X2_giveBack 1 rfl) cl_X2 fl_X2_35 (ly_1003 σ h) (by decide) rfl ?_
  refine sw_iload_n O (xx_dt dd_X2_giveBack 2 rfl) rfl ?_
  refine sw_iconst (x := (-1)) O (xx_dt dd_X2_giveBack 3 rfl) (by decide) ?_
  refine sw_iastore (h2 := setC (u2 σ 1043 i (-1)) h) O (xx_dt dd_X2_giveBack 4 rfl) (ly_1043 σ h) (pk_in i _ (by omega)) (by decide) (by rw [nI_clamp (by omega)]; exact pa_1043) ?_
  refine sw_aload_n O (xx_dt dd_X2_giveBack 5 rfl) rfl ?_
  refine sw_aload_n O (xx_dt dd_X2_giveBack 6 rfl) rfl ?_
  refine sw_iload_n O (xx_dt dd_X2_giveBack 7 rfl) rfl ?_
  refine sw_aload_n O (xx_dt dd_X2_giveBack 8 rfl) rfl ?_
  refine sw_get (v := .ref 1021) O (xx_dt dd_X2_giveBack 9 rfl) cl_X2 fl_X2_17 (ly_1003 (u2 σ 1043 i (-1)) h) (by decide) rfl ?_
  refine sw_iload_n O (xx_dt dd_X2_giveBack 10 rfl) rfl ?_
  refine sw_aaload (v := .ref (1022 + i)) O (xx_dt dd_X2_giveBack 11 rfl) (by omega) (by omega) (ly_1021 (u2 σ 1043 i (-1)) h) (pk_in i _ (by omega)) (by rw [nI_clamp (by omega)]; try exact rfl) ?_
  refine sw_iload_n O (xx_dt dd_X2_giveBack 12 rfl) rfl ?_
  refine sw_iaload (v := .int (σ (1022 + i) n)) O (xx_dt dd_X2_giveBack 13 rfl) (lr_1021 (u2 σ 1043 i (-1)) h (k := i) (by omega)) (pk_in n _ (by omega)) (by rw [nI_clamp (by omega)]; exact (congrArg Value.int (congrFun (u2_ne (by omega)) n))) ?_
  refine sw_iconst (x := (-1)) O (xx_dt dd_X2_giveBack 14 rfl) (by decide) ?_
  refine sw_callVx (as := [.ref 1001, .int (nI i), .int (σ (1022 + i) n), .int (-1)]) (st := []) (st2 := []) O (ct_X2_moveTaken hl (σ := u2 σ 1043 i (-1)) (R := R) hR (by omega) (gr := gr) hgr (i := i) (x := σ (1022 + i) n) (y := (-1)) (by omega)) ce_X2_moveTaken ml_X2_99 iv_X2_moveTaken cl_X2 rfl (ly_1003 (u2 σ 1043 i (-1)) h) (xx_dt dd_X2_giveBack 15 rfl) (by first | decide | omega) rfl rfl (Nat.le_of_ble_eq_true rfl) rfl ?_
  exact sw_ret O (xx_dt dd_X2_giveBack 16 rfl) rfl (by rw [hQ]; exact ⟨rfl, by unfold g_giveBack; rfl⟩)
theorem fr_giveBack {σ : XS9} {i n R : Nat} {gr : Nat → Nat} {q : Nat} (h : q ≠ 1043 ∧ q ≠ 1044 ∧ q ≠ 1121 + gr i) : g_giveBack σ i n R gr q = σ q := by
  unfold g_giveBack
  simp (disch := omega) only [fr_moveTaken', u2_ne]
def x_asksFor_2 (σ : XS9) (i r : Nat) (cnt : Nat → Nat) (s0 : Unit) : Unit ⊕ Int32 := xitR (fun i2 s2 => (if (f_many (σ (1022 + i) i2) r) ≤ 0 then .inl () else .inr 1)) (cnt i) 0 s0
def f_asksFor (σ : XS9) (i r : Nat) (cnt : Nat → Nat) : Int32 := (match (x_asksFor_2 σ i r cnt ()) with | .inl s2 => 0 | .inr r2 => r2)
theorem ct_X2_asksFor {l : Launch} {h : XH} (hl : l.stackTraces = false) {σ : XS9} {cnt : Nat → Nat} (hct : ∀ i, i < 6 → σ 1020 i = nI (cnt i) ∧ cnt i ≤ 6) {i r : Nat} (hi : i < 6) (hr : r < 5) : XEx l m_X2_asksFor 1 0 0 [.ref 1003, .int (nI i), .int (nI r)] (setC σ h) (some (.int (f_asksFor σ i r cnt))) (setC σ h) := by
  refine XMet.of hl rfl rfl (Nat.le_of_ble_eq_true rfl) (fun Y O hh hQ => ?_)
  show SW Y 0 0 (setC σ h) 0 [.ref 1003, .int (nI i), .int (nI r), xx_d] []
  refine sw_iconst (x := 0) O (xx_dt dd_X2_asksFor 0 rfl) (by decide) ?_
  refine sw_istore_n (ls2 := [.ref 1003, .int (nI i), .int (nI r), .int 0]) O (xx_dt dd_X2_asksFor 1 rfl) (by decide) rfl ?_
  refine sw_forR (R := Int32) (fun i2 s2 => (if (f_many (σ (1022 + i) i2) r) ≤ 0 then .inl () else .inr 1)) (fun _ _ => True) (FR := fun r9 => f_asksFor σ i r cnt = r9) (hp := fun _ => setC σ h) (hd := 2) (lc := fun i2 s2 => [.ref 1003, .int (nI i), .int (nI r), .int (nI i2)]) (N := (cnt i)) (fun i2 s2 hi2 hP2 => ⟨fun _ _ => trivial, fun kk2 kr2 => ?_⟩) (cnt i) 0 () (by omega) (trivial) (fun sN2 eN2 hP2 => ?_) (fun r2 eN2 => ?_)
  · refine sw_iload_n O (xx_dt dd_X2_asksFor 2 rfl) rfl ?_
    refine sw_aload_n O (xx_dt dd_X2_asksFor 3 rfl) rfl ?_
    refine sw_get (v := .ref 1020) O (xx_dt dd_X2_asksFor 4 rfl) cl_X2 fl_X2_9 (ly_1003 σ h) (by decide) rfl ?_
    refine sw_iload_n O (xx_dt dd_X2_asksFor 5 rfl) rfl ?_
    have hz8 := (hct i (by omega)).2
    refine sw_iaload (v := .int (nI (cnt i))) O (xx_dt dd_X2_asksFor 6 rfl) (ly_1020 σ h) (pk_in i _ (by omega)) (by rw [nI_clamp (by omega)]; exact (congrArg Value.int (hct i (by omega)).1)) ?_
    refine sw_icmp_ge (tgt := 35) O (xx_dt dd_X2_asksFor 7 rfl) (by decide) (fun q1 => ?_) (fun q1 => ?_)
    · exact absurd q1 (nI_ge (b := (cnt i)) hi2 (by omega))
    · refine sw_aload_n O (xx_dt dd_X2_asksFor 8 rfl) rfl ?_
      refine sw_get (v := .ref 1021) O (xx_dt dd_X2_asksFor 9 rfl) cl_X2 fl_X2_17 (ly_1003 σ h) (by decide) rfl ?_
      refine sw_iload_n O (xx_dt dd_X2_asksFor 10 rfl) rfl ?_
      refine sw_aaload (v := .ref (1022 + i)) O (xx_dt dd_X2_asksFor 11 rfl) (by omega) (by omega) (ly_1021 σ h) (pk_in i _ (by omega)) (by rw [nI_clamp (by omega)]; try exact rfl) ?_
      refine sw_iload_n O (xx_dt dd_X2_asksFor 12 rfl) rfl ?_
      refine sw_iaload (v := .int (σ (1022 + i) i2)) O (xx_dt dd_X2_asksFor 13 rfl) (lr_1021 σ h (k := i) (by omega)) (pk_in i2 _ (by omega)) (by rw [nI_clamp (by omega)]; try exact rfl) ?_
      refine sw_iload_n O (xx_dt dd_X2_asksFor 14 rfl) rfl ?_
      refine sw_callSx (as := [.int (σ (1022 + i) i2), .int (nI r)]) (st := []) (st2 := [.int (f_many (σ (1022 + i) i2) r)]) O (ct_X0_many hl (c := σ (1022 + i) i2) (r := r) (by omega)) ce_X0_many ml_X2_54 st_X0_many (xx_dt dd_X2_asksFor 15 rfl) (by first | decide | omega) rfl rfl (Nat.le_of_ble_eq_true rfl) rfl ?_
      refine sw_if_le (tgt := 29) O (xx_dt dd_X2_asksFor 16 rfl) (by decide) (fun q2 => ?_) (fun q2 => ?_)
      · refine sw_iinc (y := nI (i2 + 1)) (ls2 := [.ref 1003, .int (nI i), .int (nI r), .int (nI (i2 + 1))]) O (xx_dt dd_X2_asksFor 19 rfl) rfl (nI_1 _) (by decide) rfl ?_
        refine sw_goto (tgt := 2) O (xx_dt dd_X2_asksFor 20 rfl) (by decide) ?_
        exact kk2 () (by simp only [if_pos q2])
      · refine sw_iconst (x := 1) O (xx_dt dd_X2_asksFor 17 rfl) (by decide) ?_
        exact sw_iret O (xx_dt dd_X2_asksFor 18 rfl) rfl rfl (by rw [hQ, kr2 1 (by simp only [if_neg q2])]; exact ⟨rfl, rfl⟩)
  · show SW Y _ _ (setC σ h) 2 [.ref 1003, .int (nI i), .int (nI r), .int (nI ((cnt i)))] []
    refine sw_iload_n O (xx_dt dd_X2_asksFor 2 rfl) rfl ?_
    refine sw_aload_n O (xx_dt dd_X2_asksFor 3 rfl) rfl ?_
    refine sw_get (v := .ref 1020) O (xx_dt dd_X2_asksFor 4 rfl) cl_X2 fl_X2_9 (ly_1003 σ h) (by decide) rfl ?_
    refine sw_iload_n O (xx_dt dd_X2_asksFor 5 rfl) rfl ?_
    have hz8 := (hct i (by omega)).2
    refine sw_iaload (v := .int (nI (cnt i))) O (xx_dt dd_X2_asksFor 6 rfl) (ly_1020 σ h) (pk_in i _ (by omega)) (by rw [nI_clamp (by omega)]; exact (congrArg Value.int (hct i (by omega)).1)) ?_
    refine sw_icmp_ge (tgt := 35) O (xx_dt dd_X2_asksFor 7 rfl) (by decide) (fun q1 => ?_) (fun q1 => ?_)
    · refine sw_iconst (x := 0) O (xx_dt dd_X2_asksFor 21 rfl) (by decide) ?_
      exact sw_iret O (xx_dt dd_X2_asksFor 22 rfl) rfl rfl (by rw [hQ]; exact ⟨by unfold f_asksFor; simp only [x_asksFor_2, eN2], rfl⟩)
    · exact absurd (Int32.le_refl _) q1
  · unfold f_asksFor; simp only [x_asksFor_2, eN2]
theorem rem10 {a : Int32} {R : Nat} (hR : R ≤ 5) (h0 : 0 ≤ a) (h : ¬ nI R ≤ a - a / 10 * 10) : n_lt (a - a / 10 * 10) R := by
  refine (n_lt_iff (by omega)).mpr ⟨?_, Int32.not_le.mp h⟩
  obtain ⟨h1, h2⟩ := cn_of h0
  have h3 : cn a < 2147483648 := by have := Int32.toInt_lt a; omega
  rw [h1]
  have e : (10 : Int32) = nI 10 := rfl
  rw [e, nI_rem h3 (by decide) (by decide)]
  have h4 : cn a % 10 < 10 := Nat.mod_lt _ (by decide)
  intro h5
  have h6 := i_lt.mp h5
  rw [nI_toInt (by omega)] at h6
  have : (0 : Int32).toInt = 0 := rfl
  omega
def x_isSignal_43 (σ : XS9) (i n R B : Nat) (cnt : Nat → Nat) (s0 : Unit) : Unit ⊕ Int32 := xitR (fun i43 s43 => (if (f_areAllies σ i i43) = 0 then .inl () else (if (f_asksFor σ i43 (cn ((σ (1031 + i) n) - (σ (1031 + i) n) / 10 * 10)) cnt) = 0 then .inl () else .inr 1))) B 0 s0
def f_isSignal (σ : XS9) (i n R B : Nat) (cnt : Nat → Nat) : Int32 := (if (nI R) ≤ ((σ (1031 + i) n) - (σ (1031 + i) n) / 10 * 10) then 0 else (if (f_many (σ (1022 + i) n) (cn ((σ (1031 + i) n) - (σ (1031 + i) n) / 10 * 10))) = 0 then (match (x_isSignal_43 σ i n R B cnt ()) with | .inl s43 => 0 | .inr r43 => r43) else 0))
theorem ct_X2_isSignal {l : Launch} {h : XH} (hl : l.stackTraces = false) {σ : XS9} {R : Nat} (hR : σ 1001 4 = nI R) (hR5 : R ≤ 5) {B : Nat} (hB : σ 1001 9 = nI B) (hB6 : B ≤ 6) {cnt : Nat → Nat} (hct : ∀ i, i < 6 → σ 1020 i = nI (cnt i) ∧ cnt i ≤ 6) (ham : ∀ i k, i < 6 → k < 6 → 0 ≤ σ (1031 + i) k) {i n : Nat} (hi : i < 6) (hn : n < 6) : XEx l m_X2_isSignal 2 0 0 [.ref 1003, .ref 1001, .int (nI i), .int (nI n)] (setC σ h) (some (.int (f_isSignal σ i n R B cnt))) (setC σ h) := by
  refine XMet.of hl rfl rfl (Nat.le_of_ble_eq_true rfl) (fun Y O hh hQ => ?_)
  show SW Y 0 0 (setC σ h) 0 [.ref 1003, .ref 1001, .int (nI i), .int (nI n), xx_d, xx_d] []
  refine sw_aload_n O (xx_dt dd_X2_isSignal 0 rfl) rfl ?_
  refine sw_get (v := .ref 1030) O (xx_dt dd_X2_isSignal 1 rfl) cl_X2 fl_X2_20 (ly_1003 σ h) (by decide) rfl ?_
  refine sw_iload_n O (xx_dt dd_X2_isSignal 2 rfl) rfl ?_
  refine sw_aaload (v := .ref (1031 + i)) O (xx_dt dd_X2_isSignal 3 rfl) (by omega) (by omega) (ly_1030 σ h) (pk_in i _ (by omega)) (by rw [nI_clamp (by omega)]; try exact rfl) ?_
  refine sw_iload_n O (xx_dt dd_X2_isSignal 4 rfl) rfl ?_
  refine sw_iaload (v := .int (σ (1031 + i) n)) O (xx_dt dd_X2_isSignal 5 rfl) (lr_1030 σ h (k := i) (by omega)) (pk_in n _ (by omega)) (by rw [nI_clamp (by omega)]; try exact rfl) ?_
  refine sw_bipush (x := 10) O (xx_dt dd_X2_isSignal 6 rfl) (by decide) ?_
  refine sw_irem O (xx_dt dd_X2_isSignal 7 rfl) (by first | decide | assumption) ?_
  refine sw_istore (ls2 := [.ref 1003, .ref 1001, .int (nI i), .int (nI n), .int ((σ (1031 + i) n) - (σ (1031 + i) n) / 10 * 10), xx_d]) O (xx_dt dd_X2_isSignal 8 rfl) (by decide) rfl ?_
  refine sw_iload O (xx_dt dd_X2_isSignal 9 rfl) rfl ?_
  refine sw_aload_n O (xx_dt dd_X2_isSignal 10 rfl) rfl ?_
  refine sw_get (v := .int (nI R)) O (xx_dt dd_X2_isSignal 11 rfl) cl_X6 fl_X2_90 (ly_1001 σ h) (by decide) (congrArg Value.int hR) ?_
  refine sw_icmp_ge (tgt := 38) O (xx_dt dd_X2_isSignal 12 rfl) (by decide) (fun q1 => ?_) (fun q1 => ?_)
  · refine sw_iconst (x := 0) O (xx_dt dd_X2_isSignal 22 rfl) (by decide) ?_
    exact sw_iret O (xx_dt dd_X2_isSignal 23 rfl) rfl rfl (by rw [hQ]; exact ⟨by unfold f_isSignal; simp only [if_pos q1], rfl⟩)
  · have hc19 := rem10 hR5 (ham i n hi hn) q1
    refine sw_lsE (ls2 := [.ref 1003, .ref 1001, .int (nI i), .int (nI n), .int (nI (cn ((σ (1031 + i) n) - (σ (1031 + i) n) / 10 * 10))), xx_d]) (by rw [← hc19.1]) ?_
    have hd19 := hc19.2
    refine sw_aload_n O (xx_dt dd_X2_isSignal 13 rfl) rfl ?_
    refine sw_get (v := .ref 1021) O (xx_dt dd_X2_isSignal 14 rfl) cl_X2 fl_X2_17 (ly_1003 σ h) (by decide) rfl ?_
    refine sw_iload_n O (xx_dt dd_X2_isSignal 15 rfl) rfl ?_
    refine sw_aaload (v := .ref (1022 + i)) O (xx_dt dd_X2_isSignal 16 rfl) (by omega) (by omega) (ly_1021 σ h) (pk_in i _ (by omega)) (by rw [nI_clamp (by omega)]; try exact rfl) ?_
    refine sw_iload_n O (xx_dt dd_X2_isSignal 17 rfl) rfl ?_
    refine sw_iaload (v := .int (σ (1022 + i) n)) O (xx_dt dd_X2_isSignal 18 rfl) (lr_1021 σ h (k := i) (by omega)) (pk_in n _ (by omega)) (by rw [nI_clamp (by omega)]; try exact rfl) ?_
    refine sw_iload O (xx_dt dd_X2_isSignal 19 rfl) rfl ?_
    refine sw_callSx (as := [.int (σ (1022 + i) n), .int (nI (cn ((σ (1031 + i) n) - (σ (1031 + i) n) / 10 * 10)))]) (st := []) (st2 := [.int (f_many (σ (1022 + i) n) (cn ((σ (1031 + i) n) - (σ (1031 + i) n) / 10 * 10)))]) O (ct_X0_many hl (c := σ (1022 + i) n) (r := cn ((σ (1031 + i) n) - (σ (1031 + i) n) / 10 * 10)) (by omega)) ce_X0_many ml_X2_54 st_X0_many (xx_dt dd_X2_isSignal 20 rfl) (by first | decide | omega) rfl rfl (Nat.le_of_ble_eq_true rfl) rfl ?_
    refine sw_if_eq (tgt := 40) O (xx_dt dd_X2_isSignal 21 rfl) (by decide) (fun q2 => ?_) (fun q2 => ?_)
    · refine sw_iconst (x := 0) O (xx_dt dd_X2_isSignal 24 rfl) (by decide) ?_
      refine sw_istore (ls2 := [.ref 1003, .ref 1001, .int (nI i), .int (nI n), .int (nI (cn ((σ (1031 + i) n) - (σ (1031 + i) n) / 10 * 10))), .int 0]) O (xx_dt dd_X2_isSignal 25 rfl) (by decide) rfl ?_
      refine sw_forR (R := Int32) (fun i43 s43 => (if (f_areAllies σ i i43) = 0 then .inl () else (if (f_asksFor σ i43 (cn ((σ (1031 + i) n) - (σ (1031 + i) n) / 10 * 10)) cnt) = 0 then .inl () else .inr 1))) (fun _ _ => True) (FR := fun r9 => f_isSignal σ i n R B cnt = r9) (hp := fun _ => setC σ h) (hd := 43) (lc := fun i43 s43 => [.ref 1003, .ref 1001, .int (nI i), .int (nI n), .int (nI (cn ((σ (1031 + i) n) - (σ (1031 + i) n) / 10 * 10))), .int (nI i43)]) (N := B) (fun i43 s43 hi43 hP43 => ⟨fun _ _ => trivial, fun kk43 kr43 => ?_⟩) B 0 () (by omega) (trivial) (fun sN43 eN43 hP43 => ?_) (fun r43 eN43 => ?_)
      · refine sw_iload O (xx_dt dd_X2_isSignal 26 rfl) rfl ?_
        refine sw_aload_n O (xx_dt dd_X2_isSignal 27 rfl) rfl ?_
        refine sw_get (v := .int (nI B)) O (xx_dt dd_X2_isSignal 28 rfl) cl_X6 fl_X2_78 (ly_1001 σ h) (by decide) (congrArg Value.int hB) ?_
        refine sw_icmp_ge (tgt := 81) O (xx_dt dd_X2_isSignal 29 rfl) (by decide) (fun q3 => ?_) (fun q3 => ?_)
        · exact absurd q3 (nI_ge (b := B) hi43 (by omega))
        · refine sw_aload_n O (xx_dt dd_X2_isSignal 30 rfl) rfl ?_
          refine sw_iload_n O (xx_dt dd_X2_isSignal 31 rfl) rfl ?_
          refine sw_iload O (xx_dt dd_X2_isSignal 32 rfl) rfl ?_
          refine sw_callVx (as := [.int (nI i), .int (nI i43)]) (st := []) (st2 := [.int (f_areAllies σ i i43)]) O (ct_X6_areAllies hl (σ := σ) (i := i) (j := i43) (by omega) (by omega)) ce_X6_areAllies ml_X2_125 iv_X6_areAllies cl_X6 rfl (ly_1001 σ h) (xx_dt dd_X2_isSignal 33 rfl) (by first | decide | omega) rfl rfl (Nat.le_of_ble_eq_true rfl) rfl ?_
          refine sw_if_eq (tgt := 75) O (xx_dt dd_X2_isSignal 34 rfl) (by decide) (fun q4 => ?_) (fun q4 => ?_)
          · refine sw_iinc (y := nI (i43 + 1)) (ls2 := [.ref 1003, .ref 1001, .int (nI i), .int (nI n), .int (nI (cn ((σ (1031 + i) n) - (σ (1031 + i) n) / 10 * 10))), .int (nI (i43 + 1))]) O (xx_dt dd_X2_isSignal 42 rfl) rfl (nI_1 _) (by decide) rfl ?_
            refine sw_goto (tgt := 43) O (xx_dt dd_X2_isSignal 43 rfl) (by decide) ?_
            exact kk43 () (by simp only [if_pos q4])
          · refine sw_aload_n O (xx_dt dd_X2_isSignal 35 rfl) rfl ?_
            refine sw_iload O (xx_dt dd_X2_isSignal 36 rfl) rfl ?_
            refine sw_iload O (xx_dt dd_X2_isSignal 37 rfl) rfl ?_
            refine sw_callVx (as := [.int (nI i43), .int (nI (cn ((σ (1031 + i) n) - (σ (1031 + i) n) / 10 * 10)))]) (st := []) (st2 := [.int (f_asksFor σ i43 (cn ((σ (1031 + i) n) - (σ (1031 + i) n) / 10 * 10)) cnt)]) O (ct_X2_asksFor hl (σ := σ) (cnt := cnt) hct (i := i43) (r := cn ((σ (1031 + i) n) - (σ (1031 + i) n) / 10 * 10)) (by omega) (by omega)) ce_X2_asksFor ml_X2_129 iv_X2_asksFor cl_X2 rfl (ly_1003 σ h) (xx_dt dd_X2_isSignal 38 rfl) (by first | decide | omega) rfl rfl (Nat.le_of_ble_eq_true rfl) rfl ?_
            refine sw_if_eq (tgt := 75) O (xx_dt dd_X2_isSignal 39 rfl) (by decide) (fun q5 => ?_) (fun q5 => ?_)
            · refine sw_iinc (y := nI (i43 + 1)) (ls2 := [.ref 1003, .ref 1001, .int (nI i), .int (nI n), .int (nI (cn ((σ (1031 + i) n) - (σ (1031 + i) n) / 10 * 10))), .int (nI (i43 + 1))]) O (xx_dt dd_X2_isSignal 42 rfl) rfl (nI_1 _) (by decide) rfl ?_
              refine sw_goto (tgt := 43) O (xx_dt dd_X2_isSignal 43 rfl) (by decide) ?_
              exact kk43 () (by simp only [if_neg q4, if_pos q5])
            · refine sw_iconst (x := 1) O (xx_dt dd_X2_isSignal 40 rfl) (by decide) ?_
              exact sw_iret O (xx_dt dd_X2_isSignal 41 rfl) rfl rfl (by rw [hQ, kr43 1 (by simp only [if_neg q4, if_neg q5])]; exact ⟨rfl, rfl⟩)
      · show SW Y _ _ (setC σ h) 43 [.ref 1003, .ref 1001, .int (nI i), .int (nI n), .int (nI (cn ((σ (1031 + i) n) - (σ (1031 + i) n) / 10 * 10))), .int (nI B)] []
        refine sw_iload O (xx_dt dd_X2_isSignal 26 rfl) rfl ?_
        refine sw_aload_n O (xx_dt dd_X2_isSignal 27 rfl) rfl ?_
        refine sw_get (v := .int (nI B)) O (xx_dt dd_X2_isSignal 28 rfl) cl_X6 fl_X2_78 (ly_1001 σ h) (by decide) (congrArg Value.int hB) ?_
        refine sw_icmp_ge (tgt := 81) O (xx_dt dd_X2_isSignal 29 rfl) (by decide) (fun q3 => ?_) (fun q3 => ?_)
        · refine sw_iconst (x := 0) O (xx_dt dd_X2_isSignal 44 rfl) (by decide) ?_
          exact sw_iret O (xx_dt dd_X2_isSignal 45 rfl) rfl rfl (by rw [hQ]; exact ⟨by unfold f_isSignal; simp only [if_neg q1, if_pos q2, x_isSignal_43, eN43], rfl⟩)
        · exact absurd (Int32.le_refl _) q3
      · unfold f_isSignal; simp only [if_neg q1, if_pos q2, x_isSignal_43, eN43]
    · refine sw_iconst (x := 0) O (xx_dt dd_X2_isSignal 22 rfl) (by decide) ?_
      exact sw_iret O (xx_dt dd_X2_isSignal 23 rfl) rfl rfl (by rw [hQ]; exact ⟨by unfold f_isSignal; simp only [if_neg q1, if_neg q2], rfl⟩)
def x_signals_15 (σ : XS9) (R B : Nat) (cnt : Nat → Nat) (i4 : Nat) (s0 : Int32) : Int32 := xit (fun i15 s15 => (if (f_isSignal σ i4 (1 + i15) R B cnt) = 0 then s15 else s15 + 1)) (cnt i4 - 1) 0 s0
def x_signals_4 (σ : XS9) (R B : Nat) (cnt : Nat → Nat) (s0 : Int32) : Int32 := xit (fun i4 s4 => (x_signals_15 σ R B cnt i4 s4)) B 0 s0
def f_signals (σ : XS9) (R B : Nat) (cnt : Nat → Nat) : Int32 := (x_signals_4 σ R B cnt 0)
theorem ct_X2_signals {l : Launch} {h : XH} (hl : l.stackTraces = false) {σ : XS9} {R : Nat} (hR : σ 1001 4 = nI R) (hR5 : R ≤ 5) {B : Nat} (hB : σ 1001 9 = nI B) (hB6 : B ≤ 6) {cnt : Nat → Nat} (hct : ∀ i, i < 6 → σ 1020 i = nI (cnt i) ∧ cnt i ≤ 6) (ham : ∀ i k, i < 6 → k < 6 → 0 ≤ σ (1031 + i) k)  : XEx l m_X2_signals 3 0 0 [.ref 1003, .ref 1001] (setC σ h) (some (.int (f_signals σ R B cnt))) (setC σ h) := by
  refine XMet.of hl rfl rfl (Nat.le_of_ble_eq_true rfl) (fun Y O hh hQ => ?_)
  show SW Y 0 0 (setC σ h) 0 [.ref 1003, .ref 1001, xx_d, xx_d, xx_d] []
  refine sw_iconst (x := 0) O (xx_dt dd_X2_signals 0 rfl) (by decide) ?_
  refine sw_istore_n (ls2 := [.ref 1003, .ref 1001, .int 0, xx_d, xx_d]) O (xx_dt dd_X2_signals 1 rfl) (by decide) rfl ?_
  refine sw_iconst (x := 0) O (xx_dt dd_X2_signals 2 rfl) (by decide) ?_
  refine sw_istore_n (ls2 := [.ref 1003, .ref 1001, .int 0, .int 0, xx_d]) O (xx_dt dd_X2_signals 3 rfl) (by decide) rfl ?_
  refine sw_for (fun i4 s4 => (x_signals_15 σ R B cnt i4 s4)) (fun _ _ => True) (hp := fun _ => setC σ h) (hd := 4) (lc := fun i4 s4 => [.ref 1003, .ref 1001, .int s4, .int (nI i4), xx_d]) (N := B) (fun i4 s4 hi4 hP4 => ⟨trivial, fun kk4 => ?_⟩) B 0 0 (by omega) (trivial) (fun hP4 => ?_)
  · refine sw_iload_n O (xx_dt dd_X2_signals 4 rfl) rfl ?_
    refine sw_aload_n O (xx_dt dd_X2_signals 5 rfl) rfl ?_
    refine sw_get (v := .int (nI B)) O (xx_dt dd_X2_signals 6 rfl) cl_X6 fl_X2_78 (ly_1001 σ h) (by decide) (congrArg Value.int hB) ?_
    refine sw_icmp_ge (tgt := 52) O (xx_dt dd_X2_signals 7 rfl) (by decide) (fun q1 => ?_) (fun q1 => ?_)
    · exact absurd q1 (nI_ge (b := B) hi4 (by omega))
    · refine sw_iconst (x := 1) O (xx_dt dd_X2_signals 8 rfl) (by decide) ?_
      refine sw_istore (ls2 := [.ref 1003, .ref 1001, .int s4, .int (nI i4), .int 1]) O (xx_dt dd_X2_signals 9 rfl) (by decide) rfl ?_
      refine sw_for (fun i15 s15 => (if (f_isSignal σ i4 (1 + i15) R B cnt) = 0 then s15 else s15 + 1)) (fun _ _ => True) (hp := fun _ => setC σ h) (hd := 15) (lc := fun i15 s15 => [.ref 1003, .ref 1001, .int s15, .int (nI i4), .int (nI (1 + i15))]) (N := (cnt i4 - 1)) (fun i15 s15 hi15 hP15 => ⟨trivial, fun kk15 => ?_⟩) (cnt i4 - 1) 0 s4 (by omega) (trivial) (fun hP15 => ?_)
      · refine sw_iload O (xx_dt dd_X2_signals 10 rfl) rfl ?_
        refine sw_aload_n O (xx_dt dd_X2_signals 11 rfl) rfl ?_
        refine sw_get (v := .ref 1020) O (xx_dt dd_X2_signals 12 rfl) cl_X2 fl_X2_9 (ly_1003 σ h) (by decide) rfl ?_
        refine sw_iload_n O (xx_dt dd_X2_signals 13 rfl) rfl ?_
        have hz22 := (hct i4 (by omega)).2
        refine sw_iaload (v := .int (nI (cnt i4))) O (xx_dt dd_X2_signals 14 rfl) (ly_1020 σ h) (pk_in i4 _ (by omega)) (by rw [nI_clamp (by omega)]; exact (congrArg Value.int (hct i4 (by omega)).1)) ?_
        refine sw_icmp_ge (tgt := 46) O (xx_dt dd_X2_signals 15 rfl) (by decide) (fun q2 => ?_) (fun q2 => ?_)
        · exact absurd q2 (nI_ge (a := 1 + i15) (b := (cnt i4)) (by omega) (by omega))
        · refine sw_aload_n O (xx_dt dd_X2_signals 16 rfl) rfl ?_
          refine sw_aload_n O (xx_dt dd_X2_signals 17 rfl) rfl ?_
          refine sw_iload_n O (xx_dt dd_X2_signals 18 rfl) rfl ?_
          refine sw_iload O (xx_dt dd_X2_signals 19 rfl) rfl ?_
          refine sw_callVx (as := [.ref 1001, .int (nI i4), .int (nI (1 + i15))]) (st := []) (st2 := [.int (f_isSignal σ i4 (1 + i15) R B cnt)]) O (ct_X2_isSignal hl (σ := σ) (R := R) hR (by omega) (B := B) hB (by omega) (cnt := cnt) hct ham (i := i4) (n := 1 + i15) (by omega) (by omega)) ce_X2_isSignal ml_X2_122 iv_X2_isSignal cl_X2 rfl (ly_1003 σ h) (xx_dt dd_X2_signals 20 rfl) (by first | decide | omega) rfl rfl (Nat.le_of_ble_eq_true rfl) rfl ?_
          refine sw_if_eq (tgt := 40) O (xx_dt dd_X2_signals 21 rfl) (by decide) (fun q3 => ?_) (fun q3 => ?_)
          · refine sw_iinc (y := nI (1 + i15 + 1)) (ls2 := [.ref 1003, .ref 1001, .int s15, .int (nI i4), .int (nI (1 + i15 + 1))]) O (xx_dt dd_X2_signals 23 rfl) rfl (nI_1 _) (by decide) rfl ?_
            refine sw_goto (tgt := 15) O (xx_dt dd_X2_signals 24 rfl) (by decide) ?_
            simp only [if_pos q3] at kk15
            exact kk15
          · refine sw_iinc (y := s15 + 1) (ls2 := [.ref 1003, .ref 1001, .int (s15 + 1), .int (nI i4), .int (nI (1 + i15))]) O (xx_dt dd_X2_signals 22 rfl) rfl rfl (by decide) rfl ?_
            refine sw_iinc (y := nI (1 + i15 + 1)) (ls2 := [.ref 1003, .ref 1001, .int (s15 + 1), .int (nI i4), .int (nI (1 + i15 + 1))]) O (xx_dt dd_X2_signals 23 rfl) rfl (nI_1 _) (by decide) rfl ?_
            refine sw_goto (tgt := 15) O (xx_dt dd_X2_signals 24 rfl) (by decide) ?_
            simp only [if_neg q3] at kk15
            exact kk15
      · show SW Y _ _ (setC σ h) 15 [.ref 1003, .ref 1001, .int (x_signals_15 σ R B cnt i4 s4), .int (nI i4), .int (nI (1 + (cnt i4 - 1)))] []
        refine sw_iload O (xx_dt dd_X2_signals 10 rfl) rfl ?_
        refine sw_aload_n O (xx_dt dd_X2_signals 11 rfl) rfl ?_
        refine sw_get (v := .ref 1020) O (xx_dt dd_X2_signals 12 rfl) cl_X2 fl_X2_9 (ly_1003 σ h) (by decide) rfl ?_
        refine sw_iload_n O (xx_dt dd_X2_signals 13 rfl) rfl ?_
        have hz22 := (hct i4 (by omega)).2
        refine sw_iaload (v := .int (nI (cnt i4))) O (xx_dt dd_X2_signals 14 rfl) (ly_1020 σ h) (pk_in i4 _ (by omega)) (by rw [nI_clamp (by omega)]; exact (congrArg Value.int (hct i4 (by omega)).1)) ?_
        refine sw_icmp_ge (tgt := 46) O (xx_dt dd_X2_signals 15 rfl) (by decide) (fun q2 => ?_) (fun q2 => ?_)
        · refine sw_iinc (y := nI (i4 + 1)) (ls2 := [.ref 1003, .ref 1001, .int (x_signals_15 σ R B cnt i4 s4), .int (nI (i4 + 1)), .int (nI (1 + (cnt i4 - 1)))]) O (xx_dt dd_X2_signals 25 rfl) rfl (nI_1 _) (by decide) rfl ?_
          refine sw_goto (tgt := 4) O (xx_dt dd_X2_signals 26 rfl) (by decide) ?_
          refine sw_dum (ls2 := [.ref 1003, .ref 1001, .int (x_signals_15 σ R B cnt i4 s4), .int (nI (i4 + 1)), xx_d]) ⟨.inr rfl, .inr rfl, .inr rfl, .inr rfl, .inl rfl, trivial⟩ ?_
          exact kk4
        · exact absurd ((nI_leI (a := (cnt i4)) (b := 1 + (cnt i4 - 1)) (by omega) (by omega)).mpr (by omega)) q2
  · show SW Y _ _ (setC σ h) 4 [.ref 1003, .ref 1001, .int (x_signals_4 σ R B cnt 0), .int (nI B), xx_d] []
    refine sw_iload_n O (xx_dt dd_X2_signals 4 rfl) rfl ?_
    refine sw_aload_n O (xx_dt dd_X2_signals 5 rfl) rfl ?_
    refine sw_get (v := .int (nI B)) O (xx_dt dd_X2_signals 6 rfl) cl_X6 fl_X2_78 (ly_1001 σ h) (by decide) (congrArg Value.int hB) ?_
    refine sw_icmp_ge (tgt := 52) O (xx_dt dd_X2_signals 7 rfl) (by decide) (fun q1 => ?_) (fun q1 => ?_)
    · refine sw_iload_n O (xx_dt dd_X2_signals 27 rfl) rfl ?_
      exact sw_iret O (xx_dt dd_X2_signals 28 rfl) rfl rfl (by rw [hQ]; exact ⟨by unfold f_signals; rfl, rfl⟩)
    · exact absurd (Int32.le_refl _) q1
end
section
/-! ===== the market: all choices ===== -/
theorem fr_keepIfBetter {σ : XS9} {S : Nat} {x : Int32} {q : Nat} (h : q ≠ 1042 ∧ q ≠ 1051 + S) : g_keepIfBetter σ S x q = σ q := by
  unfold g_keepIfBetter
  (repeat' split) <;> first | rfl | simp (disch := omega) only [u2_ne, uR_ne]
/-! a choice is under way -/
def x_pickStep_45 (σ : XS9) (g_rec : XS9 → Nat → Int32 → XS9) (i fx S : Nat) (x : Int32) (R B : Nat) (gr cnt : Nat → Nat) (s0 : XS9) : XS9 := xit (fun i45 s45 => (if (f_fits s45 i (s45 (1022 + i) i45) R gr) = 0 then s45 else g_giveBack (g_rec (g_take s45 i i45 R gr) (S ||| 2 ^ i) (x + (s45 (1031 + i) i45))) i i45 R gr)) (cnt i) 0 s0
def g_pickStep (σ : XS9) (g_rec : XS9 → Nat → Int32 → XS9) (i fx S : Nat) (x : Int32) (R B : Nat) (gr cnt : Nat → Nat) : XS9 := (if (nI B) ≤ (nI i) then g_keepIfBetter σ S x else (if (nI i) = (nI fx) then g_rec σ S x else (x_pickStep_45 σ g_rec i fx S x R B gr cnt (g_rec σ S x))))
theorem ct_X2_pickStep {l : Launch} {h : XH} (hl : l.stackTraces = false) {σ : XS9} {g_rec : XS9 → Nat → Int32 → XS9} (fr_rec : ∀ {σ : XS9} {S : Nat} {x : Int32} {q : Nat}, (S < 64 ∧ q ≠ 1042 ∧ q ≠ 1043 ∧ q ≠ 1044 ∧ (q < 1051 ∨ 1114 < q) ∧ (q < 1121 ∨ 1124 < q)) → g_rec σ S x q = σ q) {i fx S : Nat} {x : Int32} (hi : i < 6) (hf : fx < 6) (hS : S < 64) (hor : S ||| 2 ^ i < 64) {B : Nat} (hB : σ 1001 9 = nI B) (hB6 : B ≤ 6) {R : Nat} (hR : σ 1001 4 = nI R) (hR5 : R ≤ 5) {gr : Nat → Nat} (hgr : ∀ i, i < 6 → σ 1017 i = nI (gr i) ∧ gr i < 4) {cnt : Nat → Nat} (hct : ∀ i, i < 6 → σ 1020 i = nI (cnt i) ∧ cnt i ≤ 6) {d0 : Nat} (hd0 : 2 ≤ d0) (ih : ∀ (σ : XS9) (S : Nat) (y x : Int32), y = nI S → S < 64 → σ 1001 9 = nI B → σ 1001 4 = nI R → (∀ i, i < 6 → σ 1017 i = nI (gr i) ∧ gr i < 4) → (∀ i, i < 6 → σ 1020 i = nI (cnt i) ∧ cnt i ≤ 6) → XEx l m_X2_pickFrom d0 0 0 [.ref 1003, .ref 1001, .int (nI (i + 1)), .int (nI fx), .int y, .int x] (setC σ h) none (setC (g_rec σ S x) h)) : XEx l m_X2_pickFrom (d0 + 1) 0 0 [.ref 1003, .ref 1001, .int (nI i), .int (nI fx), .int (nI S), .int x] (setC σ h) (none) (setC (g_pickStep σ g_rec i fx S x R B gr cnt) h) := by
  refine XMet.of hl rfl rfl (Nat.le_of_ble_eq_true rfl) (fun Y O hh hQ => ?_)
  show SW Y 0 0 (setC σ h) 0 [.ref 1003, .ref 1001, .int (nI i), .int (nI fx), .int (nI S), .int x, xx_d] []
  refine sw_iload_n O (xx_dt dd_X2_pickFrom 0 rfl) rfl ?_
  refine sw_aload_n O (xx_dt dd_X2_pickFrom 1 rfl) rfl ?_
  refine sw_get (v := .int (nI B)) O (xx_dt dd_X2_pickFrom 2 rfl) cl_X6 fl_X2_78 (ly_1001 σ h) (by decide) (congrArg Value.int hB) ?_
  refine sw_icmp_ge (tgt := 14) O (xx_dt dd_X2_pickFrom 3 rfl) (by decide) (fun q1 => ?_) (fun q1 => ?_)
  · refine sw_aload_n O (xx_dt dd_X2_pickFrom 7 rfl) rfl ?_
    refine sw_iload O (xx_dt dd_X2_pickFrom 8 rfl) rfl ?_
    refine sw_iload O (xx_dt dd_X2_pickFrom 9 rfl) rfl ?_
    refine sw_callVx (as := [.int (nI S), .int x]) (st := []) (st2 := []) O (ct_X2_keepIfBetter hl (σ := σ) (S := S) (x := x) (by omega)) ce_X2_keepIfBetter ml_X2_83 iv_X2_keepIfBetter cl_X2 rfl (ly_1003 σ h) (xx_dt dd_X2_pickFrom 10 rfl) (by first | decide | omega) rfl rfl (Nat.le_of_ble_eq_true rfl) rfl ?_
    exact sw_ret O (xx_dt dd_X2_pickFrom 11 rfl) rfl (by rw [hQ]; exact ⟨rfl, by unfold g_pickStep; simp only [if_pos q1]⟩)
  · refine sw_iload_n O (xx_dt dd_X2_pickFrom 4 rfl) rfl ?_
    refine sw_bipush (x := 6) O (xx_dt dd_X2_pickFrom 5 rfl) (by decide) ?_
    refine sw_icmp_lt (tgt := 23) O (xx_dt dd_X2_pickFrom 6 rfl) (by decide) (fun q2 => ?_) (fun q2 => ?_)
    · refine sw_aload_n O (xx_dt dd_X2_pickFrom 12 rfl) rfl ?_
      refine sw_aload_n O (xx_dt dd_X2_pickFrom 13 rfl) rfl ?_
      refine sw_iload_n O (xx_dt dd_X2_pickFrom 14 rfl) rfl ?_
      refine sw_iconst (x := 1) O (xx_dt dd_X2_pickFrom 15 rfl) (by decide) ?_
      refine sw_iadd O (xx_dt dd_X2_pickFrom 16 rfl) ?_
      rw [nI_a1 i]
      refine sw_iload_n O (xx_dt dd_X2_pickFrom 17 rfl) rfl ?_
      refine sw_iload O (xx_dt dd_X2_pickFrom 18 rfl) rfl ?_
      refine sw_iload O (xx_dt dd_X2_pickFrom 19 rfl) rfl ?_
      refine sw_callSx (as := [.ref 1003, .ref 1001, .int (nI (i + 1)), .int (nI fx), .int (nI S), .int x]) (st := []) (st2 := []) O (ih (σ) S (nI S) x rfl (by omega) (hB) (hR) hgr hct) ce_X2_pickFrom ml_X2_68 st_X2_pickFrom (xx_dt dd_X2_pickFrom 20 rfl) (by first | decide | omega) rfl rfl (Nat.le_of_ble_eq_true rfl) rfl ?_
      refine sw_iload_n O (xx_dt dd_X2_pickFrom 21 rfl) rfl ?_
      refine sw_iload_n O (xx_dt dd_X2_pickFrom 22 rfl) rfl ?_
      refine sw_icmp_ne (tgt := 42) O (xx_dt dd_X2_pickFrom 23 rfl) (by decide) (fun q3 => ?_) (fun q3 => ?_)
      · refine sw_iconst (x := 0) O (xx_dt dd_X2_pickFrom 25 rfl) (by decide) ?_
        refine sw_istore (ls2 := [.ref 1003, .ref 1001, .int (nI i), .int (nI fx), .int (nI S), .int x, .int 0]) O (xx_dt dd_X2_pickFrom 26 rfl) (by decide) rfl ?_
        refine sw_for (fun i45 s45 => (if (f_fits s45 i (s45 (1022 + i) i45) R gr) = 0 then s45 else g_giveBack (g_rec (g_take s45 i i45 R gr) (S ||| 2 ^ i) (x + (s45 (1031 + i) i45))) i i45 R gr)) (fun _ s45 => s45 1001 4 = nI R ∧ s45 1001 9 = nI B ∧ s45 1017 = σ 1017 ∧ s45 1020 = σ 1020) (hp := fun s45 => setC s45 h) (hd := 45) (lc := fun i45 s45 => [.ref 1003, .ref 1001, .int (nI i), .int (nI fx), .int (nI S), .int x, .int (nI i45)]) (N := (cnt i)) (fun i45 s45 hi45 hP45 => ⟨(by (try dsimp only); (repeat' split) <;> (refine ⟨?_, ?_, ?_, ?_⟩ <;> (first | exact hP45.1 | exact hP45.2.1 | exact hP45.2.2.1 | exact hP45.2.2.2 | exact hi45 | exact .inl rfl | exact .inr rfl | (simp (disch := omega) only [u2_ne, uR_ne, fr_fill, fr_useWaiver, fr_undoContradictions, fr_lowerEligible, fr_moveHeld, fr_raisePrices, fr_begin, fr_closeRound, fr_moveTaken, fr_findDisturbed, fr_addRegion, fr_addBidder, fr_take, fr_giveBack, fr_keepIfBetter, fr_rec]; first | exact hP45.1 | exact hP45.2.1 | exact hP45.2.2.1 | exact hP45.2.2.2)))), fun kk45 => ?_⟩) (cnt i) 0 (g_rec σ S x) (by omega) (⟨((congrFun (fr_rec (by omega)) 4).trans hR), ((congrFun (fr_rec (by omega)) 9).trans hB), (fr_rec (by omega)), (fr_rec (by omega))⟩) (fun hP45 => ?_)
        · refine sw_iload O (xx_dt dd_X2_pickFrom 27 rfl) rfl ?_
          refine sw_aload_n O (xx_dt dd_X2_pickFrom 28 rfl) rfl ?_
          refine sw_get (v := .ref 1020) O (xx_dt dd_X2_pickFrom 29 rfl) cl_X2 fl_X2_9 (ly_1003 s45 h) (by decide) rfl ?_
          refine sw_iload_n O (xx_dt dd_X2_pickFrom 30 rfl) rfl ?_
          have hz52 := (hct i (by omega)).2
          refine sw_iaload (v := .int (nI (cnt i))) O (xx_dt dd_X2_pickFrom 31 rfl) (ly_1020 s45 h) (pk_in i _ (by omega)) (by rw [nI_clamp (by omega)]; exact (congrArg Value.int ((congrFun hP45.2.2.2 i).trans (hct i (by omega)).1))) ?_
          refine sw_icmp_ge (tgt := 123) O (xx_dt dd_X2_pickFrom 32 rfl) (by decide) (fun q4 => ?_) (fun q4 => ?_)
          · exact absurd q4 (nI_ge (b := (cnt i)) hi45 (by omega))
          · refine sw_aload_n O (xx_dt dd_X2_pickFrom 33 rfl) rfl ?_
            refine sw_aload_n O (xx_dt dd_X2_pickFrom 34 rfl) rfl ?_
            refine sw_iload_n O (xx_dt dd_X2_pickFrom 35 rfl) rfl ?_
            refine sw_aload_n O (xx_dt dd_X2_pickFrom 36 rfl) rfl ?_
            refine sw_get (v := .ref 1021) O (xx_dt dd_X2_pickFrom 37 rfl) cl_X2 fl_X2_17 (ly_1003 s45 h) (by decide) rfl ?_
            refine sw_iload_n O (xx_dt dd_X2_pickFrom 38 rfl) rfl ?_
            refine sw_aaload (v := .ref (1022 + i)) O (xx_dt dd_X2_pickFrom 39 rfl) (by omega) (by omega) (ly_1021 s45 h) (pk_in i _ (by omega)) (by rw [nI_clamp (by omega)]; try exact rfl) ?_
            refine sw_iload O (xx_dt dd_X2_pickFrom 40 rfl) rfl ?_
            refine sw_iaload (v := .int (s45 (1022 + i) i45)) O (xx_dt dd_X2_pickFrom 41 rfl) (lr_1021 s45 h (k := i) (by omega)) (pk_in i45 _ (by omega)) (by rw [nI_clamp (by omega)]; try exact rfl) ?_
            refine sw_callVx (as := [.ref 1001, .int (nI i), .int (s45 (1022 + i) i45)]) (st := []) (st2 := [.int (f_fits s45 i (s45 (1022 + i) i45) R gr)]) O (ct_X2_fits hl (σ := s45) (R := R) hP45.1 (by omega) (gr := gr) (fun j9 hj9 => by rw [show s45 1017 = σ 1017 from hP45.2.2.1]; exact hgr j9 hj9) (i := i) (x := s45 (1022 + i) i45) (by omega)) ce_X2_fits ml_X2_60 iv_X2_fits cl_X2 rfl (ly_1003 s45 h) (xx_dt dd_X2_pickFrom 42 rfl) (by first | decide | omega) rfl rfl (Nat.le_of_ble_eq_true rfl) rfl ?_
            refine sw_if_eq (tgt := 117) O (xx_dt dd_X2_pickFrom 43 rfl) (by decide) (fun q5 => ?_) (fun q5 => ?_)
            · refine sw_iinc (y := nI (i45 + 1)) (ls2 := [.ref 1003, .ref 1001, .int (nI i), .int (nI fx), .int (nI S), .int x, .int (nI (i45 + 1))]) O (xx_dt dd_X2_pickFrom 74 rfl) rfl (nI_1 _) (by decide) rfl ?_
              refine sw_goto (tgt := 45) O (xx_dt dd_X2_pickFrom 75 rfl) (by decide) ?_
              simp only [if_pos q5] at kk45
              exact kk45
            · refine sw_aload_n O (xx_dt dd_X2_pickFrom 44 rfl) rfl ?_
              refine sw_aload_n O (xx_dt dd_X2_pickFrom 45 rfl) rfl ?_
              refine sw_iload_n O (xx_dt dd_X2_pickFrom 46 rfl) rfl ?_
              refine sw_iload O (xx_dt dd_X2_pickFrom 47 rfl) rfl ?_
              refine sw_callVx (as := [.ref 1001, .int (nI i), .int (nI i45)]) (st := []) (st2 := []) O (ct_X2_take hl (σ := s45) (R := R) hP45.1 (by omega) (gr := gr) (fun j9 hj9 => by rw [show s45 1017 = σ 1017 from hP45.2.2.1]; exact hgr j9 hj9) (i := i) (n := i45) (by omega) (by omega)) ce_X2_take ml_X2_64 iv_X2_take cl_X2 rfl (ly_1003 s45 h) (xx_dt dd_X2_pickFrom 48 rfl) (by first | decide | omega) rfl rfl (Nat.le_of_ble_eq_true rfl) rfl ?_
              refine sw_aload_n O (xx_dt dd_X2_pickFrom 49 rfl) rfl ?_
              refine sw_aload_n O (xx_dt dd_X2_pickFrom 50 rfl) rfl ?_
              refine sw_iload_n O (xx_dt dd_X2_pickFrom 51 rfl) rfl ?_
              refine sw_iconst (x := 1) O (xx_dt dd_X2_pickFrom 52 rfl) (by decide) ?_
              refine sw_iadd O (xx_dt dd_X2_pickFrom 53 rfl) ?_
              rw [nI_a1 i]
              refine sw_iload_n O (xx_dt dd_X2_pickFrom 54 rfl) rfl ?_
              refine sw_iload O (xx_dt dd_X2_pickFrom 55 rfl) rfl ?_
              refine sw_iconst (x := 1) O (xx_dt dd_X2_pickFrom 56 rfl) (by decide) ?_
              refine sw_iload_n O (xx_dt dd_X2_pickFrom 57 rfl) rfl ?_
              refine sw_ishl O (xx_dt dd_X2_pickFrom 58 rfl) ?_
              refine sw_ior O (xx_dt dd_X2_pickFrom 59 rfl) ?_
              refine sw_iload O (xx_dt dd_X2_pickFrom 60 rfl) rfl ?_
              refine sw_aload_n O (xx_dt dd_X2_pickFrom 61 rfl) rfl ?_
              refine sw_get (v := .ref 1030) O (xx_dt dd_X2_pickFrom 62 rfl) cl_X2 fl_X2_20 (ly_1003 (g_take s45 i i45 R gr) h) (by decide) rfl ?_
              refine sw_iload_n O (xx_dt dd_X2_pickFrom 63 rfl) rfl ?_
              refine sw_aaload (v := .ref (1031 + i)) O (xx_dt dd_X2_pickFrom 64 rfl) (by omega) (by omega) (ly_1030 (g_take s45 i i45 R gr) h) (pk_in i _ (by omega)) (by rw [nI_clamp (by omega)]; try exact rfl) ?_
              refine sw_iload O (xx_dt dd_X2_pickFrom 65 rfl) rfl ?_
              refine sw_iaload (v := .int (s45 (1031 + i) i45)) O (xx_dt dd_X2_pickFrom 66 rfl) (lr_1030 (g_take s45 i i45 R gr) h (k := i) (by omega)) (pk_in i45 _ (by omega)) (by rw [nI_clamp (by omega)]; exact (congrArg Value.int (congrFun (fr_take (by omega)) i45))) ?_
              refine sw_iadd O (xx_dt dd_X2_pickFrom 67 rfl) ?_
              refine sw_callSx (as := [.ref 1003, .ref 1001, .int (nI (i + 1)), .int (nI fx), .int ((nI S) ||| (1 <<< ((nI i) &&& 31))), .int (x + (s45 (1031 + i) i45))]) (st := []) (st2 := []) O (ih (g_take s45 i i45 R gr) (S ||| 2 ^ i) ((nI S) ||| (1 <<< ((nI i) &&& 31))) (x + (s45 (1031 + i) i45)) (or_bit (S := S) (i := i) (by omega) (by omega)) (or_bit_lt (by omega) (by omega)) (((congrFun (fr_take (by omega)) 9).trans hP45.2.1)) (((congrFun (fr_take (by omega)) 4).trans hP45.1)) (fun j9 hj9 => by rw [show (g_take s45 i i45 R gr) 1017 = σ 1017 from ((fr_take (by omega)).trans hP45.2.2.1)]; exact hgr j9 hj9) (fun j9 hj9 => by rw [show (g_take s45 i i45 R gr) 1020 = σ 1020 from ((fr_take (by omega)).trans hP45.2.2.2)]; exact hct j9 hj9)) ce_X2_pickFrom ml_X2_68 st_X2_pickFrom (xx_dt dd_X2_pickFrom 68 rfl) (by first | decide | omega) rfl rfl (Nat.le_of_ble_eq_true rfl) rfl ?_
              refine sw_aload_n O (xx_dt dd_X2_pickFrom 69 rfl) rfl ?_
              refine sw_aload_n O (xx_dt dd_X2_pickFrom 70 rfl) rfl ?_
              refine sw_iload_n O (xx_dt dd_X2_pickFrom 71 rfl) rfl ?_
              refine sw_iload O (xx_dt dd_X2_pickFrom 72 rfl) rfl ?_
              refine sw_callVx (as := [.ref 1001, .int (nI i), .int (nI i45)]) (st := []) (st2 := []) O (ct_X2_giveBack hl (σ := g_rec (g_take s45 i i45 R gr) (S ||| 2 ^ i) (x + (s45 (1031 + i) i45))) (R := R) (((congrFun (fr_rec (by omega)) 4).trans (congrFun (fr_take (by omega)) 4)).trans hP45.1) (by omega) (gr := gr) (fun j9 hj9 => by rw [show (g_rec (g_take s45 i i45 R gr) (S ||| 2 ^ i) (x + (s45 (1031 + i) i45))) 1017 = σ 1017 from (((fr_rec (by omega)).trans (fr_take (by omega))).trans hP45.2.2.1)]; exact hgr j9 hj9) (i := i) (n := i45) (by omega) (by omega)) ce_X2_giveBack ml_X2_72 iv_X2_giveBack cl_X2 rfl (ly_1003 (g_rec (g_take s45 i i45 R gr) (S ||| 2 ^ i) (x + (s45 (1031 + i) i45))) h) (xx_dt dd_X2_pickFrom 73 rfl) (by first | decide | omega) rfl rfl (Nat.le_of_ble_eq_true rfl) rfl ?_
              refine sw_iinc (y := nI (i45 + 1)) (ls2 := [.ref 1003, .ref 1001, .int (nI i), .int (nI fx), .int (nI S), .int x, .int (nI (i45 + 1))]) O (xx_dt dd_X2_pickFrom 74 rfl) rfl (nI_1 _) (by decide) rfl ?_
              refine sw_goto (tgt := 45) O (xx_dt dd_X2_pickFrom 75 rfl) (by decide) ?_
              simp only [if_neg q5] at kk45
              exact kk45
        · show SW Y _ _ (setC (x_pickStep_45 σ g_rec i fx S x R B gr cnt (g_rec σ S x)) h) 45 [.ref 1003, .ref 1001, .int (nI i), .int (nI fx), .int (nI S), .int x, .int (nI ((cnt i)))] []
          have hP45 : (x_pickStep_45 σ g_rec i fx S x R B gr cnt (g_rec σ S x)) 1001 4 = nI R ∧ (x_pickStep_45 σ g_rec i fx S x R B gr cnt (g_rec σ S x)) 1001 9 = nI B ∧ (x_pickStep_45 σ g_rec i fx S x R B gr cnt (g_rec σ S x)) 1017 = σ 1017 ∧ (x_pickStep_45 σ g_rec i fx S x R B gr cnt (g_rec σ S x)) 1020 = σ 1020 := hP45
          refine sw_iload O (xx_dt dd_X2_pickFrom 27 rfl) rfl ?_
          refine sw_aload_n O (xx_dt dd_X2_pickFrom 28 rfl) rfl ?_
          refine sw_get (v := .ref 1020) O (xx_dt dd_X2_pickFrom 29 rfl) cl_X2 fl_X2_9 (ly_1003 (x_pickStep_45 σ g_rec i fx S x R B gr cnt (g_rec σ S x)) h) (by decide) rfl ?_
          refine sw_iload_n O (xx_dt dd_X2_pickFrom 30 rfl) rfl ?_
          have hz52 := (hct i (by omega)).2
          refine sw_iaload (v := .int (nI (cnt i))) O (xx_dt dd_X2_pickFrom 31 rfl) (ly_1020 (x_pickStep_45 σ g_rec i fx S x R B gr cnt (g_rec σ S x)) h) (pk_in i _ (by omega)) (by rw [nI_clamp (by omega)]; exact (congrArg Value.int ((congrFun hP45.2.2.2 i).trans (hct i (by omega)).1))) ?_
          refine sw_icmp_ge (tgt := 123) O (xx_dt dd_X2_pickFrom 32 rfl) (by decide) (fun q4 => ?_) (fun q4 => ?_)
          · exact sw_ret O (xx_dt dd_X2_pickFrom 76 rfl) rfl (by rw [hQ]; exact ⟨rfl, by unfold g_pickStep; simp only [if_neg q1, if_neg q3]⟩)
          · exact absurd (Int32.le_refl _) q4
      · exact sw_ret O (xx_dt dd_X2_pickFrom 24 rfl) rfl (by rw [hQ]; exact ⟨rfl, by unfold g_pickStep; simp only [if_neg q1, if_pos q3]⟩)
    · exact absurd q2 (fun e => e (nI_lt (a := i) (b := 6) (by omega) (by omega)))
def g_pickBase (σ : XS9) (fx S : Nat) (x : Int32) (B : Nat) : XS9 := g_keepIfBetter σ S x
theorem ct_X2_pickBase {l : Launch} {h : XH} (hl : l.stackTraces = false) {σ : XS9} {fx S : Nat} {x : Int32} (hf : fx < 6) (hS : S < 64) {B : Nat} (hB : σ 1001 9 = nI B) (hB6 : B ≤ 6)  : XEx l m_X2_pickFrom 2 0 0 [.ref 1003, .ref 1001, .int (nI 6), .int (nI fx), .int (nI S), .int x] (setC σ h) (none) (setC (g_pickBase σ fx S x B) h) := by
  refine XMet.of hl rfl rfl (Nat.le_of_ble_eq_true rfl) (fun Y O hh hQ => ?_)
  show SW Y 0 0 (setC σ h) 0 [.ref 1003, .ref 1001, .int (nI 6), .int (nI fx), .int (nI S), .int x, xx_d] []
  refine sw_iload_n O (xx_dt dd_X2_pickFrom 0 rfl) rfl ?_
  refine sw_aload_n O (xx_dt dd_X2_pickFrom 1 rfl) rfl ?_
  refine sw_get (v := .int (nI B)) O (xx_dt dd_X2_pickFrom 2 rfl) cl_X6 fl_X2_78 (ly_1001 σ h) (by decide) (congrArg Value.int hB) ?_
  refine sw_icmp_ge (tgt := 14) O (xx_dt dd_X2_pickFrom 3 rfl) (by decide) (fun q1 => ?_) (fun q1 => ?_)
  · refine sw_aload_n O (xx_dt dd_X2_pickFrom 7 rfl) rfl ?_
    refine sw_iload O (xx_dt dd_X2_pickFrom 8 rfl) rfl ?_
    refine sw_iload O (xx_dt dd_X2_pickFrom 9 rfl) rfl ?_
    refine sw_callVx (as := [.int (nI S), .int x]) (st := []) (st2 := []) O (ct_X2_keepIfBetter hl (σ := σ) (S := S) (x := x) (by omega)) ce_X2_keepIfBetter ml_X2_83 iv_X2_keepIfBetter cl_X2 rfl (ly_1003 σ h) (xx_dt dd_X2_pickFrom 10 rfl) (by first | decide | omega) rfl rfl (Nat.le_of_ble_eq_true rfl) rfl ?_
    exact sw_ret O (xx_dt dd_X2_pickFrom 11 rfl) rfl (by rw [hQ]; exact ⟨rfl, by unfold g_pickBase; rfl⟩)
  · exact absurd q1 (fun e => e ((nI_leI (a := B) (b := 6) (by omega) (by omega)).mpr hB6))
theorem fr_pickStep {σ : XS9} {g_rec : XS9 → Nat → Int32 → XS9} (fr_rec : ∀ {σ : XS9} {S : Nat} {x : Int32} {q : Nat}, (S < 64 ∧ q ≠ 1042 ∧ q ≠ 1043 ∧ q ≠ 1044 ∧ (q < 1051 ∨ 1114 < q) ∧ (q < 1121 ∨ 1124 < q)) → g_rec σ S x q = σ q) {i fx S : Nat} {x : Int32} {R B : Nat} {gr cnt : Nat → Nat} (hg : gr i < 4) (hS : S < 64) (hor : S ||| 2 ^ i < 64) {q : Nat} (h : q ≠ 1042 ∧ q ≠ 1043 ∧ q ≠ 1044 ∧ (q < 1051 ∨ 1114 < q) ∧ (q < 1121 ∨ 1124 < q)) : g_pickStep σ g_rec i fx S x R B gr cnt q = σ q := by
  have H0 : ∀ s0, (x_pickStep_45 σ g_rec i fx S x R B gr cnt s0) q = s0 q := fun s0 => xit_keep (fun s : XS9 => s q) (fun i s => by (try dsimp only); (repeat' split) <;> first | rfl | simp (disch := omega) only [fr_rec, fr_take, fr_giveBack]) _ _ _
  unfold g_pickStep
  (repeat' split) <;> first | rfl | simp (disch := omega) only [fr_rec, fr_keepIfBetter, H0]
def g_pickFrom (fx R B : Nat) (gr cnt : Nat → Nat) : Nat → Nat → XS9 → Nat → Int32 → XS9
  | 0, _, σ, S, x => g_pickBase σ fx S x B
  | f + 1, i, σ, S, x => g_pickStep σ (fun σ S x => g_pickFrom fx R B gr cnt f (i + 1) σ S x) i fx S x R B gr cnt
theorem fr_pickF {fx R B : Nat} {gr cnt : Nat → Nat} (hg : ∀ i, i < 6 → gr i < 4) : ∀ (f i : Nat), i + f = 6 → ∀ {σ : XS9} {S : Nat} {x : Int32} {q : Nat}, (S < 64 ∧ q ≠ 1042 ∧ q ≠ 1043 ∧ q ≠ 1044 ∧ (q < 1051 ∨ 1114 < q) ∧ (q < 1121 ∨ 1124 < q)) → g_pickFrom fx R B gr cnt f i σ S x q = σ q
  | 0, i, e, σ, S, x, q, h => by
    unfold g_pickFrom g_pickBase
    simp (disch := omega) only [fr_keepIfBetter]
  | f + 1, i, e, σ, S, x, q, h => by
    unfold g_pickFrom
    exact fr_pickStep (fun h' => fr_pickF hg f (i + 1) (by omega) h') (hg i (by omega)) h.1 (or_bit_lt h.1 (by omega)) h.2
theorem ct_pickF {l : Launch} {h : XH} (hl : l.stackTraces = false) {fx R B : Nat} {gr cnt : Nat → Nat} (hf : fx < 6) (hB6 : B ≤ 6) (hR5 : R ≤ 5) : ∀ (f i : Nat), i + f = 6 → ∀ (σ : XS9) (S : Nat) (y x : Int32), y = nI S → S < 64 → σ 1001 9 = nI B → σ 1001 4 = nI R → (∀ i, i < 6 → σ 1017 i = nI (gr i) ∧ gr i < 4) → (∀ i, i < 6 → σ 1020 i = nI (cnt i) ∧ cnt i ≤ 6) → XEx l m_X2_pickFrom (f + 2) 0 0 [.ref 1003, .ref 1001, .int (nI i), .int (nI fx), .int y, .int x] (setC σ h) none (setC (g_pickFrom fx R B gr cnt f i σ S x) h)
  | 0, i, e, σ, S, y, x, hy, hS, hB, hR, hgr, hct => by
    subst hy
    obtain rfl : i = 6 := by omega
    exact ct_X2_pickBase hl hf hS hB hB6
  | f + 1, i, e, σ, S, y, x, hy, hS, hB, hR, hgr, hct => by
    subst hy
    exact ct_X2_pickStep hl (fun h' => fr_pickF (fun i hi => (hgr i hi).2) f (i + 1) (by omega) h') (by omega) hf hS (or_bit_lt hS (by omega)) hB hB6 hR hR5 hgr hct (d0 := f + 2) (by omega) (fun σ S y x e1 e2 e3 e4 e5 e6 => ct_pickF hl hf hB6 hR5 f (i + 1) (by omega) σ S y x e1 e2 e3 e4 e5 e6)
def cnt1 (cnt : Nat → Nat) (i : Nat) : Nat → Nat := fun j => if j = i then cnt i + 1 else cnt j
theorem cnt1_ok {σ A : XS9} {cnt : Nat → Nat} {i : Nat} (hct : ∀ i, i < 6 → σ 1020 i = nI (cnt i) ∧ cnt i ≤ 6) (hA : A 1020 = σ 1020) (hc : cnt i < 6) : ∀ j, j < 6 → u2 A 1020 i (nI (cnt i + 1)) 1020 j = nI (cnt1 cnt i j) ∧ cnt1 cnt i j ≤ 6 := by
  intro j hj
  unfold cnt1
  by_cases e : j = i
  · subst e
    rw [if_pos rfl, u2_at]
    exact ⟨rfl, hc⟩
  · rw [if_neg e]
    rw [show u2 A 1020 i (nI (cnt i + 1)) 1020 j = A 1020 j from u2_oi e, hA]
    exact hct j hj
end
section
/-! ===== packages are added ===== -/
theorem fr_findWinners {σ : XS9}  {q : Nat} (h : q ≠ 1040 ∧ q ≠ 1041) : g_findWinners σ  q = σ q := by
  have H0 : ∀ s0, (x_findWinners_4 σ s0).1 q = s0.1 q := fun s0 => xit_keep (fun s : XS9 × Nat => s.1 q) (fun i s => by (try dsimp only); (repeat' split) <;> first | rfl | simp (disch := omega) only [u2_ne, uR_ne, fr_fill, fr_useWaiver, fr_undoContradictions, fr_lowerEligible, fr_moveHeld, fr_raisePrices, fr_begin, fr_closeRound, fr_moveTaken, fr_findDisturbed, fr_addRegion, fr_addBidder, fr_take, fr_giveBack, fr_keepIfBetter]) _ _ _
  unfold g_findWinners
  (repeat' split) <;> first | rfl | simp (disch := omega) only [u2_ne, uR_ne, fr_fill, fr_useWaiver, fr_undoContradictions, fr_lowerEligible, fr_moveHeld, fr_raisePrices, fr_begin, fr_closeRound, fr_moveTaken, fr_findDisturbed, fr_addRegion, fr_addBidder, fr_take, fr_giveBack, fr_keepIfBetter, H0]
theorem fr_pickFrom {fx R B : Nat} {gr cnt : Nat → Nat} {σ : XS9} {S : Nat} {x : Int32} {q : Nat} (h : (∀ i, i < 6 → gr i < 4) ∧ S < 64 ∧ q ≠ 1042 ∧ q ≠ 1043 ∧ q ≠ 1044 ∧ (q < 1051 ∨ 1114 < q) ∧ (q < 1121 ∨ 1124 < q)) : g_pickFrom fx R B gr cnt 6 0 σ S x q = σ q := fr_pickF h.1 6 0 rfl h.2
def g_addM (σ : XS9) (i : Nat) (x y : Int32) (R B : Nat) (gr cnt : Nat → Nat) : XS9 := (if (nI (cnt i)) < 6 then (if (f_fits (u2 (u2 (u2 σ (1022 + i) (cnt i) x) (1031 + i) (cnt i) y) 1020 i (nI (cnt i + 1))) i x R gr) = 0 then g_findWinners (u2 (u2 (u2 σ (1022 + i) (cnt i) x) (1031 + i) (cnt i) y) 1020 i (nI (cnt i + 1))) else g_findWinners (g_giveBack (g_pickFrom i R B gr (cnt1 cnt i) 6 0 (g_take (u2 (u2 (u2 σ (1022 + i) (cnt i) x) (1031 + i) (cnt i) y) 1020 i (nI (cnt i + 1))) i (cnt i) R gr) (2 ^ i) y) i (cnt i) R gr)) else σ)
theorem ct_X2_add {l : Launch} {h : XH} (hl : l.stackTraces = false) {σ : XS9} {R : Nat} (hR : σ 1001 4 = nI R) (hR5 : R ≤ 5) {B : Nat} (hB : σ 1001 9 = nI B) (hB6 : B ≤ 6) {gr : Nat → Nat} (hgr : ∀ i, i < 6 → σ 1017 i = nI (gr i) ∧ gr i < 4) {cnt : Nat → Nat} (hct : ∀ i, i < 6 → σ 1020 i = nI (cnt i) ∧ cnt i ≤ 6) {i : Nat} {x y : Int32} (hi : i < 6) : XEx l m_X2_add 9 0 0 [.ref 1003, .ref 1001, .int (nI i), .int x, .int y] (setC σ h) (none) (setC (g_addM σ i x y R B gr cnt) h) := by
  refine XMet.of hl rfl rfl (Nat.le_of_ble_eq_true rfl) (fun Y O hh hQ => ?_)
  show SW Y 0 0 (setC σ h) 0 [.ref 1003, .ref 1001, .int (nI i), .int x, .int y, xx_d] []
  refine sw_aload_n O (xx_dt dd_X2_add 0 rfl) rfl ?_
  refine sw_get (v := .ref 1020) O (xx_dt dd_X2_add 1 rfl) cl_X2 fl_X2_9 (ly_1003 σ h) (by decide) rfl ?_
  refine sw_iload_n O (xx_dt dd_X2_add 2 rfl) rfl ?_
  have hz5 := (hct i (by omega)).2
  refine sw_iaload (v := .int (nI (cnt i))) O (xx_dt dd_X2_add 3 rfl) (ly_1020 σ h) (pk_in i _ (by omega)) (by rw [nI_clamp (by omega)]; exact (congrArg Value.int (hct i (by omega)).1)) ?_
  refine sw_istore (ls2 := [.ref 1003, .ref 1001, .int (nI i), .int x, .int y, .int (nI (cnt i))]) O (xx_dt dd_X2_add 4 rfl) (by decide) rfl ?_
  refine sw_iload O (xx_dt dd_X2_add 5 rfl) rfl ?_
  refine sw_bipush (x := 6) O (xx_dt dd_X2_add 6 rfl) (by decide) ?_
  refine sw_icmp_lt (tgt := 16) O (xx_dt dd_X2_add 7 rfl) (by decide) (fun q1 => ?_) (fun q1 => ?_)
  · have hfq1 : (cnt i) < 6 := (nI_ltI (a := (cnt i)) (b := 6) (by omega) (by omega)).mp q1
    refine sw_aload_n O (xx_dt dd_X2_add 9 rfl) rfl ?_
    refine sw_get (v := .ref 1021) O (xx_dt dd_X2_add 10 rfl) cl_X2 fl_X2_17 (ly_1003 σ h) (by decide) rfl ?_
    refine sw_iload_n O (xx_dt dd_X2_add 11 rfl) rfl ?_
    refine sw_aaload (v := .ref (1022 + i)) O (xx_dt dd_X2_add 12 rfl) (by omega) (by omega) (ly_1021 σ h) (pk_in i _ (by omega)) (by rw [nI_clamp (by omega)]; try exact rfl) ?_
    refine sw_iload O (xx_dt dd_X2_add 13 rfl) rfl ?_
    refine sw_iload_n O (xx_dt dd_X2_add 14 rfl) rfl ?_
    refine sw_iastore (h2 := setC (u2 σ (1022 + i) (cnt i) x) h) O (xx_dt dd_X2_add 15 rfl) (lr_1021 σ h (k := i) (by omega)) (pk_in (cnt i) _ (by omega)) (by omega) (by rw [nI_clamp (by omega)]; exact (pr_1021 (by omega))) ?_
    refine sw_aload_n O (xx_dt dd_X2_add 16 rfl) rfl ?_
    refine sw_get (v := .ref 1030) O (xx_dt dd_X2_add 17 rfl) cl_X2 fl_X2_20 (ly_1003 (u2 σ (1022 + i) (cnt i) x) h) (by decide) rfl ?_
    refine sw_iload_n O (xx_dt dd_X2_add 18 rfl) rfl ?_
    refine sw_aaload (v := .ref (1031 + i)) O (xx_dt dd_X2_add 19 rfl) (by omega) (by omega) (ly_1030 (u2 σ (1022 + i) (cnt i) x) h) (pk_in i _ (by omega)) (by rw [nI_clamp (by omega)]; try exact rfl) ?_
    refine sw_iload O (xx_dt dd_X2_add 20 rfl) rfl ?_
    refine sw_iload O (xx_dt dd_X2_add 21 rfl) rfl ?_
    refine sw_iastore (h2 := setC (u2 (u2 σ (1022 + i) (cnt i) x) (1031 + i) (cnt i) y) h) O (xx_dt dd_X2_add 22 rfl) (lr_1030 (u2 σ (1022 + i) (cnt i) x) h (k := i) (by omega)) (pk_in (cnt i) _ (by omega)) (by omega) (by rw [nI_clamp (by omega)]; exact (pr_1030 (by omega))) ?_
    refine sw_aload_n O (xx_dt dd_X2_add 23 rfl) rfl ?_
    refine sw_get (v := .ref 1020) O (xx_dt dd_X2_add 24 rfl) cl_X2 fl_X2_9 (ly_1003 (u2 (u2 σ (1022 + i) (cnt i) x) (1031 + i) (cnt i) y) h) (by decide) rfl ?_
    refine sw_iload_n O (xx_dt dd_X2_add 25 rfl) rfl ?_
    refine sw_dup2 O (xx_dt dd_X2_add 26 rfl) rfl rfl ?_
    have hz43 := (hct i (by omega)).2
    refine sw_iaload (v := .int (nI (cnt i))) O (xx_dt dd_X2_add 27 rfl) (ly_1020 (u2 (u2 σ (1022 + i) (cnt i) x) (1031 + i) (cnt i) y) h) (pk_in i _ (by omega)) (by rw [nI_clamp (by omega)]; exact (congrArg Value.int (((congrFun (u2_ne (by omega)) i).trans (congrFun (u2_ne (by omega)) i)).trans (hct i (by omega)).1))) ?_
    refine sw_iconst (x := 1) O (xx_dt dd_X2_add 28 rfl) (by decide) ?_
    refine sw_iadd O (xx_dt dd_X2_add 29 rfl) ?_
    rw [nI_a1 (cnt i)]
    refine sw_iastore (h2 := setC (u2 (u2 (u2 σ (1022 + i) (cnt i) x) (1031 + i) (cnt i) y) 1020 i (nI (cnt i + 1))) h) O (xx_dt dd_X2_add 30 rfl) (ly_1020 (u2 (u2 σ (1022 + i) (cnt i) x) (1031 + i) (cnt i) y) h) (pk_in i _ (by omega)) (by decide) (by rw [nI_clamp (by omega)]; exact pa_1020) ?_
    refine sw_aload_n O (xx_dt dd_X2_add 31 rfl) rfl ?_
    refine sw_aload_n O (xx_dt dd_X2_add 32 rfl) rfl ?_
    refine sw_iload_n O (xx_dt dd_X2_add 33 rfl) rfl ?_
    refine sw_iload_n O (xx_dt dd_X2_add 34 rfl) rfl ?_
    refine sw_callVx (as := [.ref 1001, .int (nI i), .int x]) (st := []) (st2 := [.int (f_fits (u2 (u2 (u2 σ (1022 + i) (cnt i) x) (1031 + i) (cnt i) y) 1020 i (nI (cnt i + 1))) i x R gr)]) O (ct_X2_fits hl (σ := u2 (u2 (u2 σ (1022 + i) (cnt i) x) (1031 + i) (cnt i) y) 1020 i (nI (cnt i + 1))) (R := R) ((((congrFun (u2_ne (by omega)) 4).trans (congrFun (u2_ne (by omega)) 4)).trans (congrFun (u2_ne (by omega)) 4)).trans hR) (by omega) (gr := gr) (fun j9 hj9 => by rw [show (u2 (u2 (u2 σ (1022 + i) (cnt i) x) (1031 + i) (cnt i) y) 1020 i (nI (cnt i + 1))) 1017 = σ 1017 from (((u2_ne (by omega)).trans (u2_ne (by omega))).trans (u2_ne (by omega)))]; exact hgr j9 hj9) (i := i) (x := x) (by omega)) ce_X2_fits ml_X2_60 iv_X2_fits cl_X2 rfl (ly_1003 (u2 (u2 (u2 σ (1022 + i) (cnt i) x) (1031 + i) (cnt i) y) 1020 i (nI (cnt i + 1))) h) (xx_dt dd_X2_add 35 rfl) (by first | decide | omega) rfl rfl (Nat.le_of_ble_eq_true rfl) rfl ?_
    refine sw_if_eq (tgt := 85) O (xx_dt dd_X2_add 36 rfl) (by decide) (fun q2 => ?_) (fun q2 => ?_)
    · refine sw_aload_n O (xx_dt dd_X2_add 56 rfl) rfl ?_
      refine sw_callVx (as := []) (st := []) (st2 := []) O (ct_X2_findWinners hl (σ := u2 (u2 (u2 σ (1022 + i) (cnt i) x) (1031 + i) (cnt i) y) 1020 i (nI (cnt i + 1)))) ce_X2_findWinners ml_X2_75 iv_X2_findWinners cl_X2 rfl (ly_1003 (u2 (u2 (u2 σ (1022 + i) (cnt i) x) (1031 + i) (cnt i) y) 1020 i (nI (cnt i + 1))) h) (xx_dt dd_X2_add 57 rfl) (by first | decide | omega) rfl rfl (Nat.le_of_ble_eq_true rfl) rfl ?_
      exact sw_ret O (xx_dt dd_X2_add 58 rfl) rfl (by rw [hQ]; exact ⟨rfl, by unfold g_addM; simp only [if_pos q1, if_pos q2]⟩)
    · refine sw_aload_n O (xx_dt dd_X2_add 37 rfl) rfl ?_
      refine sw_aload_n O (xx_dt dd_X2_add 38 rfl) rfl ?_
      refine sw_iload_n O (xx_dt dd_X2_add 39 rfl) rfl ?_
      refine sw_iload O (xx_dt dd_X2_add 40 rfl) rfl ?_
      refine sw_callVx (as := [.ref 1001, .int (nI i), .int (nI (cnt i))]) (st := []) (st2 := []) O (ct_X2_take hl (σ := u2 (u2 (u2 σ (1022 + i) (cnt i) x) (1031 + i) (cnt i) y) 1020 i (nI (cnt i + 1))) (R := R) ((((congrFun (u2_ne (by omega)) 4).trans (congrFun (u2_ne (by omega)) 4)).trans (congrFun (u2_ne (by omega)) 4)).trans hR) (by omega) (gr := gr) (fun j9 hj9 => by rw [show (u2 (u2 (u2 σ (1022 + i) (cnt i) x) (1031 + i) (cnt i) y) 1020 i (nI (cnt i + 1))) 1017 = σ 1017 from (((u2_ne (by omega)).trans (u2_ne (by omega))).trans (u2_ne (by omega)))]; exact hgr j9 hj9) (i := i) (n := cnt i) (by omega) (by omega)) ce_X2_take ml_X2_64 iv_X2_take cl_X2 rfl (ly_1003 (u2 (u2 (u2 σ (1022 + i) (cnt i) x) (1031 + i) (cnt i) y) 1020 i (nI (cnt i + 1))) h) (xx_dt dd_X2_add 41 rfl) (by first | decide | omega) rfl rfl (Nat.le_of_ble_eq_true rfl) rfl ?_
      refine sw_aload_n O (xx_dt dd_X2_add 42 rfl) rfl ?_
      refine sw_aload_n O (xx_dt dd_X2_add 43 rfl) rfl ?_
      refine sw_iconst (x := 0) O (xx_dt dd_X2_add 44 rfl) (by decide) ?_
      refine sw_iload_n O (xx_dt dd_X2_add 45 rfl) rfl ?_
      refine sw_iconst (x := 1) O (xx_dt dd_X2_add 46 rfl) (by decide) ?_
      refine sw_iload_n O (xx_dt dd_X2_add 47 rfl) rfl ?_
      refine sw_ishl O (xx_dt dd_X2_add 48 rfl) ?_
      refine sw_iload O (xx_dt dd_X2_add 49 rfl) rfl ?_
      refine sw_callSx (as := [.ref 1003, .ref 1001, .int 0, .int (nI i), .int (1 <<< ((nI i) &&& 31)), .int y]) (st := []) (st2 := []) O (ct_pickF hl (fx := i) (R := R) (B := B) (gr := gr) (cnt := cnt1 cnt i) hi hB6 hR5 6 0 rfl (g_take (u2 (u2 (u2 σ (1022 + i) (cnt i) x) (1031 + i) (cnt i) y) 1020 i (nI (cnt i + 1))) i (cnt i) R gr) (2 ^ i) (1 <<< ((nI i) &&& 31)) y (one_bit (i := i) (by omega)) (one_bit_lt (by omega)) ((((((congrFun (fr_take (by omega)) 9).trans (congrFun (u2_ne (by omega)) 9)).trans (congrFun (u2_ne (by omega)) 9)).trans (congrFun (u2_ne (by omega)) 9)).trans hB)) ((((((congrFun (fr_take (by omega)) 4).trans (congrFun (u2_ne (by omega)) 4)).trans (congrFun (u2_ne (by omega)) 4)).trans (congrFun (u2_ne (by omega)) 4)).trans hR)) (fun j9 hj9 => by rw [show (g_take (u2 (u2 (u2 σ (1022 + i) (cnt i) x) (1031 + i) (cnt i) y) 1020 i (nI (cnt i + 1))) i (cnt i) R gr) 1017 = σ 1017 from ((((fr_take (by omega)).trans (u2_ne (by omega))).trans (u2_ne (by omega))).trans (u2_ne (by omega)))]; exact hgr j9 hj9) (fun j9 hj9 => by rw [show (g_take (u2 (u2 (u2 σ (1022 + i) (cnt i) x) (1031 + i) (cnt i) y) 1020 i (nI (cnt i + 1))) i (cnt i) R gr) 1020 = (u2 (u2 (u2 σ (1022 + i) (cnt i) x) (1031 + i) (cnt i) y) 1020 i (nI (cnt i + 1))) 1020 from (fr_take (by omega))]; exact cnt1_ok (A := u2 (u2 σ (1022 + i) (cnt i) x) (1031 + i) (cnt i) y) hct (by simp (disch := omega) only [u2_ne]) (by omega) j9 hj9)) ce_X2_pickFrom ml_X2_68 st_X2_pickFrom (xx_dt dd_X2_add 50 rfl) (by first | decide | omega) rfl rfl (Nat.le_of_ble_eq_true rfl) rfl ?_
      refine sw_aload_n O (xx_dt dd_X2_add 51 rfl) rfl ?_
      refine sw_aload_n O (xx_dt dd_X2_add 52 rfl) rfl ?_
      refine sw_iload_n O (xx_dt dd_X2_add 53 rfl) rfl ?_
      refine sw_iload O (xx_dt dd_X2_add 54 rfl) rfl ?_
      refine sw_callVx (as := [.ref 1001, .int (nI i), .int (nI (cnt i))]) (st := []) (st2 := []) O (ct_X2_giveBack hl (σ := g_pickFrom i R B gr (cnt1 cnt i) 6 0 (g_take (u2 (u2 (u2 σ (1022 + i) (cnt i) x) (1031 + i) (cnt i) y) 1020 i (nI (cnt i + 1))) i (cnt i) R gr) (2 ^ i) y) (R := R) ((((((congrFun (fr_pickFrom ⟨fun i9 hi9 => (hgr i9 hi9).2, one_bit_lt (by omega), by omega⟩) 4).trans (congrFun (fr_take (by omega)) 4)).trans (congrFun (u2_ne (by omega)) 4)).trans (congrFun (u2_ne (by omega)) 4)).trans (congrFun (u2_ne (by omega)) 4)).trans hR) (by omega) (gr := gr) (fun j9 hj9 => by rw [show (g_pickFrom i R B gr (cnt1 cnt i) 6 0 (g_take (u2 (u2 (u2 σ (1022 + i) (cnt i) x) (1031 + i) (cnt i) y) 1020 i (nI (cnt i + 1))) i (cnt i) R gr) (2 ^ i) y) 1017 = σ 1017 from (((((fr_pickFrom ⟨fun i9 hi9 => (hgr i9 hi9).2, one_bit_lt (by omega), by omega⟩).trans (fr_take (by omega))).trans (u2_ne (by omega))).trans (u2_ne (by omega))).trans (u2_ne (by omega)))]; exact hgr j9 hj9) (i := i) (n := cnt i) (by omega) (by omega)) ce_X2_giveBack ml_X2_72 iv_X2_giveBack cl_X2 rfl (ly_1003 (g_pickFrom i R B gr (cnt1 cnt i) 6 0 (g_take (u2 (u2 (u2 σ (1022 + i) (cnt i) x) (1031 + i) (cnt i) y) 1020 i (nI (cnt i + 1))) i (cnt i) R gr) (2 ^ i) y) h) (xx_dt dd_X2_add 55 rfl) (by first | decide | omega) rfl rfl (Nat.le_of_ble_eq_true rfl) rfl ?_
      refine sw_aload_n O (xx_dt dd_X2_add 56 rfl) rfl ?_
      refine sw_callVx (as := []) (st := []) (st2 := []) O (ct_X2_findWinners hl (σ := g_giveBack (g_pickFrom i R B gr (cnt1 cnt i) 6 0 (g_take (u2 (u2 (u2 σ (1022 + i) (cnt i) x) (1031 + i) (cnt i) y) 1020 i (nI (cnt i + 1))) i (cnt i) R gr) (2 ^ i) y) i (cnt i) R gr)) ce_X2_findWinners ml_X2_75 iv_X2_findWinners cl_X2 rfl (ly_1003 (g_giveBack (g_pickFrom i R B gr (cnt1 cnt i) 6 0 (g_take (u2 (u2 (u2 σ (1022 + i) (cnt i) x) (1031 + i) (cnt i) y) 1020 i (nI (cnt i + 1))) i (cnt i) R gr) (2 ^ i) y) i (cnt i) R gr) h) (xx_dt dd_X2_add 57 rfl) (by first | decide | omega) rfl rfl (Nat.le_of_ble_eq_true rfl) rfl ?_
      exact sw_ret O (xx_dt dd_X2_add 58 rfl) rfl (by rw [hQ]; exact ⟨rfl, by unfold g_addM; simp only [if_pos q1, if_neg q2]⟩)
  · have hfq1 : ¬ (cnt i) < 6 := fun e => q1 ((nI_ltI (a := (cnt i)) (b := 6) (by omega) (by omega)).mpr e)
    exact sw_ret O (xx_dt dd_X2_add 8 rfl) rfl (by rw [hQ]; exact ⟨rfl, by unfold g_addM; simp only [if_neg q1]⟩)
theorem fr_addM {σ : XS9} {i : Nat} {x y : Int32} {R B : Nat} {gr cnt : Nat → Nat} {q : Nat} (h : i < 6 ∧ (q < 1020 ∨ 1124 < q) ∧ ∀ i, i < 6 → gr i < 4) (hc : cnt i ≤ 6) : g_addM σ i x y R B gr cnt q = σ q := by
  obtain ⟨hi, hq, hg⟩ := h
  have hgi := hg i hi
  have HP : ∀ σ, g_pickFrom i R B gr (cnt1 cnt i) 6 0 σ (2 ^ i) y q = σ q := fun σ => fr_pickFrom ⟨hg, one_bit_lt hi, by omega⟩
  unfold g_addM
  (repeat' split) <;> first | rfl | simp (disch := omega) only [u2_ne, fr_findWinners, fr_giveBack, fr_take, HP]
def XCT (σ : XS9) : Prop := ∀ i, i < 6 → σ 1020 i = nI (cn (σ 1020 i)) ∧ cn (σ 1020 i) ≤ 6
theorem XCT.of {σ σ' : XS9} (h : XCT σ) (e : σ' 1020 = σ 1020) : XCT σ' := by unfold XCT; rw [e]; exact h
theorem XCT.add {σ : XS9} {i : Nat} {x y : Int32} {R B : Nat} {gr : Nat → Nat} (h : XCT σ) (hi : i < 6) (hg : ∀ i, i < 6 → gr i < 4) : XCT (g_addM σ i x y R B gr (fun j => cn (σ 1020 j))) := by
  have hgi := hg i hi
  have HP : ∀ σ, g_pickFrom i R B gr (cnt1 (fun j => cn (σ 1020 j)) i) 6 0 σ (2 ^ i) y 1020 = σ 1020 := fun σ => fr_pickFrom ⟨hg, one_bit_lt hi, by omega⟩
  have hci := h i hi
  unfold g_addM
  split
  · rename_i hc
    have hc' : cn (σ 1020 i) < 6 := (nI_ltI (a := cn (σ 1020 i)) (b := 6) (by omega) (by omega)).mp hc
    have K : XCT (u2 (u2 (u2 σ (1022 + i) (cn (σ 1020 i)) x) (1031 + i) (cn (σ 1020 i)) y) 1020 i (nI (cn (σ 1020 i) + 1))) := by
      have := cnt1_ok (σ := σ) (A := u2 (u2 σ (1022 + i) (cn (σ 1020 i)) x) (1031 + i) (cn (σ 1020 i)) y) (cnt := fun j => cn (σ 1020 j)) h (by simp (disch := omega) only [u2_ne]) hc'
      intro j hj
      obtain ⟨e1, e2⟩ := this j hj
      rw [e1, cn_nI (by omega)]
      exact ⟨rfl, e2⟩
    split
    · exact K.of (by simp (disch := omega) only [fr_findWinners])
    · exact K.of (by
        have HP : ∀ σ', g_pickFrom i R B gr (cnt1 (fun j => cn (σ 1020 j)) i) 6 0 σ' (2 ^ i) y 1020 = σ' 1020 := fun σ' => fr_pickFrom ⟨hg, one_bit_lt hi, by omega⟩
        simp (disch := omega) only [fr_findWinners, fr_giveBack, fr_take, HP])
  · exact h
def g_leaveOut (σ : XS9) (i : Nat) : XS9 := g_findWinners (u2 σ 1003 5 ((σ 1003 5) ||| (1 <<< ((nI i) &&& 31))))
theorem ct_X2_leaveOut {l : Launch} {h : XH} (hl : l.stackTraces = false) {σ : XS9} {i : Nat} (hi : i < 6) : XEx l m_X2_leaveOut 3 0 0 [.ref 1003, .int (nI i)] (setC σ h) (none) (setC (g_leaveOut σ i) h) := by
  refine XMet.of hl rfl rfl (Nat.le_of_ble_eq_true rfl) (fun Y O hh hQ => ?_)
  show SW Y 0 0 (setC σ h) 0 [.ref 1003, .int (nI i)] []
  refine sw_aload_n O (xx_dt dd_X2_leaveOut 0 rfl) rfl ?_
  refine sw_dup O (xx_dt dd_X2_leaveOut 1 rfl) rfl ?_
  refine sw_get (v := .int (σ 1003 5)) O (xx_dt dd_X2_leaveOut 2 rfl) cl_X2 fl_X2_50 (ly_1003 σ h) (by decide) rfl ?_
  refine sw_iconst (x := 1) O (xx_dt dd_X2_leaveOut 3 rfl) (by decide) ?_
  refine sw_iload_n O (xx_dt dd_X2_leaveOut 4 rfl) rfl ?_
  refine sw_ishl O (xx_dt dd_X2_leaveOut 5 rfl) ?_
  refine sw_ior O (xx_dt dd_X2_leaveOut 6 rfl) ?_
  refine sw_put (h2 := setC (u2 σ 1003 5 ((σ 1003 5) ||| (1 <<< ((nI i) &&& 31)))) h) O (xx_dt dd_X2_leaveOut 7 rfl) cl_X2 fl_X2_50 (ly_1003 σ h) (by decide) (by decide) rfl (fun _ => ⟨rfl, rfl⟩) pu_1003_5 ?_
  refine sw_aload_n O (xx_dt dd_X2_leaveOut 8 rfl) rfl ?_
  refine sw_callVx (as := []) (st := []) (st2 := []) O (ct_X2_findWinners hl (σ := u2 σ 1003 5 ((σ 1003 5) ||| (1 <<< ((nI i) &&& 31))))) ce_X2_findWinners ml_X2_75 iv_X2_findWinners cl_X2 rfl (ly_1003 (u2 σ 1003 5 ((σ 1003 5) ||| (1 <<< ((nI i) &&& 31)))) h) (xx_dt dd_X2_leaveOut 9 rfl) (by first | decide | omega) rfl rfl (Nat.le_of_ble_eq_true rfl) rfl ?_
  exact sw_ret O (xx_dt dd_X2_leaveOut 10 rfl) rfl (by rw [hQ]; exact ⟨rfl, by unfold g_leaveOut; rfl⟩)
theorem fr_leaveOut {σ : XS9} {i : Nat} {q : Nat} (h : q ≠ 1003 ∧ q ≠ 1040 ∧ q ≠ 1041) : g_leaveOut σ i q = σ q := by
  unfold g_leaveOut
  (repeat' split) <;> first | rfl | simp (disch := omega) only [u2_ne, uR_ne, fr_fill, fr_useWaiver, fr_undoContradictions, fr_lowerEligible, fr_moveHeld, fr_raisePrices, fr_begin, fr_closeRound, fr_moveTaken, fr_findDisturbed, fr_addRegion, fr_addBidder, fr_take, fr_giveBack, fr_keepIfBetter, fr_findWinners]
theorem xitR_keep {S R : Type} {step : Nat → S → S ⊕ R} {A : Type} (π : S → A) (πR : R → A) (h : ∀ i s s', step i s = .inl s' → π s' = π s) (hR : ∀ i s r, step i s = .inr r → πR r = π s) : ∀ (f i : Nat) (s : S), Sum.elim π πR (xitR step f i s) = π s
  | 0, _, _ => rfl
  | f + 1, i, s => by
    unfold xitR
    cases e : step i s with
    | inl s' => exact (xitR_keep π πR h hR f (i + 1) s').trans (h i s s' e)
    | inr r => exact hR i s r e
theorem fr_raiseEach {σ : XS9} {x y z : Int32} {q : Nat} (h : q ≠ 1131 + 2) : g_raiseEach σ x y z q = σ q := by
  have H0 : ∀ s0, (x_raiseEach_6 σ x y z s0).1 q = s0.1 q := fun s0 => xit_keep (fun s : XS9 × Int32 => s.1 q) (fun i s => by (try dsimp only); (repeat' split) <;> first | rfl | simp (disch := omega) only [u2_ne, uR_ne, fr_fill, fr_useWaiver, fr_undoContradictions, fr_lowerEligible, fr_moveHeld, fr_raisePrices, fr_begin, fr_closeRound, fr_moveTaken, fr_findDisturbed, fr_addRegion, fr_addBidder, fr_take, fr_giveBack, fr_keepIfBetter, fr_findWinners, fr_leaveOut]) _ _ _
  unfold g_raiseEach
  (repeat' split) <;> first | rfl | simp (disch := omega) only [u2_ne, uR_ne, fr_fill, fr_useWaiver, fr_undoContradictions, fr_lowerEligible, fr_moveHeld, fr_raisePrices, fr_begin, fr_closeRound, fr_moveTaken, fr_findDisturbed, fr_addRegion, fr_addBidder, fr_take, fr_giveBack, fr_keepIfBetter, fr_findWinners, fr_leaveOut, H0]
theorem fr_raiseOutside {σ : XS9} {x y : Int32} {q : Nat} (h : q ≠ 1131 + 2) : g_raiseOutside σ x y q = σ q := by
  have H0 : ∀ s0, (x_raiseOutside_5 σ x y s0).1 q = s0.1 q := fun s0 => xitB_keep (fun s : XS9 × Int32 => s.1 q) (fun i s s' e => by
    revert e
    (try dsimp only)
    (repeat' split) <;> intro e <;> rcases e with e | e <;> first | (cases e; done) | (injection e with e; subst e; first | exact fr_raiseEach h | rfl)) _ _ _
  unfold g_raiseOutside
  rw [fr_raiseEach h]
  exact H0 _
theorem fr_find {σ : XS9} {q : Nat} (h : q ≠ 1131 ∧ q ≠ 1132 ∧ q ≠ 1133) : g_find σ q = σ q := by
  have H0 : ∀ s0, x_find_2 σ s0 q = s0 q := fun s0 => xit_keep (fun s : XS9 => s q) (fun i s => by (try dsimp only); simp (disch := omega) only [u2_ne]) _ _ _
  have H1 : ∀ s0, Sum.elim (fun s : XS9 => s q) (fun s : XS9 => s q) (x_find_53 σ s0) = s0 q := fun s0 => by
   unfold x_find_53
   exact xitR_keep (fun s : XS9 => s q) (fun s : XS9 => s q) (fun i s s' e => by
    revert e
    (try dsimp only)
    split <;> intro e
    · cases e
    · exact (congrFun (Sum.inl.inj e) q).symm.trans (fr_raiseOutside (by omega))) (fun i s r e => by
    revert e
    (try dsimp only)
    split <;> intro e
    · exact (congrFun (Sum.inr.inj e) q).symm
    · cases e) _ _ _
  unfold g_find
  rw [← H0 σ, ← H1 (x_find_2 σ σ)]
  cases x_find_53 σ (x_find_2 σ σ) <;> rfl
end
