/-! ===== what is asked ===== -/
def f_regionFact (σ : XS9) (C r : Nat) (v : Nat) : Int32 := match v with | 0 => f_regionFact0 σ C r | 1 => f_regionFact1 σ C r | 2 => f_regionFact2 σ C r | 3 => f_regionFact3 σ C r | 4 => f_regionFact4 σ C r | 5 => f_regionFact5 σ C r | 6 => f_regionFact6 σ C r | 7 => f_regionFact7 σ C r | _ => f_regionFact8 σ C r
theorem ct_X7_regionFact {l : Launch} {h : XH} (hl : l.stackTraces = false) {σ : XS9} {C : Nat} (hC : σ 1006 1 = nI C) (hC10 : C ≤ 10) {r : Nat} (hr : r < 5) {v : Nat} (hv : v < 9) : XEx l m_X7_regionFact 2 0 0 [.ref 1000, .int (nI r), .int (nI v)] (setC σ h) (some (.int (f_regionFact σ C r v))) (setC σ h) := by
  match v, hv with
  | 0, _ => exact ct_X7_regionFact_0 hl hC hC10 hr
  | 1, _ => exact ct_X7_regionFact_1 hl hC hC10 hr
  | 2, _ => exact ct_X7_regionFact_2 hl hC hC10 hr
  | 3, _ => exact ct_X7_regionFact_3 hl hC hC10 hr
  | 4, _ => exact ct_X7_regionFact_4 hl hC hC10 hr
  | 5, _ => exact ct_X7_regionFact_5 hl hC hC10 hr
  | 6, _ => exact ct_X7_regionFact_6 hl hC hC10 hr
  | 7, _ => exact ct_X7_regionFact_7 hl hC hC10 hr
  | 8, _ => exact ct_X7_regionFact_8 hl hC hC10 hr
def f_bidderFact (σ : XS9) (i : Nat) (v : Nat) : Int32 := match v with | 0 => f_bidderFact0 σ i | 1 => f_bidderFact1 σ i | 2 => f_bidderFact2 σ i | 3 => f_bidderFact3 σ i | 4 => f_bidderFact4 σ i | 5 => f_bidderFact5 σ i | 6 => f_bidderFact6 σ i | 7 => f_bidderFact7 σ i | 8 => f_bidderFact8 σ i | 9 => f_bidderFact9 σ i | _ => f_bidderFact10 σ i
theorem ct_X7_bidderFact {l : Launch} {h : XH} (hl : l.stackTraces = false) {σ : XS9} {i : Nat} (hi : i < 6) {v : Nat} (hv : v < 11) : XEx l m_X7_bidderFact 2 0 0 [.ref 1000, .int (nI i), .int (nI v)] (setC σ h) (some (.int (f_bidderFact σ i v))) (setC σ h) := by
  match v, hv with
  | 0, _ => exact ct_X7_bidderFact_0 hl hi
  | 1, _ => exact ct_X7_bidderFact_1 hl hi
  | 2, _ => exact ct_X7_bidderFact_2 hl hi
  | 3, _ => exact ct_X7_bidderFact_3 hl hi
  | 4, _ => exact ct_X7_bidderFact_4 hl hi
  | 5, _ => exact ct_X7_bidderFact_5 hl hi
  | 6, _ => exact ct_X7_bidderFact_6 hl hi
  | 7, _ => exact ct_X7_bidderFact_7 hl hi
  | 8, _ => exact ct_X7_bidderFact_8 hl hi
  | 9, _ => exact ct_X7_bidderFact_9 hl hi
  | 10, _ => exact ct_X7_bidderFact_10 hl hi
def o_ofRegion (σ : XS9) (x y : Int32) (R C : Nat) : Int32 ⊕ String := (if n_lt x R then (if n_bt y 0 8 then .inl (f_regionFact σ C (cn x) (cn y)) else .inr eIAE) else .inr eIOB)
theorem ct_X7_ofRegion {l : Launch} {h : XH} (hl : l.stackTraces = false) {σ : XS9} {R : Nat} (hR : σ 1001 4 = nI R) (hR5 : R ≤ 5) {C : Nat} (hC : σ 1006 1 = nI C) (hC10 : C ≤ 10) {x y : Int32} : XEo l m_X7_ofRegion 7 1 6 [.ref 1000, .int x, .int y] (setC σ h) ((xoi (o_ofRegion σ x y R C))) (setC σ h) := by
  refine XMet.of hl rfl rfl (Nat.le_of_ble_eq_true rfl) (fun Y O hh hQ => ?_)
  show SW Y 1 6 (setC σ h) 0 [.ref 1000, .int x, .int y] []
  refine sw_aload_n O (xx_dt dd_X7_ofRegion 0 rfl) rfl ?_
  refine sw_iload_n O (xx_dt dd_X7_ofRegion 1 rfl) rfl ?_
  by_cases q1 : n_lt x R
  · refine sw_callVx (as := [.int x]) (st := []) (st2 := []) (k' := 0) (n' := 0) O (ct_X7_needRegion_ok hl (σ := σ) (R := R) hR (by omega) q1) ce_X7_needRegion ml_X7_87 iv_X7_needRegion cl_X7 rfl (ly_1000 σ h) (xx_dt dd_X7_ofRegion 2 rfl) (by decide) rfl rfl (Nat.le_of_ble_eq_true rfl) rfl ?_
    refine sw_lsE (ls2 := [.ref 1000, .int (nI (cn x)), .int y]) (by rw [← q1.1]) ?_
    have hvq1 := q1.2
    refine sw_iload_n O (xx_dt dd_X7_ofRegion 3 rfl) rfl ?_
    refine sw_iconst (x := 0) O (xx_dt dd_X7_ofRegion 4 rfl) (by decide) ?_
    refine sw_bipush (x := 8) O (xx_dt dd_X7_ofRegion 5 rfl) (by decide) ?_
    by_cases q2 : n_bt y 0 8
    · refine sw_callSx (as := [.int y, .int 0, .int 8]) (st := []) (st2 := []) (k' := 0) (n' := 0) O (ct_X7_needBetween_ok hl  q2) ce_X7_needBetween ml_X7_61 st_X7_needBetween (xx_dt dd_X7_ofRegion 6 rfl) (by decide) rfl rfl (Nat.le_of_ble_eq_true rfl) rfl ?_
      refine sw_lsE (ls2 := [.ref 1000, .int (nI (cn x)), .int (nI (cn y))]) (by rw [← (bt_nat 8 q2 (by decide) (by decide) (by decide)).1]) ?_
      have hvq2 := (bt_nat 8 q2 (by decide) (by decide) (by decide)).2
      refine sw_aload_n O (xx_dt dd_X7_ofRegion 7 rfl) rfl ?_
      refine sw_iload_n O (xx_dt dd_X7_ofRegion 8 rfl) rfl ?_
      refine sw_iload_n O (xx_dt dd_X7_ofRegion 9 rfl) rfl ?_
      refine sw_callVx (as := [.int (nI (cn x)), .int (nI (cn y))]) (st := []) (st2 := [.int (f_regionFact σ C (cn x) (cn y))]) O (ct_X7_regionFact hl (σ := σ) (C := C) hC (by omega) (r := cn x) (by omega) (v := cn y) (by omega)) ce_X7_regionFact ml_X7_243 iv_X7_regionFact cl_X7 rfl (ly_1000 σ h) (xx_dt dd_X7_ofRegion 10 rfl) (by decide) rfl rfl (Nat.le_of_ble_eq_true rfl) rfl ?_
      exact sw_iret O (xx_dt dd_X7_ofRegion 11 rfl) rfl rfl (by rw [hQ]; exact ⟨by unfold o_ofRegion; simp only [if_pos q1, if_pos q2]; rfl, rfl⟩)
    · exact sw_callSt (as := [.int y, .int 0, .int 8]) (st := []) (k := 0) (n := 0) (k' := 1) (n' := 6) O (ct_X7_needBetween_no hl  q2) ce_X7_needBetween ml_X7_61 st_X7_needBetween (xx_dt dd_X7_ofRegion 6 rfl) (by decide) rfl rfl (Nat.le_of_ble_eq_true rfl)  (by rw [hQ]; exact ⟨by unfold o_ofRegion; simp only [if_pos q1, if_neg q2]; rfl, rfl⟩)
  · exact sw_callVt (as := [.int x]) (st := []) (k := 0) (n := 0) (k' := 1) (n' := 6) O (ct_X7_needRegion_no hl (σ := σ) (R := R) hR (by omega) q1) ce_X7_needRegion ml_X7_87 iv_X7_needRegion cl_X7 rfl (ly_1000 σ h) (xx_dt dd_X7_ofRegion 2 rfl) (by decide) rfl rfl (Nat.le_of_ble_eq_true rfl)  (by rw [hQ]; exact ⟨by unfold o_ofRegion; simp only [if_neg q1]; rfl, rfl⟩)
def o_ofBidder (σ : XS9) (x y : Int32) (B : Nat) : Int32 ⊕ String := (if n_lt x B then (if n_bt y 0 10 then .inl (f_bidderFact σ (cn x) (cn y)) else .inr eIAE) else .inr eIOB)
theorem ct_X7_ofBidder {l : Launch} {h : XH} (hl : l.stackTraces = false) {σ : XS9} {B : Nat} (hB : σ 1001 9 = nI B) (hB6 : B ≤ 6) {x y : Int32} : XEo l m_X7_ofBidder 7 1 6 [.ref 1000, .int x, .int y] (setC σ h) ((xoi (o_ofBidder σ x y B))) (setC σ h) := by
  refine XMet.of hl rfl rfl (Nat.le_of_ble_eq_true rfl) (fun Y O hh hQ => ?_)
  show SW Y 1 6 (setC σ h) 0 [.ref 1000, .int x, .int y] []
  refine sw_aload_n O (xx_dt dd_X7_ofBidder 0 rfl) rfl ?_
  refine sw_iload_n O (xx_dt dd_X7_ofBidder 1 rfl) rfl ?_
  by_cases q1 : n_lt x B
  · refine sw_callVx (as := [.int x]) (st := []) (st2 := []) (k' := 0) (n' := 0) O (ct_X7_needBidder_ok hl (σ := σ) (B := B) hB (by omega) q1) ce_X7_needBidder ml_X7_124 iv_X7_needBidder cl_X7 rfl (ly_1000 σ h) (xx_dt dd_X7_ofBidder 2 rfl) (by decide) rfl rfl (Nat.le_of_ble_eq_true rfl) rfl ?_
    refine sw_lsE (ls2 := [.ref 1000, .int (nI (cn x)), .int y]) (by rw [← q1.1]) ?_
    have hvq1 := q1.2
    refine sw_iload_n O (xx_dt dd_X7_ofBidder 3 rfl) rfl ?_
    refine sw_iconst (x := 0) O (xx_dt dd_X7_ofBidder 4 rfl) (by decide) ?_
    refine sw_bipush (x := 10) O (xx_dt dd_X7_ofBidder 5 rfl) (by decide) ?_
    by_cases q2 : n_bt y 0 10
    · refine sw_callSx (as := [.int y, .int 0, .int 10]) (st := []) (st2 := []) (k' := 0) (n' := 0) O (ct_X7_needBetween_ok hl  q2) ce_X7_needBetween ml_X7_61 st_X7_needBetween (xx_dt dd_X7_ofBidder 6 rfl) (by decide) rfl rfl (Nat.le_of_ble_eq_true rfl) rfl ?_
      refine sw_lsE (ls2 := [.ref 1000, .int (nI (cn x)), .int (nI (cn y))]) (by rw [← (bt_nat 10 q2 (by decide) (by decide) (by decide)).1]) ?_
      have hvq2 := (bt_nat 10 q2 (by decide) (by decide) (by decide)).2
      refine sw_aload_n O (xx_dt dd_X7_ofBidder 7 rfl) rfl ?_
      refine sw_iload_n O (xx_dt dd_X7_ofBidder 8 rfl) rfl ?_
      refine sw_iload_n O (xx_dt dd_X7_ofBidder 9 rfl) rfl ?_
      refine sw_callVx (as := [.int (nI (cn x)), .int (nI (cn y))]) (st := []) (st2 := [.int (f_bidderFact σ (cn x) (cn y))]) O (ct_X7_bidderFact hl (σ := σ) (i := cn x) (by omega) (v := cn y) (by omega)) ce_X7_bidderFact ml_X7_246 iv_X7_bidderFact cl_X7 rfl (ly_1000 σ h) (xx_dt dd_X7_ofBidder 10 rfl) (by decide) rfl rfl (Nat.le_of_ble_eq_true rfl) rfl ?_
      exact sw_iret O (xx_dt dd_X7_ofBidder 11 rfl) rfl rfl (by rw [hQ]; exact ⟨by unfold o_ofBidder; simp only [if_pos q1, if_pos q2]; rfl, rfl⟩)
    · exact sw_callSt (as := [.int y, .int 0, .int 10]) (st := []) (k := 0) (n := 0) (k' := 1) (n' := 6) O (ct_X7_needBetween_no hl  q2) ce_X7_needBetween ml_X7_61 st_X7_needBetween (xx_dt dd_X7_ofBidder 6 rfl) (by decide) rfl rfl (Nat.le_of_ble_eq_true rfl)  (by rw [hQ]; exact ⟨by unfold o_ofBidder; simp only [if_pos q1, if_neg q2]; rfl, rfl⟩)
  · exact sw_callVt (as := [.int x]) (st := []) (k := 0) (n := 0) (k' := 1) (n' := 6) O (ct_X7_needBidder_no hl (σ := σ) (B := B) hB (by omega) q1) ce_X7_needBidder ml_X7_124 iv_X7_needBidder cl_X7 rfl (ly_1000 σ h) (xx_dt dd_X7_ofBidder 2 rfl) (by decide) rfl rfl (Nat.le_of_ble_eq_true rfl)  (by rw [hQ]; exact ⟨by unfold o_ofBidder; simp only [if_neg q1]; rfl, rfl⟩)
def o_wants (σ : XS9) (x y z : Int32) (R B : Nat) : Int32 ⊕ String := (if n_lt x B then (if n_lt y R then (if z = 0 then .inl (f_many (σ (2000 + 3) (cn x)) (cn y)) else .inl (f_many (σ (2000 + 2) (cn x)) (cn y))) else .inr eIOB) else .inr eIOB)
theorem ct_X7_wants {l : Launch} {h : XH} (hl : l.stackTraces = false) {σ : XS9} {R : Nat} (hR : σ 1001 4 = nI R) (hR5 : R ≤ 5) {B : Nat} (hB : σ 1001 9 = nI B) (hB6 : B ≤ 6) {x y z : Int32} : XEo l m_X7_wants 7 1 6 [.ref 1000, .int x, .int y, .int z] (setC σ h) ((xoi (o_wants σ x y z R B))) (setC σ h) := by
  refine XMet.of hl rfl rfl (Nat.le_of_ble_eq_true rfl) (fun Y O hh hQ => ?_)
  show SW Y 1 6 (setC σ h) 0 [.ref 1000, .int x, .int y, .int z] []
  refine sw_aload_n O (xx_dt dd_X7_wants 0 rfl) rfl ?_
  refine sw_iload_n O (xx_dt dd_X7_wants 1 rfl) rfl ?_
  by_cases q1 : n_lt x B
  · refine sw_callVx (as := [.int x]) (st := []) (st2 := []) (k' := 0) (n' := 0) O (ct_X7_needBidder_ok hl (σ := σ) (B := B) hB (by omega) q1) ce_X7_needBidder ml_X7_124 iv_X7_needBidder cl_X7 rfl (ly_1000 σ h) (xx_dt dd_X7_wants 2 rfl) (by decide) rfl rfl (Nat.le_of_ble_eq_true rfl) rfl ?_
    refine sw_lsE (ls2 := [.ref 1000, .int (nI (cn x)), .int y, .int z]) (by rw [← q1.1]) ?_
    have hvq1 := q1.2
    refine sw_aload_n O (xx_dt dd_X7_wants 3 rfl) rfl ?_
    refine sw_iload_n O (xx_dt dd_X7_wants 4 rfl) rfl ?_
    by_cases q2 : n_lt y R
    · refine sw_callVx (as := [.int y]) (st := []) (st2 := []) (k' := 0) (n' := 0) O (ct_X7_needRegion_ok hl (σ := σ) (R := R) hR (by omega) q2) ce_X7_needRegion ml_X7_87 iv_X7_needRegion cl_X7 rfl (ly_1000 σ h) (xx_dt dd_X7_wants 5 rfl) (by decide) rfl rfl (Nat.le_of_ble_eq_true rfl) rfl ?_
      refine sw_lsE (ls2 := [.ref 1000, .int (nI (cn x)), .int (nI (cn y)), .int z]) (by rw [← q2.1]) ?_
      have hvq2 := q2.2
      refine sw_iload_n O (xx_dt dd_X7_wants 6 rfl) rfl ?_
      refine sw_if_eq (tgt := 26) O (xx_dt dd_X7_wants 7 rfl) (by decide) (fun q3 => ?_) (fun q3 => ?_)
      · refine sw_aload_n O (xx_dt dd_X7_wants 14 rfl) rfl ?_
        refine sw_get (v := .ref 2000) O (xx_dt dd_X7_wants 15 rfl) cl_X7 fl_X7_19 (ly_1000 σ h) (by decide) rfl ?_
        refine sw_get (v := .ref (2000 + 3)) O (xx_dt dd_X7_wants 16 rfl) cl_X1 fl_X7_133 (lk_0 σ h (.inl rfl)) (by decide) rfl ?_
        refine sw_iload_n O (xx_dt dd_X7_wants 17 rfl) rfl ?_
        refine sw_iaload (v := .int (σ (2000 + 3) (cn x))) O (xx_dt dd_X7_wants 18 rfl) (lk_3 σ h (.inl rfl)) (pk_in (cn x) _ (by omega)) (by rw [nI_clamp (by omega)]; try exact rfl) ?_
        refine sw_iload_n O (xx_dt dd_X7_wants 19 rfl) rfl ?_
        refine sw_callSx (as := [.int (σ (2000 + 3) (cn x)), .int (nI (cn y))]) (st := []) (st2 := [.int (f_many (σ (2000 + 3) (cn x)) (cn y))]) O (ct_X0_many hl (c := σ (2000 + 3) (cn x)) (r := cn y) (by omega)) ce_X0_many ml_X7_252 st_X0_many (xx_dt dd_X7_wants 20 rfl) (by decide) rfl rfl (Nat.le_of_ble_eq_true rfl) rfl ?_
        exact sw_iret O (xx_dt dd_X7_wants 21 rfl) rfl rfl (by rw [hQ]; exact ⟨by unfold o_wants; simp only [if_pos q1, if_pos q2, if_pos q3]; rfl, rfl⟩)
      · refine sw_aload_n O (xx_dt dd_X7_wants 8 rfl) rfl ?_
        refine sw_get (v := .ref 2000) O (xx_dt dd_X7_wants 9 rfl) cl_X7 fl_X7_19 (ly_1000 σ h) (by decide) rfl ?_
        refine sw_get (v := .ref (2000 + 2)) O (xx_dt dd_X7_wants 10 rfl) cl_X1 fl_X7_249 (lk_0 σ h (.inl rfl)) (by decide) rfl ?_
        refine sw_iload_n O (xx_dt dd_X7_wants 11 rfl) rfl ?_
        refine sw_iaload (v := .int (σ (2000 + 2) (cn x))) O (xx_dt dd_X7_wants 12 rfl) (lk_2 σ h (.inl rfl)) (pk_in (cn x) _ (by omega)) (by rw [nI_clamp (by omega)]; try exact rfl) ?_
        refine sw_goto (tgt := 35) O (xx_dt dd_X7_wants 13 rfl) (by decide) ?_
        refine sw_iload_n O (xx_dt dd_X7_wants 19 rfl) rfl ?_
        refine sw_callSx (as := [.int (σ (2000 + 2) (cn x)), .int (nI (cn y))]) (st := []) (st2 := [.int (f_many (σ (2000 + 2) (cn x)) (cn y))]) O (ct_X0_many hl (c := σ (2000 + 2) (cn x)) (r := cn y) (by omega)) ce_X0_many ml_X7_252 st_X0_many (xx_dt dd_X7_wants 20 rfl) (by decide) rfl rfl (Nat.le_of_ble_eq_true rfl) rfl ?_
        exact sw_iret O (xx_dt dd_X7_wants 21 rfl) rfl rfl (by rw [hQ]; exact ⟨by unfold o_wants; simp only [if_pos q1, if_pos q2, if_neg q3]; rfl, rfl⟩)
    · exact sw_callVt (as := [.int y]) (st := []) (k := 0) (n := 0) (k' := 1) (n' := 6) O (ct_X7_needRegion_no hl (σ := σ) (R := R) hR (by omega) q2) ce_X7_needRegion ml_X7_87 iv_X7_needRegion cl_X7 rfl (ly_1000 σ h) (xx_dt dd_X7_wants 5 rfl) (by decide) rfl rfl (Nat.le_of_ble_eq_true rfl)  (by rw [hQ]; exact ⟨by unfold o_wants; simp only [if_pos q1, if_neg q2]; rfl, rfl⟩)
  · exact sw_callVt (as := [.int x]) (st := []) (k := 0) (n := 0) (k' := 1) (n' := 6) O (ct_X7_needBidder_no hl (σ := σ) (B := B) hB (by omega) q1) ce_X7_needBidder ml_X7_124 iv_X7_needBidder cl_X7 rfl (ly_1000 σ h) (xx_dt dd_X7_wants 2 rfl) (by decide) rfl rfl (Nat.le_of_ble_eq_true rfl)  (by rw [hQ]; exact ⟨by unfold o_wants; simp only [if_neg q1]; rfl, rfl⟩)
def o_priceIn (σ : XS9) (x y : Int32) (R K : Nat) : Int32 ⊕ String := (if n_rd x K then (if n_lt y R then .inl (σ (2000 + 101 + rn x) (cn y)) else .inr eIOB) else .inr eIOB)
theorem ct_X7_priceIn {l : Launch} {h : XH} (hl : l.stackTraces = false) {σ : XS9} {R : Nat} (hR : σ 1001 4 = nI R) (hR5 : R ≤ 5) {K : Nat} (hK : σ 2000 9 = nI K) (hK60 : K ≤ 60) {x y : Int32} : XEo l m_X7_priceIn 7 1 6 [.ref 1000, .int x, .int y] (setC σ h) ((xoi (o_priceIn σ x y R K))) (setC σ h) := by
  refine XMet.of hl rfl rfl (Nat.le_of_ble_eq_true rfl) (fun Y O hh hQ => ?_)
  show SW Y 1 6 (setC σ h) 0 [.ref 1000, .int x, .int y] []
  refine sw_aload_n O (xx_dt dd_X7_priceIn 0 rfl) rfl ?_
  refine sw_iload_n O (xx_dt dd_X7_priceIn 1 rfl) rfl ?_
  by_cases q1 : n_rd x K
  · refine sw_callVx (as := [.int x]) (st := []) (st2 := []) (k' := 0) (n' := 0) O (ct_X7_needRound_ok hl (σ := σ) (K := K) hK (by omega) q1) ce_X7_needRound ml_X7_255 iv_X7_needRound cl_X7 rfl (ly_1000 σ h) (xx_dt dd_X7_priceIn 2 rfl) (by decide) rfl rfl (Nat.le_of_ble_eq_true rfl) rfl ?_
    refine sw_lsE (ls2 := [.ref 1000, .int (nI (rn x + 1)), .int y]) (by rw [← q1.1]) ?_
    have hvq1 := q1.2
    refine sw_aload_n O (xx_dt dd_X7_priceIn 3 rfl) rfl ?_
    refine sw_iload_n O (xx_dt dd_X7_priceIn 4 rfl) rfl ?_
    by_cases q2 : n_lt y R
    · refine sw_callVx (as := [.int y]) (st := []) (st2 := []) (k' := 0) (n' := 0) O (ct_X7_needRegion_ok hl (σ := σ) (R := R) hR (by omega) q2) ce_X7_needRegion ml_X7_87 iv_X7_needRegion cl_X7 rfl (ly_1000 σ h) (xx_dt dd_X7_priceIn 5 rfl) (by decide) rfl rfl (Nat.le_of_ble_eq_true rfl) rfl ?_
      refine sw_lsE (ls2 := [.ref 1000, .int (nI (rn x + 1)), .int (nI (cn y))]) (by rw [← q2.1]) ?_
      have hvq2 := q2.2
      refine sw_aload_n O (xx_dt dd_X7_priceIn 6 rfl) rfl ?_
      refine sw_get (v := .ref 2000) O (xx_dt dd_X7_priceIn 7 rfl) cl_X7 fl_X7_19 (ly_1000 σ h) (by decide) rfl ?_
      refine sw_get (v := .ref (2000 + 100)) O (xx_dt dd_X7_priceIn 8 rfl) cl_X1 fl_X7_258 (lk_0 σ h (.inl rfl)) (by decide) rfl ?_
      refine sw_iload_n O (xx_dt dd_X7_priceIn 9 rfl) rfl ?_
      refine sw_iconst (x := 1) O (xx_dt dd_X7_priceIn 10 rfl) (by decide) ?_
      refine sw_isub O (xx_dt dd_X7_priceIn 11 rfl) ?_
      rw [nI_s1 (rn x)]
      refine sw_aaload (v := .ref (2000 + 101 + rn x)) O (xx_dt dd_X7_priceIn 12 rfl) (by omega) (by omega) (lk_100 σ h (.inl rfl)) (pk_in (rn x) _ (by omega)) (by rw [nI_clamp (by omega)]; try exact rfl) ?_
      refine sw_iload_n O (xx_dt dd_X7_priceIn 13 rfl) rfl ?_
      refine sw_iaload (v := .int (σ (2000 + 101 + rn x) (cn y))) O (xx_dt dd_X7_priceIn 14 rfl) (lkr_100 σ h (.inl rfl) (k := rn x) (by omega)) (pk_in (cn y) _ (by omega)) (by rw [nI_clamp (by omega)]; try exact rfl) ?_
      exact sw_iret O (xx_dt dd_X7_priceIn 15 rfl) rfl rfl (by rw [hQ]; exact ⟨by unfold o_priceIn; simp only [if_pos q1, if_pos q2]; rfl, rfl⟩)
    · exact sw_callVt (as := [.int y]) (st := []) (k := 0) (n := 0) (k' := 1) (n' := 6) O (ct_X7_needRegion_no hl (σ := σ) (R := R) hR (by omega) q2) ce_X7_needRegion ml_X7_87 iv_X7_needRegion cl_X7 rfl (ly_1000 σ h) (xx_dt dd_X7_priceIn 5 rfl) (by decide) rfl rfl (Nat.le_of_ble_eq_true rfl)  (by rw [hQ]; exact ⟨by unfold o_priceIn; simp only [if_pos q1, if_neg q2]; rfl, rfl⟩)
  · exact sw_callVt (as := [.int x]) (st := []) (k := 0) (n := 0) (k' := 1) (n' := 6) O (ct_X7_needRound_no hl (σ := σ) (K := K) hK (by omega) q1) ce_X7_needRound ml_X7_255 iv_X7_needRound cl_X7 rfl (ly_1000 σ h) (xx_dt dd_X7_priceIn 2 rfl) (by decide) rfl rfl (Nat.le_of_ble_eq_true rfl)  (by rw [hQ]; exact ⟨by unfold o_priceIn; simp only [if_neg q1]; rfl, rfl⟩)
def o_codeIn (σ : XS9) (x y z : Int32) (B K : Nat) : Int32 ⊕ String := (if n_rd x K then (if n_lt y B then (if z = 0 then .inl (σ (2000 + 201 + rn x) (cn y)) else .inl (σ (2000 + 301 + rn x) (cn y))) else .inr eIOB) else .inr eIOB)
theorem ct_X7_codeIn {l : Launch} {h : XH} (hl : l.stackTraces = false) {σ : XS9} {B : Nat} (hB : σ 1001 9 = nI B) (hB6 : B ≤ 6) {K : Nat} (hK : σ 2000 9 = nI K) (hK60 : K ≤ 60) {x y z : Int32} : XEo l m_X7_codeIn 7 1 6 [.ref 1000, .int x, .int y, .int z] (setC σ h) ((xoi (o_codeIn σ x y z B K))) (setC σ h) := by
  refine XMet.of hl rfl rfl (Nat.le_of_ble_eq_true rfl) (fun Y O hh hQ => ?_)
  show SW Y 1 6 (setC σ h) 0 [.ref 1000, .int x, .int y, .int z] []
  refine sw_aload_n O (xx_dt dd_X7_codeIn 0 rfl) rfl ?_
  refine sw_iload_n O (xx_dt dd_X7_codeIn 1 rfl) rfl ?_
  by_cases q1 : n_rd x K
  · refine sw_callVx (as := [.int x]) (st := []) (st2 := []) (k' := 0) (n' := 0) O (ct_X7_needRound_ok hl (σ := σ) (K := K) hK (by omega) q1) ce_X7_needRound ml_X7_255 iv_X7_needRound cl_X7 rfl (ly_1000 σ h) (xx_dt dd_X7_codeIn 2 rfl) (by decide) rfl rfl (Nat.le_of_ble_eq_true rfl) rfl ?_
    refine sw_lsE (ls2 := [.ref 1000, .int (nI (rn x + 1)), .int y, .int z]) (by rw [← q1.1]) ?_
    have hvq1 := q1.2
    refine sw_aload_n O (xx_dt dd_X7_codeIn 3 rfl) rfl ?_
    refine sw_iload_n O (xx_dt dd_X7_codeIn 4 rfl) rfl ?_
    by_cases q2 : n_lt y B
    · refine sw_callVx (as := [.int y]) (st := []) (st2 := []) (k' := 0) (n' := 0) O (ct_X7_needBidder_ok hl (σ := σ) (B := B) hB (by omega) q2) ce_X7_needBidder ml_X7_124 iv_X7_needBidder cl_X7 rfl (ly_1000 σ h) (xx_dt dd_X7_codeIn 5 rfl) (by decide) rfl rfl (Nat.le_of_ble_eq_true rfl) rfl ?_
      refine sw_lsE (ls2 := [.ref 1000, .int (nI (rn x + 1)), .int (nI (cn y)), .int z]) (by rw [← q2.1]) ?_
      have hvq2 := q2.2
      refine sw_iload_n O (xx_dt dd_X7_codeIn 6 rfl) rfl ?_
      refine sw_if_eq (tgt := 30) O (xx_dt dd_X7_codeIn 7 rfl) (by decide) (fun q3 => ?_) (fun q3 => ?_)
      · refine sw_aload_n O (xx_dt dd_X7_codeIn 18 rfl) rfl ?_
        refine sw_get (v := .ref 2000) O (xx_dt dd_X7_codeIn 19 rfl) cl_X7 fl_X7_19 (ly_1000 σ h) (by decide) rfl ?_
        refine sw_get (v := .ref (2000 + 200)) O (xx_dt dd_X7_codeIn 20 rfl) cl_X1 fl_X7_265 (lk_0 σ h (.inl rfl)) (by decide) rfl ?_
        refine sw_iload_n O (xx_dt dd_X7_codeIn 21 rfl) rfl ?_
        refine sw_iconst (x := 1) O (xx_dt dd_X7_codeIn 22 rfl) (by decide) ?_
        refine sw_isub O (xx_dt dd_X7_codeIn 23 rfl) ?_
        rw [nI_s1 (rn x)]
        refine sw_aaload (v := .ref (2000 + 201 + rn x)) O (xx_dt dd_X7_codeIn 24 rfl) (by omega) (by omega) (lk_200 σ h (.inl rfl)) (pk_in (rn x) _ (by omega)) (by rw [nI_clamp (by omega)]; try exact rfl) ?_
        refine sw_iload_n O (xx_dt dd_X7_codeIn 25 rfl) rfl ?_
        refine sw_iaload (v := .int (σ (2000 + 201 + rn x) (cn y))) O (xx_dt dd_X7_codeIn 26 rfl) (lkr_200 σ h (.inl rfl) (k := rn x) (by omega)) (pk_in (cn y) _ (by omega)) (by rw [nI_clamp (by omega)]; try exact rfl) ?_
        exact sw_iret O (xx_dt dd_X7_codeIn 27 rfl) rfl rfl (by rw [hQ]; exact ⟨by unfold o_codeIn; simp only [if_pos q1, if_pos q2, if_pos q3]; rfl, rfl⟩)
      · refine sw_aload_n O (xx_dt dd_X7_codeIn 8 rfl) rfl ?_
        refine sw_get (v := .ref 2000) O (xx_dt dd_X7_codeIn 9 rfl) cl_X7 fl_X7_19 (ly_1000 σ h) (by decide) rfl ?_
        refine sw_get (v := .ref (2000 + 300)) O (xx_dt dd_X7_codeIn 10 rfl) cl_X1 fl_X7_262 (lk_0 σ h (.inl rfl)) (by decide) rfl ?_
        refine sw_iload_n O (xx_dt dd_X7_codeIn 11 rfl) rfl ?_
        refine sw_iconst (x := 1) O (xx_dt dd_X7_codeIn 12 rfl) (by decide) ?_
        refine sw_isub O (xx_dt dd_X7_codeIn 13 rfl) ?_
        rw [nI_s1 (rn x)]
        refine sw_aaload (v := .ref (2000 + 301 + rn x)) O (xx_dt dd_X7_codeIn 14 rfl) (by omega) (by omega) (lk_300 σ h (.inl rfl)) (pk_in (rn x) _ (by omega)) (by rw [nI_clamp (by omega)]; try exact rfl) ?_
        refine sw_iload_n O (xx_dt dd_X7_codeIn 15 rfl) rfl ?_
        refine sw_iaload (v := .int (σ (2000 + 301 + rn x) (cn y))) O (xx_dt dd_X7_codeIn 16 rfl) (lkr_300 σ h (.inl rfl) (k := rn x) (by omega)) (pk_in (cn y) _ (by omega)) (by rw [nI_clamp (by omega)]; try exact rfl) ?_
        refine sw_goto (tgt := 43) O (xx_dt dd_X7_codeIn 17 rfl) (by decide) ?_
        exact sw_iret O (xx_dt dd_X7_codeIn 27 rfl) rfl rfl (by rw [hQ]; exact ⟨by unfold o_codeIn; simp only [if_pos q1, if_pos q2, if_neg q3]; rfl, rfl⟩)
    · exact sw_callVt (as := [.int y]) (st := []) (k := 0) (n := 0) (k' := 1) (n' := 6) O (ct_X7_needBidder_no hl (σ := σ) (B := B) hB (by omega) q2) ce_X7_needBidder ml_X7_124 iv_X7_needBidder cl_X7 rfl (ly_1000 σ h) (xx_dt dd_X7_codeIn 5 rfl) (by decide) rfl rfl (Nat.le_of_ble_eq_true rfl)  (by rw [hQ]; exact ⟨by unfold o_codeIn; simp only [if_pos q1, if_neg q2]; rfl, rfl⟩)
  · exact sw_callVt (as := [.int x]) (st := []) (k := 0) (n := 0) (k' := 1) (n' := 6) O (ct_X7_needRound_no hl (σ := σ) (K := K) hK (by omega) q1) ce_X7_needRound ml_X7_255 iv_X7_needRound cl_X7 rfl (ly_1000 σ h) (xx_dt dd_X7_codeIn 2 rfl) (by decide) rfl rfl (Nat.le_of_ble_eq_true rfl)  (by rw [hQ]; exact ⟨by unfold o_codeIn; simp only [if_neg q1]; rfl, rfl⟩)
def o_ofPackage (σ : XS9) (x y z : Int32) (B : Nat) (cnt : Nat → Nat) : Int32 ⊕ String := (if n_lt x B then (if y < 0 then .inr eIOB else (if y < (nI (cnt (cn x))) then (if z = 0 then .inl (σ (1022 + cn x) (cn y)) else .inl (σ (1031 + cn x) (cn y))) else .inr eIOB)) else .inr eIOB)
theorem ct_X7_ofPackage {l : Launch} {h : XH} (hl : l.stackTraces = false) {σ : XS9} {B : Nat} (hB : σ 1001 9 = nI B) (hB6 : B ≤ 6) {cnt : Nat → Nat} (hct : ∀ i, i < 6 → σ 1020 i = nI (cnt i) ∧ cnt i ≤ 6) {x y z : Int32} : XEo l m_X7_ofPackage 7 1 6 [.ref 1000, .int x, .int y, .int z] (setC σ h) ((xoi (o_ofPackage σ x y z B cnt))) (setC σ h) := by
  refine XMet.of hl rfl rfl (Nat.le_of_ble_eq_true rfl) (fun Y O hh hQ => ?_)
  show SW Y 1 6 (setC σ h) 0 [.ref 1000, .int x, .int y, .int z] []
  refine sw_aload_n O (xx_dt dd_X7_ofPackage 0 rfl) rfl ?_
  refine sw_iload_n O (xx_dt dd_X7_ofPackage 1 rfl) rfl ?_
  by_cases q1 : n_lt x B
  · refine sw_callVx (as := [.int x]) (st := []) (st2 := []) (k' := 0) (n' := 0) O (ct_X7_needBidder_ok hl (σ := σ) (B := B) hB (by omega) q1) ce_X7_needBidder ml_X7_124 iv_X7_needBidder cl_X7 rfl (ly_1000 σ h) (xx_dt dd_X7_ofPackage 2 rfl) (by decide) rfl rfl (Nat.le_of_ble_eq_true rfl) rfl ?_
    refine sw_lsE (ls2 := [.ref 1000, .int (nI (cn x)), .int y, .int z]) (by rw [← q1.1]) ?_
    have hvq1 := q1.2
    refine sw_iload_n O (xx_dt dd_X7_ofPackage 3 rfl) rfl ?_
    refine sw_if_lt (tgt := 22) O (xx_dt dd_X7_ofPackage 4 rfl) (by decide) (fun q2 => ?_) (fun q2 => ?_)
    · exact sw_throwW (k := 0) (n := 0) O ex_IOB th_X7_ofPackage_22 (xx_dt dd_X7_ofPackage 12 rfl) (xx_dt dd_X7_ofPackage 13 rfl) (xx_dt dd_X7_ofPackage 14 rfl) (xx_dt dd_X7_ofPackage 15 rfl) (xx_dt dd_X7_ofPackage 16 rfl) (by decide) (by decide) (by rw [hQ]; exact ⟨by unfold o_ofPackage; simp only [if_pos q1, if_pos q2]; rfl, rfl⟩)
    · refine sw_iload_n O (xx_dt dd_X7_ofPackage 5 rfl) rfl ?_
      refine sw_aload_n O (xx_dt dd_X7_ofPackage 6 rfl) rfl ?_
      refine sw_get (v := .ref 1003) O (xx_dt dd_X7_ofPackage 7 rfl) cl_X7 fl_X7_29 (ly_1000 σ h) (by decide) rfl ?_
      refine sw_get (v := .ref 1020) O (xx_dt dd_X7_ofPackage 8 rfl) cl_X2 fl_X7_173 (ly_1003 σ h) (by decide) rfl ?_
      refine sw_iload_n O (xx_dt dd_X7_ofPackage 9 rfl) rfl ?_
      have hz18 := (hct (cn x) (by omega)).2
      refine sw_iaload (v := .int (nI (cnt (cn x)))) O (xx_dt dd_X7_ofPackage 10 rfl) (ly_1020 σ h) (pk_in (cn x) _ (by omega)) (by rw [nI_clamp (by omega)]; exact (congrArg Value.int (hct (cn x) (by omega)).1)) ?_
      refine sw_icmp_lt (tgt := 33) O (xx_dt dd_X7_ofPackage 11 rfl) (by decide) (fun q3 => ?_) (fun q3 => ?_)
      · have hc19 := (n_lt_iff (x := y) (R := cnt (cn x)) (by omega)).mpr ⟨q2, q3⟩
        refine sw_lsE (ls2 := [.ref 1000, .int (nI (cn x)), .int (nI (cn y)), .int z]) (by rw [← hc19.1]) ?_
        have hd19 := hc19.2
        refine sw_iload_n O (xx_dt dd_X7_ofPackage 17 rfl) rfl ?_
        refine sw_if_eq (tgt := 51) O (xx_dt dd_X7_ofPackage 18 rfl) (by decide) (fun q4 => ?_) (fun q4 => ?_)
        · refine sw_aload_n O (xx_dt dd_X7_ofPackage 27 rfl) rfl ?_
          refine sw_get (v := .ref 1003) O (xx_dt dd_X7_ofPackage 28 rfl) cl_X7 fl_X7_29 (ly_1000 σ h) (by decide) rfl ?_
          refine sw_get (v := .ref 1021) O (xx_dt dd_X7_ofPackage 29 rfl) cl_X2 fl_X7_276 (ly_1003 σ h) (by decide) rfl ?_
          refine sw_iload_n O (xx_dt dd_X7_ofPackage 30 rfl) rfl ?_
          refine sw_aaload (v := .ref (1022 + cn x)) O (xx_dt dd_X7_ofPackage 31 rfl) (by omega) (by omega) (ly_1021 σ h) (pk_in (cn x) _ (by omega)) (by rw [nI_clamp (by omega)]; try exact rfl) ?_
          refine sw_iload_n O (xx_dt dd_X7_ofPackage 32 rfl) rfl ?_
          refine sw_iaload (v := .int (σ (1022 + cn x) (cn y))) O (xx_dt dd_X7_ofPackage 33 rfl) (lr_1021 σ h (k := cn x) (by omega)) (pk_in (cn y) _ (by omega)) (by rw [nI_clamp (by omega)]; try exact rfl) ?_
          exact sw_iret O (xx_dt dd_X7_ofPackage 34 rfl) rfl rfl (by rw [hQ]; exact ⟨by unfold o_ofPackage; simp only [if_pos q1, if_neg q2, if_pos q3, if_pos q4]; rfl, rfl⟩)
        · refine sw_aload_n O (xx_dt dd_X7_ofPackage 19 rfl) rfl ?_
          refine sw_get (v := .ref 1003) O (xx_dt dd_X7_ofPackage 20 rfl) cl_X7 fl_X7_29 (ly_1000 σ h) (by decide) rfl ?_
          refine sw_get (v := .ref 1030) O (xx_dt dd_X7_ofPackage 21 rfl) cl_X2 fl_X7_273 (ly_1003 σ h) (by decide) rfl ?_
          refine sw_iload_n O (xx_dt dd_X7_ofPackage 22 rfl) rfl ?_
          refine sw_aaload (v := .ref (1031 + cn x)) O (xx_dt dd_X7_ofPackage 23 rfl) (by omega) (by omega) (ly_1030 σ h) (pk_in (cn x) _ (by omega)) (by rw [nI_clamp (by omega)]; try exact rfl) ?_
          refine sw_iload_n O (xx_dt dd_X7_ofPackage 24 rfl) rfl ?_
          refine sw_iaload (v := .int (σ (1031 + cn x) (cn y))) O (xx_dt dd_X7_ofPackage 25 rfl) (lr_1030 σ h (k := cn x) (by omega)) (pk_in (cn y) _ (by omega)) (by rw [nI_clamp (by omega)]; try exact rfl) ?_
          refine sw_goto (tgt := 62) O (xx_dt dd_X7_ofPackage 26 rfl) (by decide) ?_
          exact sw_iret O (xx_dt dd_X7_ofPackage 34 rfl) rfl rfl (by rw [hQ]; exact ⟨by unfold o_ofPackage; simp only [if_pos q1, if_neg q2, if_pos q3, if_neg q4]; rfl, rfl⟩)
      · exact sw_throwW (k := 0) (n := 0) O ex_IOB th_X7_ofPackage_22 (xx_dt dd_X7_ofPackage 12 rfl) (xx_dt dd_X7_ofPackage 13 rfl) (xx_dt dd_X7_ofPackage 14 rfl) (xx_dt dd_X7_ofPackage 15 rfl) (xx_dt dd_X7_ofPackage 16 rfl) (by decide) (by decide) (by rw [hQ]; exact ⟨by unfold o_ofPackage; simp only [if_pos q1, if_neg q2, if_neg q3]; rfl, rfl⟩)
  · exact sw_callVt (as := [.int x]) (st := []) (k := 0) (n := 0) (k' := 1) (n' := 6) O (ct_X7_needBidder_no hl (σ := σ) (B := B) hB (by omega) q1) ce_X7_needBidder ml_X7_124 iv_X7_needBidder cl_X7 rfl (ly_1000 σ h) (xx_dt dd_X7_ofPackage 2 rfl) (by decide) rfl rfl (Nat.le_of_ble_eq_true rfl)  (by rw [hQ]; exact ⟨by unfold o_ofPackage; simp only [if_neg q1]; rfl, rfl⟩)
def o_wins (σ : XS9) (x : Int32) (B : Nat) : Int32 ⊕ String := (if n_lt x B then .inl (σ 1040 (cn x)) else .inr eIOB)
theorem ct_X7_wins {l : Launch} {h : XH} (hl : l.stackTraces = false) {σ : XS9} {B : Nat} (hB : σ 1001 9 = nI B) (hB6 : B ≤ 6) {x : Int32} : XEo l m_X7_wins 7 1 6 [.ref 1000, .int x] (setC σ h) ((xoi (o_wins σ x B))) (setC σ h) := by
  refine XMet.of hl rfl rfl (Nat.le_of_ble_eq_true rfl) (fun Y O hh hQ => ?_)
  show SW Y 1 6 (setC σ h) 0 [.ref 1000, .int x] []
  refine sw_aload_n O (xx_dt dd_X7_wins 0 rfl) rfl ?_
  refine sw_iload_n O (xx_dt dd_X7_wins 1 rfl) rfl ?_
  by_cases q1 : n_lt x B
  · refine sw_callVx (as := [.int x]) (st := []) (st2 := []) (k' := 0) (n' := 0) O (ct_X7_needBidder_ok hl (σ := σ) (B := B) hB (by omega) q1) ce_X7_needBidder ml_X7_124 iv_X7_needBidder cl_X7 rfl (ly_1000 σ h) (xx_dt dd_X7_wins 2 rfl) (by decide) rfl rfl (Nat.le_of_ble_eq_true rfl) rfl ?_
    refine sw_lsE (ls2 := [.ref 1000, .int (nI (cn x))]) (by rw [← q1.1]) ?_
    have hvq1 := q1.2
    refine sw_aload_n O (xx_dt dd_X7_wins 3 rfl) rfl ?_
    refine sw_get (v := .ref 1003) O (xx_dt dd_X7_wins 4 rfl) cl_X7 fl_X7_29 (ly_1000 σ h) (by decide) rfl ?_
    refine sw_get (v := .ref 1040) O (xx_dt dd_X7_wins 5 rfl) cl_X2 fl_X7_200 (ly_1003 σ h) (by decide) rfl ?_
    refine sw_iload_n O (xx_dt dd_X7_wins 6 rfl) rfl ?_
    refine sw_iaload (v := .int (σ 1040 (cn x))) O (xx_dt dd_X7_wins 7 rfl) (ly_1040 σ h) (pk_in (cn x) _ (by omega)) (by rw [nI_clamp (by omega)]; try exact rfl) ?_
    exact sw_iret O (xx_dt dd_X7_wins 8 rfl) rfl rfl (by rw [hQ]; exact ⟨by unfold o_wins; simp only [if_pos q1]; rfl, rfl⟩)
  · exact sw_callVt (as := [.int x]) (st := []) (k := 0) (n := 0) (k' := 1) (n' := 6) O (ct_X7_needBidder_no hl (σ := σ) (B := B) hB (by omega) q1) ce_X7_needBidder ml_X7_124 iv_X7_needBidder cl_X7 rfl (ly_1000 σ h) (xx_dt dd_X7_wins 2 rfl) (by decide) rfl rfl (Nat.le_of_ble_eq_true rfl)  (by rw [hQ]; exact ⟨by unfold o_wins; simp only [if_neg q1]; rfl, rfl⟩)
def o_pays (σ : XS9) (x y : Int32) (B w : Nat) : Int32 ⊕ String := (if n_lt x B then (if y = 0 then .inl (f_paymentOf σ (cn x) w) else .inl (f_dueOf σ (cn x) w)) else .inr eIOB)
theorem ct_X7_pays {l : Launch} {h : XH} (hl : l.stackTraces = false) {σ : XS9} {B : Nat} (hB : σ 1001 9 = nI B) (hB6 : B ≤ 6) {w : Nat} (hw : σ 1000 9 = nI w) (hw3 : w < 3) {x y : Int32} : XEo l m_X7_pays 7 1 6 [.ref 1000, .int x, .int y] (setC σ h) ((xoi (o_pays σ x y B w))) (setC σ h) := by
  refine XMet.of hl rfl rfl (Nat.le_of_ble_eq_true rfl) (fun Y O hh hQ => ?_)
  show SW Y 1 6 (setC σ h) 0 [.ref 1000, .int x, .int y] []
  refine sw_aload_n O (xx_dt dd_X7_pays 0 rfl) rfl ?_
  refine sw_iload_n O (xx_dt dd_X7_pays 1 rfl) rfl ?_
  by_cases q1 : n_lt x B
  · refine sw_callVx (as := [.int x]) (st := []) (st2 := []) (k' := 0) (n' := 0) O (ct_X7_needBidder_ok hl (σ := σ) (B := B) hB (by omega) q1) ce_X7_needBidder ml_X7_124 iv_X7_needBidder cl_X7 rfl (ly_1000 σ h) (xx_dt dd_X7_pays 2 rfl) (by decide) rfl rfl (Nat.le_of_ble_eq_true rfl) rfl ?_
    refine sw_lsE (ls2 := [.ref 1000, .int (nI (cn x)), .int y]) (by rw [← q1.1]) ?_
    have hvq1 := q1.2
    refine sw_iload_n O (xx_dt dd_X7_pays 3 rfl) rfl ?_
    refine sw_if_eq (tgt := 17) O (xx_dt dd_X7_pays 4 rfl) (by decide) (fun q2 => ?_) (fun q2 => ?_)
    · refine sw_aload_n O (xx_dt dd_X7_pays 9 rfl) rfl ?_
      refine sw_iload_n O (xx_dt dd_X7_pays 10 rfl) rfl ?_
      refine sw_callVx (as := [.int (nI (cn x))]) (st := []) (st2 := [.int (f_paymentOf σ (cn x) w)]) O (ct_X7_paymentOf hl (σ := σ) (w := w) hw (by omega) (i := cn x) (by omega)) ce_X7_paymentOf ml_X7_282 iv_X7_paymentOf cl_X7 rfl (ly_1000 σ h) (xx_dt dd_X7_pays 11 rfl) (by decide) rfl rfl (Nat.le_of_ble_eq_true rfl) rfl ?_
      exact sw_iret O (xx_dt dd_X7_pays 12 rfl) rfl rfl (by rw [hQ]; exact ⟨by unfold o_pays; simp only [if_pos q1, if_pos q2]; rfl, rfl⟩)
    · refine sw_aload_n O (xx_dt dd_X7_pays 5 rfl) rfl ?_
      refine sw_iload_n O (xx_dt dd_X7_pays 6 rfl) rfl ?_
      refine sw_callVx (as := [.int (nI (cn x))]) (st := []) (st2 := [.int (f_dueOf σ (cn x) w)]) O (ct_X7_dueOf hl (σ := σ) (w := w) hw (by omega) (i := cn x) (by omega)) ce_X7_dueOf ml_X7_279 iv_X7_dueOf cl_X7 rfl (ly_1000 σ h) (xx_dt dd_X7_pays 7 rfl) (by decide) rfl rfl (Nat.le_of_ble_eq_true rfl) rfl ?_
      refine sw_goto (tgt := 22) O (xx_dt dd_X7_pays 8 rfl) (by decide) ?_
      exact sw_iret O (xx_dt dd_X7_pays 12 rfl) rfl rfl (by rw [hQ]; exact ⟨by unfold o_pays; simp only [if_pos q1, if_neg q2]; rfl, rfl⟩)
  · exact sw_callVt (as := [.int x]) (st := []) (k := 0) (n := 0) (k' := 1) (n' := 6) O (ct_X7_needBidder_no hl (σ := σ) (B := B) hB (by omega) q1) ce_X7_needBidder ml_X7_124 iv_X7_needBidder cl_X7 rfl (ly_1000 σ h) (xx_dt dd_X7_pays 2 rfl) (by decide) rfl rfl (Nat.le_of_ble_eq_true rfl)  (by rw [hQ]; exact ⟨by unfold o_pays; simp only [if_neg q1]; rfl, rfl⟩)
def o_holder (σ : XS9) (x y : Int32) (R : Nat) (sp : Nat → Nat) : Int32 ⊕ String := (if n_lt x R then (if y < 0 then .inr eIOB else (if y < (nI (sp (cn x))) then .inl (σ (1141 + cn x) (cn y)) else .inr eIOB)) else .inr eIOB)
theorem ct_X7_holder {l : Launch} {h : XH} (hl : l.stackTraces = false) {σ : XS9} {R : Nat} (hR : σ 1001 4 = nI R) (hR5 : R ≤ 5) {sp : Nat → Nat} (hsp : ∀ r, r < 5 → σ 1010 r = nI (sp r) ∧ sp r ≤ 5) {x y : Int32} : XEo l m_X7_holder 7 1 6 [.ref 1000, .int x, .int y] (setC σ h) ((xoi (o_holder σ x y R sp))) (setC σ h) := by
  refine XMet.of hl rfl rfl (Nat.le_of_ble_eq_true rfl) (fun Y O hh hQ => ?_)
  show SW Y 1 6 (setC σ h) 0 [.ref 1000, .int x, .int y] []
  refine sw_aload_n O (xx_dt dd_X7_holder 0 rfl) rfl ?_
  refine sw_iload_n O (xx_dt dd_X7_holder 1 rfl) rfl ?_
  by_cases q1 : n_lt x R
  · refine sw_callVx (as := [.int x]) (st := []) (st2 := []) (k' := 0) (n' := 0) O (ct_X7_needRegion_ok hl (σ := σ) (R := R) hR (by omega) q1) ce_X7_needRegion ml_X7_87 iv_X7_needRegion cl_X7 rfl (ly_1000 σ h) (xx_dt dd_X7_holder 2 rfl) (by decide) rfl rfl (Nat.le_of_ble_eq_true rfl) rfl ?_
    refine sw_lsE (ls2 := [.ref 1000, .int (nI (cn x)), .int y]) (by rw [← q1.1]) ?_
    have hvq1 := q1.2
    refine sw_iload_n O (xx_dt dd_X7_holder 3 rfl) rfl ?_
    refine sw_if_lt (tgt := 22) O (xx_dt dd_X7_holder 4 rfl) (by decide) (fun q2 => ?_) (fun q2 => ?_)
    · exact sw_throwW (k := 0) (n := 0) O ex_IOB th_X7_holder_22 (xx_dt dd_X7_holder 12 rfl) (xx_dt dd_X7_holder 13 rfl) (xx_dt dd_X7_holder 14 rfl) (xx_dt dd_X7_holder 15 rfl) (xx_dt dd_X7_holder 16 rfl) (by decide) (by decide) (by rw [hQ]; exact ⟨by unfold o_holder; simp only [if_pos q1, if_pos q2]; rfl, rfl⟩)
    · refine sw_iload_n O (xx_dt dd_X7_holder 5 rfl) rfl ?_
      refine sw_aload_n O (xx_dt dd_X7_holder 6 rfl) rfl ?_
      refine sw_get (v := .ref 1001) O (xx_dt dd_X7_holder 7 rfl) cl_X7 fl_X7_12 (ly_1000 σ h) (by decide) rfl ?_
      refine sw_get (v := .ref 1010) O (xx_dt dd_X7_holder 8 rfl) cl_X6 fl_X7_285 (ly_1001 σ h) (by decide) rfl ?_
      refine sw_iload_n O (xx_dt dd_X7_holder 9 rfl) rfl ?_
      have hz18 := (hsp (cn x) (by omega)).2
      refine sw_iaload (v := .int (nI (sp (cn x)))) O (xx_dt dd_X7_holder 10 rfl) (ly_1010 σ h) (pk_in (cn x) _ (by omega)) (by rw [nI_clamp (by omega)]; exact (congrArg Value.int (hsp (cn x) (by omega)).1)) ?_
      refine sw_icmp_lt (tgt := 33) O (xx_dt dd_X7_holder 11 rfl) (by decide) (fun q3 => ?_) (fun q3 => ?_)
      · have hc19 := (n_lt_iff (x := y) (R := sp (cn x)) (by omega)).mpr ⟨q2, q3⟩
        refine sw_lsE (ls2 := [.ref 1000, .int (nI (cn x)), .int (nI (cn y))]) (by rw [← hc19.1]) ?_
        have hd19 := hc19.2
        refine sw_aload_n O (xx_dt dd_X7_holder 17 rfl) rfl ?_
        refine sw_get (v := .ref 1005) O (xx_dt dd_X7_holder 18 rfl) cl_X7 fl_X7_43 (ly_1000 σ h) (by decide) rfl ?_
        refine sw_get (v := .ref 1140) O (xx_dt dd_X7_holder 19 rfl) cl_X3 fl_X7_290 (ly_1005 σ h) (by decide) rfl ?_
        refine sw_iload_n O (xx_dt dd_X7_holder 20 rfl) rfl ?_
        refine sw_aaload (v := .ref (1141 + cn x)) O (xx_dt dd_X7_holder 21 rfl) (by omega) (by omega) (ly_1140 σ h) (pk_in (cn x) _ (by omega)) (by rw [nI_clamp (by omega)]; try exact rfl) ?_
        refine sw_iload_n O (xx_dt dd_X7_holder 22 rfl) rfl ?_
        refine sw_iaload (v := .int (σ (1141 + cn x) (cn y))) O (xx_dt dd_X7_holder 23 rfl) (lr_1140 σ h (k := cn x) (by omega)) (pk_in (cn y) _ (by omega)) (by rw [nI_clamp (by omega)]; try exact rfl) ?_
        exact sw_iret O (xx_dt dd_X7_holder 24 rfl) rfl rfl (by rw [hQ]; exact ⟨by unfold o_holder; simp only [if_pos q1, if_neg q2, if_pos q3]; rfl, rfl⟩)
      · exact sw_throwW (k := 0) (n := 0) O ex_IOB th_X7_holder_22 (xx_dt dd_X7_holder 12 rfl) (xx_dt dd_X7_holder 13 rfl) (xx_dt dd_X7_holder 14 rfl) (xx_dt dd_X7_holder 15 rfl) (xx_dt dd_X7_holder 16 rfl) (by decide) (by decide) (by rw [hQ]; exact ⟨by unfold o_holder; simp only [if_pos q1, if_neg q2, if_neg q3]; rfl, rfl⟩)
  · exact sw_callVt (as := [.int x]) (st := []) (k := 0) (n := 0) (k' := 1) (n' := 6) O (ct_X7_needRegion_no hl (σ := σ) (R := R) hR (by omega) q1) ce_X7_needRegion ml_X7_87 iv_X7_needRegion cl_X7 rfl (ly_1000 σ h) (xx_dt dd_X7_holder 2 rfl) (by decide) rfl rfl (Nat.le_of_ble_eq_true rfl)  (by rw [hQ]; exact ⟨by unfold o_holder; simp only [if_neg q1]; rfl, rfl⟩)
def o_worth (σ : XS9) (x : Int32) (B : Nat) : Int32 ⊕ String := (if n_lt x (2 ^ B) then .inl (σ 1041 (cn x)) else .inr eIAE)
theorem ct_X7_worth {l : Launch} {h : XH} (hl : l.stackTraces = false) {σ : XS9} {B : Nat} (hB : σ 1001 9 = nI B) (hB6 : B ≤ 6) {x : Int32} : XEo l m_X7_worth 7 1 6 [.ref 1000, .int x] (setC σ h) ((xoi (o_worth σ x B))) (setC σ h) := by
  refine XMet.of hl rfl rfl (Nat.le_of_ble_eq_true rfl) (fun Y O hh hQ => ?_)
  show SW Y 1 6 (setC σ h) 0 [.ref 1000, .int x] []
  refine sw_iload_n O (xx_dt dd_X7_worth 0 rfl) rfl ?_
  refine sw_aload_n O (xx_dt dd_X7_worth 1 rfl) rfl ?_
  refine sw_get (v := .ref 1001) O (xx_dt dd_X7_worth 2 rfl) cl_X7 fl_X7_12 (ly_1000 σ h) (by decide) rfl ?_
  refine sw_get (v := .int (nI B)) O (xx_dt dd_X7_worth 3 rfl) cl_X6 fl_X7_100 (ly_1001 σ h) (by decide) (congrArg Value.int hB) ?_
  by_cases q1 : n_lt x (2 ^ B)
  · refine sw_callSx (as := [.int x, .int (nI B)]) (st := []) (st2 := []) (k' := 0) (n' := 0) O (ct_X7_needSet_ok hl (C := B) (by omega) q1) ce_X7_needSet ml_X7_228 st_X7_needSet (xx_dt dd_X7_worth 4 rfl) (by decide) rfl rfl (Nat.le_of_ble_eq_true rfl) rfl ?_
    refine sw_lsE (ls2 := [.ref 1000, .int (nI (cn x))]) (by rw [← q1.1]) ?_
    have hvq1 := q1.2
    have hpq1 := Nat.lt_of_lt_of_le q1.2 (pow6 (C := B) (by omega))
    refine sw_aload_n O (xx_dt dd_X7_worth 5 rfl) rfl ?_
    refine sw_get (v := .ref 1003) O (xx_dt dd_X7_worth 6 rfl) cl_X7 fl_X7_29 (ly_1000 σ h) (by decide) rfl ?_
    refine sw_get (v := .ref 1041) O (xx_dt dd_X7_worth 7 rfl) cl_X2 fl_X7_307 (ly_1003 σ h) (by decide) rfl ?_
    refine sw_iload_n O (xx_dt dd_X7_worth 8 rfl) rfl ?_
    refine sw_iaload (v := .int (σ 1041 (cn x))) O (xx_dt dd_X7_worth 9 rfl) (ly_1041 σ h) (pk_in (cn x) _ (by omega)) (by rw [nI_clamp (by omega)]; try exact rfl) ?_
    exact sw_iret O (xx_dt dd_X7_worth 10 rfl) rfl rfl (by rw [hQ]; exact ⟨by unfold o_worth; simp only [if_pos q1]; rfl, rfl⟩)
  · exact sw_callSt (as := [.int x, .int (nI B)]) (st := []) (k := 0) (n := 0) (k' := 1) (n' := 6) O (ct_X7_needSet_no hl (C := B) (by omega) q1) ce_X7_needSet ml_X7_228 st_X7_needSet (xx_dt dd_X7_worth 4 rfl) (by decide) rfl rfl (Nat.le_of_ble_eq_true rfl)  (by rw [hQ]; exact ⟨by unfold o_worth; simp only [if_neg q1]; rfl, rfl⟩)
def o_wouldPay (σ : XS9) (x y : Int32) (B : Nat) : Int32 ⊕ String := (if n_lt x B then (if n_bt y 0 2 then .inl (σ (1131 + cn y) (cn x)) else .inr eIAE) else .inr eIOB)
theorem ct_X7_wouldPay {l : Launch} {h : XH} (hl : l.stackTraces = false) {σ : XS9} {B : Nat} (hB : σ 1001 9 = nI B) (hB6 : B ≤ 6) {x y : Int32} : XEo l m_X7_wouldPay 7 1 6 [.ref 1000, .int x, .int y] (setC σ h) ((xoi (o_wouldPay σ x y B))) (setC σ h) := by
  refine XMet.of hl rfl rfl (Nat.le_of_ble_eq_true rfl) (fun Y O hh hQ => ?_)
  show SW Y 1 6 (setC σ h) 0 [.ref 1000, .int x, .int y] []
  refine sw_aload_n O (xx_dt dd_X7_wouldPay 0 rfl) rfl ?_
  refine sw_iload_n O (xx_dt dd_X7_wouldPay 1 rfl) rfl ?_
  by_cases q1 : n_lt x B
  · refine sw_callVx (as := [.int x]) (st := []) (st2 := []) (k' := 0) (n' := 0) O (ct_X7_needBidder_ok hl (σ := σ) (B := B) hB (by omega) q1) ce_X7_needBidder ml_X7_124 iv_X7_needBidder cl_X7 rfl (ly_1000 σ h) (xx_dt dd_X7_wouldPay 2 rfl) (by decide) rfl rfl (Nat.le_of_ble_eq_true rfl) rfl ?_
    refine sw_lsE (ls2 := [.ref 1000, .int (nI (cn x)), .int y]) (by rw [← q1.1]) ?_
    have hvq1 := q1.2
    refine sw_iload_n O (xx_dt dd_X7_wouldPay 3 rfl) rfl ?_
    refine sw_iconst (x := 0) O (xx_dt dd_X7_wouldPay 4 rfl) (by decide) ?_
    refine sw_iconst (x := 2) O (xx_dt dd_X7_wouldPay 5 rfl) (by decide) ?_
    by_cases q2 : n_bt y 0 2
    · refine sw_callSx (as := [.int y, .int 0, .int 2]) (st := []) (st2 := []) (k' := 0) (n' := 0) O (ct_X7_needBetween_ok hl  q2) ce_X7_needBetween ml_X7_61 st_X7_needBetween (xx_dt dd_X7_wouldPay 6 rfl) (by decide) rfl rfl (Nat.le_of_ble_eq_true rfl) rfl ?_
      refine sw_lsE (ls2 := [.ref 1000, .int (nI (cn x)), .int (nI (cn y))]) (by rw [← (bt_nat 2 q2 (by decide) (by decide) (by decide)).1]) ?_
      have hvq2 := (bt_nat 2 q2 (by decide) (by decide) (by decide)).2
      refine sw_aload_n O (xx_dt dd_X7_wouldPay 7 rfl) rfl ?_
      refine sw_get (v := .ref 1004) O (xx_dt dd_X7_wouldPay 8 rfl) cl_X7 fl_X7_36 (ly_1000 σ h) (by decide) rfl ?_
      refine sw_get (v := .ref 1130) O (xx_dt dd_X7_wouldPay 9 rfl) cl_X4 fl_X7_310 (ly_1004 σ h) (by decide) rfl ?_
      refine sw_iload_n O (xx_dt dd_X7_wouldPay 10 rfl) rfl ?_
      refine sw_aaload (v := .ref (1131 + cn y)) O (xx_dt dd_X7_wouldPay 11 rfl) (by omega) (by omega) (ly_1130 σ h) (pk_in (cn y) _ (by omega)) (by rw [nI_clamp (by omega)]; try exact rfl) ?_
      refine sw_iload_n O (xx_dt dd_X7_wouldPay 12 rfl) rfl ?_
      refine sw_iaload (v := .int (σ (1131 + cn y) (cn x))) O (xx_dt dd_X7_wouldPay 13 rfl) (lr_1130 σ h (k := cn y) (by omega)) (pk_in (cn x) _ (by omega)) (by rw [nI_clamp (by omega)]; try exact rfl) ?_
      exact sw_iret O (xx_dt dd_X7_wouldPay 14 rfl) rfl rfl (by rw [hQ]; exact ⟨by unfold o_wouldPay; simp only [if_pos q1, if_pos q2]; rfl, rfl⟩)
    · exact sw_callSt (as := [.int y, .int 0, .int 2]) (st := []) (k := 0) (n := 0) (k' := 1) (n' := 6) O (ct_X7_needBetween_no hl  q2) ce_X7_needBetween ml_X7_61 st_X7_needBetween (xx_dt dd_X7_wouldPay 6 rfl) (by decide) rfl rfl (Nat.le_of_ble_eq_true rfl)  (by rw [hQ]; exact ⟨by unfold o_wouldPay; simp only [if_pos q1, if_neg q2]; rfl, rfl⟩)
  · exact sw_callVt (as := [.int x]) (st := []) (k := 0) (n := 0) (k' := 1) (n' := 6) O (ct_X7_needBidder_no hl (σ := σ) (B := B) hB (by omega) q1) ce_X7_needBidder ml_X7_124 iv_X7_needBidder cl_X7 rfl (ly_1000 σ h) (xx_dt dd_X7_wouldPay 2 rfl) (by decide) rfl rfl (Nat.le_of_ble_eq_true rfl)  (by rw [hQ]; exact ⟨by unfold o_wouldPay; simp only [if_neg q1]; rfl, rfl⟩)
def o_objects (σ : XS9) (x y : Int32) (B : Nat) : Int32 ⊕ String := (if n_lt x (2 ^ B) then (if n_bt y 0 2 then .inl (if 0 < (f_objection σ (cn x) (cn y)) then (f_objection σ (cn x) (cn y)) else 0) else .inr eIAE) else .inr eIAE)
theorem ct_X7_objects {l : Launch} {h : XH} (hl : l.stackTraces = false) {σ : XS9} {B : Nat} (hB : σ 1001 9 = nI B) (hB6 : B ≤ 6) {x y : Int32} : XEo l m_X7_objects 7 1 6 [.ref 1000, .int x, .int y] (setC σ h) ((xoi (o_objects σ x y B))) (setC σ h) := by
  refine XMet.of hl rfl rfl (Nat.le_of_ble_eq_true rfl) (fun Y O hh hQ => ?_)
  show SW Y 1 6 (setC σ h) 0 [.ref 1000, .int x, .int y] []
  refine sw_iload_n O (xx_dt dd_X7_objects 0 rfl) rfl ?_
  refine sw_aload_n O (xx_dt dd_X7_objects 1 rfl) rfl ?_
  refine sw_get (v := .ref 1001) O (xx_dt dd_X7_objects 2 rfl) cl_X7 fl_X7_12 (ly_1000 σ h) (by decide) rfl ?_
  refine sw_get (v := .int (nI B)) O (xx_dt dd_X7_objects 3 rfl) cl_X6 fl_X7_100 (ly_1001 σ h) (by decide) (congrArg Value.int hB) ?_
  by_cases q1 : n_lt x (2 ^ B)
  · refine sw_callSx (as := [.int x, .int (nI B)]) (st := []) (st2 := []) (k' := 0) (n' := 0) O (ct_X7_needSet_ok hl (C := B) (by omega) q1) ce_X7_needSet ml_X7_228 st_X7_needSet (xx_dt dd_X7_objects 4 rfl) (by decide) rfl rfl (Nat.le_of_ble_eq_true rfl) rfl ?_
    refine sw_lsE (ls2 := [.ref 1000, .int (nI (cn x)), .int y]) (by rw [← q1.1]) ?_
    have hvq1 := q1.2
    have hpq1 := Nat.lt_of_lt_of_le q1.2 (pow6 (C := B) (by omega))
    refine sw_iload_n O (xx_dt dd_X7_objects 5 rfl) rfl ?_
    refine sw_iconst (x := 0) O (xx_dt dd_X7_objects 6 rfl) (by decide) ?_
    refine sw_iconst (x := 2) O (xx_dt dd_X7_objects 7 rfl) (by decide) ?_
    by_cases q2 : n_bt y 0 2
    · refine sw_callSx (as := [.int y, .int 0, .int 2]) (st := []) (st2 := []) (k' := 0) (n' := 0) O (ct_X7_needBetween_ok hl  q2) ce_X7_needBetween ml_X7_61 st_X7_needBetween (xx_dt dd_X7_objects 8 rfl) (by decide) rfl rfl (Nat.le_of_ble_eq_true rfl) rfl ?_
      refine sw_lsE (ls2 := [.ref 1000, .int (nI (cn x)), .int (nI (cn y))]) (by rw [← (bt_nat 2 q2 (by decide) (by decide) (by decide)).1]) ?_
      have hvq2 := (bt_nat 2 q2 (by decide) (by decide) (by decide)).2
      refine sw_iconst (x := 0) O (xx_dt dd_X7_objects 9 rfl) (by decide) ?_
      refine sw_aload_n O (xx_dt dd_X7_objects 10 rfl) rfl ?_
      refine sw_get (v := .ref 1004) O (xx_dt dd_X7_objects 11 rfl) cl_X7 fl_X7_36 (ly_1000 σ h) (by decide) rfl ?_
      refine sw_aload_n O (xx_dt dd_X7_objects 12 rfl) rfl ?_
      refine sw_get (v := .ref 1003) O (xx_dt dd_X7_objects 13 rfl) cl_X7 fl_X7_29 (ly_1000 σ h) (by decide) rfl ?_
      refine sw_iload_n O (xx_dt dd_X7_objects 14 rfl) rfl ?_
      refine sw_iload_n O (xx_dt dd_X7_objects 15 rfl) rfl ?_
      refine sw_callVx (as := [.ref 1003, .int (nI (cn x)), .int (nI (cn y))]) (st := [.int 0]) (st2 := [.int (f_objection σ (cn x) (cn y)), .int 0]) O (ct_X4_objection hl (σ := σ) (S := cn x) (w := cn y) (by omega) (by omega)) ce_X4_objection ml_X7_313 iv_X4_objection cl_X4 rfl (ly_1004 σ h) (xx_dt dd_X7_objects 16 rfl) (by decide) rfl rfl (Nat.le_of_ble_eq_true rfl) rfl ?_
      refine sw_max O mm_X7_317 (xx_dt dd_X7_objects 17 rfl) (by omega) (Nat.le_of_ble_eq_true rfl) ?_
      exact sw_iret O (xx_dt dd_X7_objects 18 rfl) rfl rfl (by rw [hQ]; exact ⟨by unfold o_objects; simp only [if_pos q1, if_pos q2]; rfl, rfl⟩)
    · exact sw_callSt (as := [.int y, .int 0, .int 2]) (st := []) (k := 0) (n := 0) (k' := 1) (n' := 6) O (ct_X7_needBetween_no hl  q2) ce_X7_needBetween ml_X7_61 st_X7_needBetween (xx_dt dd_X7_objects 8 rfl) (by decide) rfl rfl (Nat.le_of_ble_eq_true rfl)  (by rw [hQ]; exact ⟨by unfold o_objects; simp only [if_pos q1, if_neg q2]; rfl, rfl⟩)
  · exact sw_callSt (as := [.int x, .int (nI B)]) (st := []) (k := 0) (n := 0) (k' := 1) (n' := 6) O (ct_X7_needSet_no hl (C := B) (by omega) q1) ce_X7_needSet ml_X7_228 st_X7_needSet (xx_dt dd_X7_objects 4 rfl) (by decide) rfl rfl (Nat.le_of_ble_eq_true rfl)  (by rw [hQ]; exact ⟨by unfold o_objects; simp only [if_neg q1]; rfl, rfl⟩)
def o_most (σ : XS9) (x y : Int32) (R B : Nat) : Int32 ⊕ String := (if n_lt x B then (if n_lt y R then (if (σ 1000 7) = 1 then .inl (f_greatestWish σ 2000 (cn x) (cn y) B) else .inl (-1)) else .inr eIOB) else .inr eIOB)
theorem ct_X7_most {l : Launch} {h : XH} (hl : l.stackTraces = false) {σ : XS9} {R : Nat} (hR : σ 1001 4 = nI R) (hR5 : R ≤ 5) {B : Nat} (hB : σ 1001 9 = nI B) (hB6 : B ≤ 6) {x y : Int32} : XEo l m_X7_most 7 1 6 [.ref 1000, .int x, .int y] (setC σ h) ((xoi (o_most σ x y R B))) (setC σ h) := by
  refine XMet.of hl rfl rfl (Nat.le_of_ble_eq_true rfl) (fun Y O hh hQ => ?_)
  show SW Y 1 6 (setC σ h) 0 [.ref 1000, .int x, .int y] []
  refine sw_aload_n O (xx_dt dd_X7_most 0 rfl) rfl ?_
  refine sw_iload_n O (xx_dt dd_X7_most 1 rfl) rfl ?_
  by_cases q1 : n_lt x B
  · refine sw_callVx (as := [.int x]) (st := []) (st2 := []) (k' := 0) (n' := 0) O (ct_X7_needBidder_ok hl (σ := σ) (B := B) hB (by omega) q1) ce_X7_needBidder ml_X7_124 iv_X7_needBidder cl_X7 rfl (ly_1000 σ h) (xx_dt dd_X7_most 2 rfl) (by decide) rfl rfl (Nat.le_of_ble_eq_true rfl) rfl ?_
    refine sw_lsE (ls2 := [.ref 1000, .int (nI (cn x)), .int y]) (by rw [← q1.1]) ?_
    have hvq1 := q1.2
    refine sw_aload_n O (xx_dt dd_X7_most 3 rfl) rfl ?_
    refine sw_iload_n O (xx_dt dd_X7_most 4 rfl) rfl ?_
    by_cases q2 : n_lt y R
    · refine sw_callVx (as := [.int y]) (st := []) (st2 := []) (k' := 0) (n' := 0) O (ct_X7_needRegion_ok hl (σ := σ) (R := R) hR (by omega) q2) ce_X7_needRegion ml_X7_87 iv_X7_needRegion cl_X7 rfl (ly_1000 σ h) (xx_dt dd_X7_most 5 rfl) (by decide) rfl rfl (Nat.le_of_ble_eq_true rfl) rfl ?_
      refine sw_lsE (ls2 := [.ref 1000, .int (nI (cn x)), .int (nI (cn y))]) (by rw [← q2.1]) ?_
      have hvq2 := q2.2
      refine sw_aload_n O (xx_dt dd_X7_most 6 rfl) rfl ?_
      refine sw_get (v := .int (σ 1000 7)) O (xx_dt dd_X7_most 7 rfl) cl_X7 fl_X7_54 (ly_1000 σ h) (by decide) rfl ?_
      refine sw_iconst (x := 1) O (xx_dt dd_X7_most 8 rfl) (by decide) ?_
      refine sw_icmp_ne (tgt := 34) O (xx_dt dd_X7_most 9 rfl) (by decide) (fun q3 => ?_) (fun q3 => ?_)
      · refine sw_iconst (x := (-1)) O (xx_dt dd_X7_most 18 rfl) (by decide) ?_
        exact sw_iret O (xx_dt dd_X7_most 19 rfl) rfl rfl (by rw [hQ]; exact ⟨by unfold o_most; simp only [if_pos q1, if_pos q2, if_neg q3]; rfl, rfl⟩)
      · refine sw_aload_n O (xx_dt dd_X7_most 10 rfl) rfl ?_
        refine sw_get (v := .ref 2000) O (xx_dt dd_X7_most 11 rfl) cl_X7 fl_X7_19 (ly_1000 σ h) (by decide) rfl ?_
        refine sw_aload_n O (xx_dt dd_X7_most 12 rfl) rfl ?_
        refine sw_get (v := .ref 1001) O (xx_dt dd_X7_most 13 rfl) cl_X7 fl_X7_12 (ly_1000 σ h) (by decide) rfl ?_
        refine sw_iload_n O (xx_dt dd_X7_most 14 rfl) rfl ?_
        refine sw_iload_n O (xx_dt dd_X7_most 15 rfl) rfl ?_
        refine sw_callVx (as := [.ref 1001, .int (nI (cn x)), .int (nI (cn y))]) (st := []) (st2 := [.int (f_greatestWish σ 2000 (cn x) (cn y) B)]) O (ct_X1_greatestWish hl (σ := σ) (b := 2000) (.inl rfl) (B := B) hB (by omega) (i := cn x) (r := cn y) (by omega) (by omega)) ce_X1_greatestWish ml_X7_322 iv_X1_greatestWish cl_X1 rfl (lk_0 σ h (.inl rfl)) (xx_dt dd_X7_most 16 rfl) (by decide) rfl rfl (Nat.le_of_ble_eq_true rfl) rfl ?_
        refine sw_goto (tgt := 35) O (xx_dt dd_X7_most 17 rfl) (by decide) ?_
        exact sw_iret O (xx_dt dd_X7_most 19 rfl) rfl rfl (by rw [hQ]; exact ⟨by unfold o_most; simp only [if_pos q1, if_pos q2, if_pos q3]; rfl, rfl⟩)
    · exact sw_callVt (as := [.int y]) (st := []) (k := 0) (n := 0) (k' := 1) (n' := 6) O (ct_X7_needRegion_no hl (σ := σ) (R := R) hR (by omega) q2) ce_X7_needRegion ml_X7_87 iv_X7_needRegion cl_X7 rfl (ly_1000 σ h) (xx_dt dd_X7_most 5 rfl) (by decide) rfl rfl (Nat.le_of_ble_eq_true rfl)  (by rw [hQ]; exact ⟨by unfold o_most; simp only [if_pos q1, if_neg q2]; rfl, rfl⟩)
  · exact sw_callVt (as := [.int x]) (st := []) (k := 0) (n := 0) (k' := 1) (n' := 6) O (ct_X7_needBidder_no hl (σ := σ) (B := B) hB (by omega) q1) ce_X7_needBidder ml_X7_124 iv_X7_needBidder cl_X7 rfl (ly_1000 σ h) (xx_dt dd_X7_most 2 rfl) (by decide) rfl rfl (Nat.le_of_ble_eq_true rfl)  (by rw [hQ]; exact ⟨by unfold o_most; simp only [if_neg q1]; rfl, rfl⟩)
def o_contradicts (σ : XS9) (x : Int32) (B K : Nat) : Int32 ⊕ String := (if n_lt x B then (if (σ 1000 7) = 1 then .inl (f_contradictedRound σ 2000 (cn x) K) else .inl (-1)) else .inr eIOB)
theorem ct_X7_contradicts {l : Launch} {h : XH} (hl : l.stackTraces = false) {σ : XS9} {B : Nat} (hB : σ 1001 9 = nI B) (hB6 : B ≤ 6) {K : Nat} (hK : σ 2000 9 = nI K) (hK60 : K ≤ 60) {x : Int32} : XEo l m_X7_contradicts 7 1 6 [.ref 1000, .int x] (setC σ h) ((xoi (o_contradicts σ x B K))) (setC σ h) := by
  refine XMet.of hl rfl rfl (Nat.le_of_ble_eq_true rfl) (fun Y O hh hQ => ?_)
  show SW Y 1 6 (setC σ h) 0 [.ref 1000, .int x] []
  refine sw_aload_n O (xx_dt dd_X7_contradicts 0 rfl) rfl ?_
  refine sw_iload_n O (xx_dt dd_X7_contradicts 1 rfl) rfl ?_
  by_cases q1 : n_lt x B
  · refine sw_callVx (as := [.int x]) (st := []) (st2 := []) (k' := 0) (n' := 0) O (ct_X7_needBidder_ok hl (σ := σ) (B := B) hB (by omega) q1) ce_X7_needBidder ml_X7_124 iv_X7_needBidder cl_X7 rfl (ly_1000 σ h) (xx_dt dd_X7_contradicts 2 rfl) (by decide) rfl rfl (Nat.le_of_ble_eq_true rfl) rfl ?_
    refine sw_lsE (ls2 := [.ref 1000, .int (nI (cn x))]) (by rw [← q1.1]) ?_
    have hvq1 := q1.2
    refine sw_aload_n O (xx_dt dd_X7_contradicts 3 rfl) rfl ?_
    refine sw_get (v := .int (σ 1000 7)) O (xx_dt dd_X7_contradicts 4 rfl) cl_X7 fl_X7_54 (ly_1000 σ h) (by decide) rfl ?_
    refine sw_iconst (x := 1) O (xx_dt dd_X7_contradicts 5 rfl) (by decide) ?_
    refine sw_icmp_ne (tgt := 24) O (xx_dt dd_X7_contradicts 6 rfl) (by decide) (fun q2 => ?_) (fun q2 => ?_)
    · refine sw_iconst (x := (-1)) O (xx_dt dd_X7_contradicts 12 rfl) (by decide) ?_
      exact sw_iret O (xx_dt dd_X7_contradicts 13 rfl) rfl rfl (by rw [hQ]; exact ⟨by unfold o_contradicts; simp only [if_pos q1, if_neg q2]; rfl, rfl⟩)
    · refine sw_aload_n O (xx_dt dd_X7_contradicts 7 rfl) rfl ?_
      refine sw_get (v := .ref 2000) O (xx_dt dd_X7_contradicts 8 rfl) cl_X7 fl_X7_19 (ly_1000 σ h) (by decide) rfl ?_
      refine sw_iload_n O (xx_dt dd_X7_contradicts 9 rfl) rfl ?_
      refine sw_callVx (as := [.int (nI (cn x))]) (st := []) (st2 := [.int (f_contradictedRound σ 2000 (cn x) K)]) O (ct_X1_contradictedRound hl (σ := σ) (b := 2000) (.inl rfl) (K := K) hK (by omega) (i := cn x) (by omega)) ce_X1_contradictedRound ml_X7_326 iv_X1_contradictedRound cl_X1 rfl (lk_0 σ h (.inl rfl)) (xx_dt dd_X7_contradicts 10 rfl) (by decide) rfl rfl (Nat.le_of_ble_eq_true rfl) rfl ?_
      refine sw_goto (tgt := 25) O (xx_dt dd_X7_contradicts 11 rfl) (by decide) ?_
      exact sw_iret O (xx_dt dd_X7_contradicts 13 rfl) rfl rfl (by rw [hQ]; exact ⟨by unfold o_contradicts; simp only [if_pos q1, if_pos q2]; rfl, rfl⟩)
  · exact sw_callVt (as := [.int x]) (st := []) (k := 0) (n := 0) (k' := 1) (n' := 6) O (ct_X7_needBidder_no hl (σ := σ) (B := B) hB (by omega) q1) ce_X7_needBidder ml_X7_124 iv_X7_needBidder cl_X7 rfl (ly_1000 σ h) (xx_dt dd_X7_contradicts 2 rfl) (by decide) rfl rfl (Nat.le_of_ble_eq_true rfl)  (by rw [hQ]; exact ⟨by unfold o_contradicts; simp only [if_neg q1]; rfl, rfl⟩)
def o_anew (σ : XS9) (x y z v : Int32) (R B K : Nat) : Int32 ⊕ String := (if n_rd x K then (if n_lt y B then (if n_lt z R then (if n_bt v 0 5 then .inl (f_allPrices (g_runLog σ 3000 2000 (nI (rn x + 1)) (cn y) (cn z) (nI (cn v)) B R K) 3000) else .inr eIAE) else .inr eIOB) else .inr eIOB) else .inr eIOB)
def g_anew (σ : XS9) (x y z v : Int32) (R B K : Nat) : XS9 := (if n_rd x K then (if n_lt y B then (if n_lt z R then (if n_bt v 0 5 then g_runLog σ 3000 2000 (nI (rn x + 1)) (cn y) (cn z) (nI (cn v)) B R K else σ) else σ) else σ) else σ)
theorem ct_X7_anew {l : Launch} {h : XH} (hl : l.stackTraces = false) {σ : XS9} {R : Nat} (hR : σ 1001 4 = nI R) (hR5 : R ≤ 5) {B : Nat} (hB : σ 1001 9 = nI B) (hB6 : B ≤ 6) {K : Nat} (hK : σ 2000 9 = nI K) (hK60 : K ≤ 60) {x y z v : Int32} : XEo l m_X7_anew 7 1 6 [.ref 1000, .int x, .int y, .int z, .int v] (setC σ h) ((xoi (o_anew σ x y z v R B K))) (setC (g_anew σ x y z v R B K) h) := by
  refine XMet.of hl rfl rfl (Nat.le_of_ble_eq_true rfl) (fun Y O hh hQ => ?_)
  show SW Y 1 6 (setC σ h) 0 [.ref 1000, .int x, .int y, .int z, .int v] []
  refine sw_aload_n O (xx_dt dd_X7_anew 0 rfl) rfl ?_
  refine sw_iload_n O (xx_dt dd_X7_anew 1 rfl) rfl ?_
  by_cases q1 : n_rd x K
  · refine sw_callVx (as := [.int x]) (st := []) (st2 := []) (k' := 0) (n' := 0) O (ct_X7_needRound_ok hl (σ := σ) (K := K) hK (by omega) q1) ce_X7_needRound ml_X7_255 iv_X7_needRound cl_X7 rfl (ly_1000 σ h) (xx_dt dd_X7_anew 2 rfl) (by decide) rfl rfl (Nat.le_of_ble_eq_true rfl) rfl ?_
    refine sw_lsE (ls2 := [.ref 1000, .int (nI (rn x + 1)), .int y, .int z, .int v]) (by rw [← q1.1]) ?_
    have hvq1 := q1.2
    refine sw_aload_n O (xx_dt dd_X7_anew 3 rfl) rfl ?_
    refine sw_iload_n O (xx_dt dd_X7_anew 4 rfl) rfl ?_
    by_cases q2 : n_lt y B
    · refine sw_callVx (as := [.int y]) (st := []) (st2 := []) (k' := 0) (n' := 0) O (ct_X7_needBidder_ok hl (σ := σ) (B := B) hB (by omega) q2) ce_X7_needBidder ml_X7_124 iv_X7_needBidder cl_X7 rfl (ly_1000 σ h) (xx_dt dd_X7_anew 5 rfl) (by decide) rfl rfl (Nat.le_of_ble_eq_true rfl) rfl ?_
      refine sw_lsE (ls2 := [.ref 1000, .int (nI (rn x + 1)), .int (nI (cn y)), .int z, .int v]) (by rw [← q2.1]) ?_
      have hvq2 := q2.2
      refine sw_aload_n O (xx_dt dd_X7_anew 6 rfl) rfl ?_
      refine sw_iload_n O (xx_dt dd_X7_anew 7 rfl) rfl ?_
      by_cases q3 : n_lt z R
      · refine sw_callVx (as := [.int z]) (st := []) (st2 := []) (k' := 0) (n' := 0) O (ct_X7_needRegion_ok hl (σ := σ) (R := R) hR (by omega) q3) ce_X7_needRegion ml_X7_87 iv_X7_needRegion cl_X7 rfl (ly_1000 σ h) (xx_dt dd_X7_anew 8 rfl) (by decide) rfl rfl (Nat.le_of_ble_eq_true rfl) rfl ?_
        refine sw_lsE (ls2 := [.ref 1000, .int (nI (rn x + 1)), .int (nI (cn y)), .int (nI (cn z)), .int v]) (by rw [← q3.1]) ?_
        have hvq3 := q3.2
        refine sw_iload O (xx_dt dd_X7_anew 9 rfl) rfl ?_
        refine sw_iconst (x := 0) O (xx_dt dd_X7_anew 10 rfl) (by decide) ?_
        refine sw_iconst (x := 5) O (xx_dt dd_X7_anew 11 rfl) (by decide) ?_
        by_cases q4 : n_bt v 0 5
        · refine sw_callSx (as := [.int v, .int 0, .int 5]) (st := []) (st2 := []) (k' := 0) (n' := 0) O (ct_X7_needBetween_ok hl  q4) ce_X7_needBetween ml_X7_61 st_X7_needBetween (xx_dt dd_X7_anew 12 rfl) (by decide) rfl rfl (Nat.le_of_ble_eq_true rfl) rfl ?_
          refine sw_lsE (ls2 := [.ref 1000, .int (nI (rn x + 1)), .int (nI (cn y)), .int (nI (cn z)), .int (nI (cn v))]) (by rw [← (bt_nat 5 q4 (by decide) (by decide) (by decide)).1]) ?_
          have hvq4 := (bt_nat 5 q4 (by decide) (by decide) (by decide)).2
          refine sw_aload_n O (xx_dt dd_X7_anew 13 rfl) rfl ?_
          refine sw_get (v := .ref 3000) O (xx_dt dd_X7_anew 14 rfl) cl_X7 fl_X7_23 (ly_1000 σ h) (by decide) rfl ?_
          refine sw_aload_n O (xx_dt dd_X7_anew 15 rfl) rfl ?_
          refine sw_get (v := .ref 1001) O (xx_dt dd_X7_anew 16 rfl) cl_X7 fl_X7_12 (ly_1000 σ h) (by decide) rfl ?_
          refine sw_aload_n O (xx_dt dd_X7_anew 17 rfl) rfl ?_
          refine sw_get (v := .ref 2000) O (xx_dt dd_X7_anew 18 rfl) cl_X7 fl_X7_19 (ly_1000 σ h) (by decide) rfl ?_
          refine sw_iload_n O (xx_dt dd_X7_anew 19 rfl) rfl ?_
          refine sw_iload_n O (xx_dt dd_X7_anew 20 rfl) rfl ?_
          refine sw_iload_n O (xx_dt dd_X7_anew 21 rfl) rfl ?_
          refine sw_iload O (xx_dt dd_X7_anew 22 rfl) rfl ?_
          refine sw_callVx (as := [.ref 1001, .ref 2000, .int (nI (rn x + 1)), .int (nI (cn y)), .int (nI (cn z)), .int (nI (cn v))]) (st := []) (st2 := []) O (ct_X1_runLog hl (σ := σ) (b := 3000) (c := 2000) (.inr rfl) (.inl rfl) (by decide) (B := B) hB (by omega) (R := R) hR (by omega) (K := K) hK (by omega) (x := nI (rn x + 1)) (y := nI (cn v)) (j := cn y) (r := cn z) (by omega) (by omega)) ce_X1_runLog ml_X7_329 iv_X1_runLog cl_X1 rfl (lk_0 σ h (.inr rfl)) (xx_dt dd_X7_anew 23 rfl) (by decide) rfl rfl (Nat.le_of_ble_eq_true rfl) rfl ?_
          refine sw_aload_n O (xx_dt dd_X7_anew 24 rfl) rfl ?_
          refine sw_get (v := .ref 3000) O (xx_dt dd_X7_anew 25 rfl) cl_X7 fl_X7_23 (ly_1000 (g_runLog σ 3000 2000 (nI (rn x + 1)) (cn y) (cn z) (nI (cn v)) B R K) h) (by decide) rfl ?_
          refine sw_callVx (as := []) (st := []) (st2 := [.int (f_allPrices (g_runLog σ 3000 2000 (nI (rn x + 1)) (cn y) (cn z) (nI (cn v)) B R K) 3000)]) O (ct_X1_allPrices hl (σ := g_runLog σ 3000 2000 (nI (rn x + 1)) (cn y) (cn z) (nI (cn v)) B R K) (b := 3000) (.inr rfl)  ) ce_X1_allPrices ml_X7_120 iv_X1_allPrices cl_X1 rfl (lk_0 (g_runLog σ 3000 2000 (nI (rn x + 1)) (cn y) (cn z) (nI (cn v)) B R K) h (.inr rfl)) (xx_dt dd_X7_anew 26 rfl) (by decide) rfl rfl (Nat.le_of_ble_eq_true rfl) rfl ?_
          exact sw_iret O (xx_dt dd_X7_anew 27 rfl) rfl rfl (by rw [hQ]; exact ⟨by unfold o_anew; simp only [if_pos q1, if_pos q2, if_pos q3, if_pos q4]; rfl, by unfold g_anew; simp only [if_pos q1, if_pos q2, if_pos q3, if_pos q4]⟩)
        · exact sw_callSt (as := [.int v, .int 0, .int 5]) (st := []) (k := 0) (n := 0) (k' := 1) (n' := 6) O (ct_X7_needBetween_no hl  q4) ce_X7_needBetween ml_X7_61 st_X7_needBetween (xx_dt dd_X7_anew 12 rfl) (by decide) rfl rfl (Nat.le_of_ble_eq_true rfl)  (by rw [hQ]; exact ⟨by unfold o_anew; simp only [if_pos q1, if_pos q2, if_pos q3, if_neg q4]; rfl, by unfold g_anew; simp only [if_pos q1, if_pos q2, if_pos q3, if_neg q4]⟩)
      · exact sw_callVt (as := [.int z]) (st := []) (k := 0) (n := 0) (k' := 1) (n' := 6) O (ct_X7_needRegion_no hl (σ := σ) (R := R) hR (by omega) q3) ce_X7_needRegion ml_X7_87 iv_X7_needRegion cl_X7 rfl (ly_1000 σ h) (xx_dt dd_X7_anew 8 rfl) (by decide) rfl rfl (Nat.le_of_ble_eq_true rfl)  (by rw [hQ]; exact ⟨by unfold o_anew; simp only [if_pos q1, if_pos q2, if_neg q3]; rfl, by unfold g_anew; simp only [if_pos q1, if_pos q2, if_neg q3]⟩)
    · exact sw_callVt (as := [.int y]) (st := []) (k := 0) (n := 0) (k' := 1) (n' := 6) O (ct_X7_needBidder_no hl (σ := σ) (B := B) hB (by omega) q2) ce_X7_needBidder ml_X7_124 iv_X7_needBidder cl_X7 rfl (ly_1000 σ h) (xx_dt dd_X7_anew 5 rfl) (by decide) rfl rfl (Nat.le_of_ble_eq_true rfl)  (by rw [hQ]; exact ⟨by unfold o_anew; simp only [if_pos q1, if_neg q2]; rfl, by unfold g_anew; simp only [if_pos q1, if_neg q2]⟩)
  · exact sw_callVt (as := [.int x]) (st := []) (k := 0) (n := 0) (k' := 1) (n' := 6) O (ct_X7_needRound_no hl (σ := σ) (K := K) hK (by omega) q1) ce_X7_needRound ml_X7_255 iv_X7_needRound cl_X7 rfl (ly_1000 σ h) (xx_dt dd_X7_anew 2 rfl) (by decide) rfl rfl (Nat.le_of_ble_eq_true rfl)  (by rw [hQ]; exact ⟨by unfold o_anew; simp only [if_neg q1]; rfl, by unfold g_anew; simp only [if_neg q1]⟩)
