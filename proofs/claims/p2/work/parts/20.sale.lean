/-! ===== the sale ===== -/
def f_paymentOf (σ : XS9) (i w : Nat) : Int32 := (if (σ 1000 7) = 3 then σ (1131 + w) i else 0)
theorem ct_X7_paymentOf {l : Launch} {h : XH} (hl : l.stackTraces = false) {σ : XS9} {w : Nat} (hw : σ 1000 9 = nI w) (hw3 : w < 3) {i : Nat} (hi : i < 6) : XEx l m_X7_paymentOf 0 0 0 [.ref 1000, .int (nI i)] (setC σ h) (some (.int (f_paymentOf σ i w))) (setC σ h) := by
  refine XMet.of hl rfl rfl (Nat.le_of_ble_eq_true rfl) (fun Y O hh hQ => ?_)
  show SW Y 0 0 (setC σ h) 0 [.ref 1000, .int (nI i)] []
  refine sw_aload_n O (xx_dt dd_X7_paymentOf 0 rfl) rfl ?_
  refine sw_get (v := .int (σ 1000 7)) O (xx_dt dd_X7_paymentOf 1 rfl) cl_X7 fl_X7_54 (ly_1000 σ h) (by decide) rfl ?_
  refine sw_iconst (x := 3) O (xx_dt dd_X7_paymentOf 2 rfl) (by decide) ?_
  refine sw_icmp_ne (tgt := 25) O (xx_dt dd_X7_paymentOf 3 rfl) (by decide) (fun q1 => ?_) (fun q1 => ?_)
  · refine sw_iconst (x := 0) O (xx_dt dd_X7_paymentOf 13 rfl) (by decide) ?_
    exact sw_iret O (xx_dt dd_X7_paymentOf 14 rfl) rfl rfl (by rw [hQ]; exact ⟨by unfold f_paymentOf; simp only [if_neg q1], rfl⟩)
  · refine sw_aload_n O (xx_dt dd_X7_paymentOf 4 rfl) rfl ?_
    refine sw_get (v := .ref 1004) O (xx_dt dd_X7_paymentOf 5 rfl) cl_X7 fl_X7_36 (ly_1000 σ h) (by decide) rfl ?_
    refine sw_get (v := .ref 1130) O (xx_dt dd_X7_paymentOf 6 rfl) cl_X4 fl_X7_310 (ly_1004 σ h) (by decide) rfl ?_
    refine sw_aload_n O (xx_dt dd_X7_paymentOf 7 rfl) rfl ?_
    refine sw_get (v := .int (nI w)) O (xx_dt dd_X7_paymentOf 8 rfl) cl_X7 fl_X7_190 (ly_1000 σ h) (by decide) (congrArg Value.int hw) ?_
    refine sw_aaload (v := .ref (1131 + w)) O (xx_dt dd_X7_paymentOf 9 rfl) (by omega) (by omega) (ly_1130 σ h) (pk_in w _ (by omega)) (by rw [nI_clamp (by omega)]; try exact rfl) ?_
    refine sw_iload_n O (xx_dt dd_X7_paymentOf 10 rfl) rfl ?_
    refine sw_iaload (v := .int (σ (1131 + w) i)) O (xx_dt dd_X7_paymentOf 11 rfl) (lr_1130 σ h (k := w) (by omega)) (pk_in i _ (by omega)) (by rw [nI_clamp (by omega)]; try exact rfl) ?_
    refine sw_goto (tgt := 26) O (xx_dt dd_X7_paymentOf 12 rfl) (by decide) ?_
    exact sw_iret O (xx_dt dd_X7_paymentOf 14 rfl) rfl rfl (by rw [hQ]; exact ⟨by unfold f_paymentOf; simp only [if_pos q1], rfl⟩)
def f_dueOf (σ : XS9) (i w : Nat) : Int32 := ((f_paymentOf σ i w) * (100 - (σ 1016 i))) / 100
theorem ct_X7_dueOf {l : Launch} {h : XH} (hl : l.stackTraces = false) {σ : XS9} {w : Nat} (hw : σ 1000 9 = nI w) (hw3 : w < 3) {i : Nat} (hi : i < 6) : XEx l m_X7_dueOf 1 0 0 [.ref 1000, .int (nI i)] (setC σ h) (some (.int (f_dueOf σ i w))) (setC σ h) := by
  refine XMet.of hl rfl rfl (Nat.le_of_ble_eq_true rfl) (fun Y O hh hQ => ?_)
  show SW Y 0 0 (setC σ h) 0 [.ref 1000, .int (nI i)] []
  refine sw_aload_n O (xx_dt dd_X7_dueOf 0 rfl) rfl ?_
  refine sw_iload_n O (xx_dt dd_X7_dueOf 1 rfl) rfl ?_
  refine sw_callVx (as := [.int (nI i)]) (st := []) (st2 := [.int (f_paymentOf σ i w)]) O (ct_X7_paymentOf hl (σ := σ) (w := w) hw (by omega) (i := i) (by omega)) ce_X7_paymentOf ml_X7_282 iv_X7_paymentOf cl_X7 rfl (ly_1000 σ h) (xx_dt dd_X7_dueOf 2 rfl) (by decide) rfl rfl (Nat.le_of_ble_eq_true rfl) rfl ?_
  refine sw_bipush (x := 100) O (xx_dt dd_X7_dueOf 3 rfl) (by decide) ?_
  refine sw_aload_n O (xx_dt dd_X7_dueOf 4 rfl) rfl ?_
  refine sw_get (v := .ref 1001) O (xx_dt dd_X7_dueOf 5 rfl) cl_X7 fl_X7_12 (ly_1000 σ h) (by decide) rfl ?_
  refine sw_get (v := .ref 1016) O (xx_dt dd_X7_dueOf 6 rfl) cl_X6 fl_X7_387 (ly_1001 σ h) (by decide) rfl ?_
  refine sw_iload_n O (xx_dt dd_X7_dueOf 7 rfl) rfl ?_
  refine sw_iaload (v := .int (σ 1016 i)) O (xx_dt dd_X7_dueOf 8 rfl) (ly_1016 σ h) (pk_in i _ (by omega)) (by rw [nI_clamp (by omega)]; try exact rfl) ?_
  refine sw_isub O (xx_dt dd_X7_dueOf 9 rfl) ?_
  refine sw_imul O (xx_dt dd_X7_dueOf 10 rfl) ?_
  refine sw_bipush (x := 100) O (xx_dt dd_X7_dueOf 11 rfl) (by decide) ?_
  refine sw_idiv O (xx_dt dd_X7_dueOf 12 rfl) (by first | decide | assumption) ?_
  exact sw_iret O (xx_dt dd_X7_dueOf 13 rfl) rfl rfl (by rw [hQ]; exact ⟨by unfold f_dueOf; rfl, rfl⟩)
def x_allDue_4 (σ : XS9) (w B : Nat) (s0 : Int32) : Int32 := xit (fun i4 s4 => s4 + (f_dueOf σ i4 w)) B 0 s0
def f_allDue (σ : XS9) (w B : Nat) : Int32 := (x_allDue_4 σ w B 0)
theorem ct_X7_allDue {l : Launch} {h : XH} (hl : l.stackTraces = false) {σ : XS9} {w : Nat} (hw : σ 1000 9 = nI w) (hw3 : w < 3) {B : Nat} (hB : σ 1001 9 = nI B) (hB6 : B ≤ 6)  : XEx l m_X7_allDue 2 0 0 [.ref 1000] (setC σ h) (some (.int (f_allDue σ w B))) (setC σ h) := by
  refine XMet.of hl rfl rfl (Nat.le_of_ble_eq_true rfl) (fun Y O hh hQ => ?_)
  show SW Y 0 0 (setC σ h) 0 [.ref 1000, xx_d, xx_d] []
  refine sw_iconst (x := 0) O (xx_dt dd_X7_allDue 0 rfl) (by decide) ?_
  refine sw_istore_n (ls2 := [.ref 1000, .int 0, xx_d]) O (xx_dt dd_X7_allDue 1 rfl) (by decide) rfl ?_
  refine sw_iconst (x := 0) O (xx_dt dd_X7_allDue 2 rfl) (by decide) ?_
  refine sw_istore_n (ls2 := [.ref 1000, .int 0, .int 0]) O (xx_dt dd_X7_allDue 3 rfl) (by decide) rfl ?_
  refine sw_for (fun i4 s4 => s4 + (f_dueOf σ i4 w)) (fun _ _ => True) (hp := fun _ => setC σ h) (hd := 4) (lc := fun i4 s4 => [.ref 1000, .int s4, .int (nI i4)]) (N := B) (fun i4 s4 hi4 hP4 => ⟨trivial, fun kk4 => ?_⟩) B 0 0 (by omega) (trivial) (fun hP4 => ?_)
  · refine sw_iload_n O (xx_dt dd_X7_allDue 4 rfl) rfl ?_
    refine sw_aload_n O (xx_dt dd_X7_allDue 5 rfl) rfl ?_
    refine sw_get (v := .ref 1001) O (xx_dt dd_X7_allDue 6 rfl) cl_X7 fl_X7_12 (ly_1000 σ h) (by decide) rfl ?_
    refine sw_get (v := .int (nI B)) O (xx_dt dd_X7_allDue 7 rfl) cl_X6 fl_X7_100 (ly_1001 σ h) (by decide) (congrArg Value.int hB) ?_
    refine sw_icmp_ge (tgt := 29) O (xx_dt dd_X7_allDue 8 rfl) (by decide) (fun q1 => ?_) (fun q1 => ?_)
    · exact absurd q1 (nI_ge (b := B) hi4 (by omega))
    · refine sw_iload_n O (xx_dt dd_X7_allDue 9 rfl) rfl ?_
      refine sw_aload_n O (xx_dt dd_X7_allDue 10 rfl) rfl ?_
      refine sw_iload_n O (xx_dt dd_X7_allDue 11 rfl) rfl ?_
      refine sw_callVx (as := [.int (nI i4)]) (st := [.int s4]) (st2 := [.int (f_dueOf σ i4 w), .int s4]) O (ct_X7_dueOf hl (σ := σ) (w := w) hw (by omega) (i := i4) (by omega)) ce_X7_dueOf ml_X7_279 iv_X7_dueOf cl_X7 rfl (ly_1000 σ h) (xx_dt dd_X7_allDue 12 rfl) (by decide) rfl rfl (Nat.le_of_ble_eq_true rfl) rfl ?_
      refine sw_iadd O (xx_dt dd_X7_allDue 13 rfl) ?_
      refine sw_istore_n (ls2 := [.ref 1000, .int (s4 + (f_dueOf σ i4 w)), .int (nI i4)]) O (xx_dt dd_X7_allDue 14 rfl) (by decide) rfl ?_
      refine sw_iinc (y := nI (i4 + 1)) (ls2 := [.ref 1000, .int (s4 + (f_dueOf σ i4 w)), .int (nI (i4 + 1))]) O (xx_dt dd_X7_allDue 15 rfl) rfl (nI_1 _) (by decide) rfl ?_
      refine sw_goto (tgt := 4) O (xx_dt dd_X7_allDue 16 rfl) (by decide) ?_
      exact kk4
  · show SW Y _ _ (setC σ h) 4 [.ref 1000, .int (x_allDue_4 σ w B 0), .int (nI B)] []
    refine sw_iload_n O (xx_dt dd_X7_allDue 4 rfl) rfl ?_
    refine sw_aload_n O (xx_dt dd_X7_allDue 5 rfl) rfl ?_
    refine sw_get (v := .ref 1001) O (xx_dt dd_X7_allDue 6 rfl) cl_X7 fl_X7_12 (ly_1000 σ h) (by decide) rfl ?_
    refine sw_get (v := .int (nI B)) O (xx_dt dd_X7_allDue 7 rfl) cl_X6 fl_X7_100 (ly_1001 σ h) (by decide) (congrArg Value.int hB) ?_
    refine sw_icmp_ge (tgt := 29) O (xx_dt dd_X7_allDue 8 rfl) (by decide) (fun q1 => ?_) (fun q1 => ?_)
    · refine sw_iload_n O (xx_dt dd_X7_allDue 17 rfl) rfl ?_
      exact sw_iret O (xx_dt dd_X7_allDue 18 rfl) rfl rfl (by rw [hQ]; exact ⟨by unfold f_allDue; rfl, rfl⟩)
    · exact absurd (Int32.le_refl _) q1
def f_roundNow (σ : XS9) (K : Nat) : Int32 := (if (σ 1000 7) = 1 then nI (K + 1) else nI K)
theorem ct_X7_roundNow {l : Launch} {h : XH} (hl : l.stackTraces = false) {σ : XS9} {K : Nat} (hK : σ 2000 9 = nI K) (hK60 : K ≤ 60) : XEx l m_X7_roundNow 0 0 0 [.ref 1000] (setC σ h) (some (.int (f_roundNow σ K))) (setC σ h) := by
  refine XMet.of hl rfl rfl (Nat.le_of_ble_eq_true rfl) (fun Y O hh hQ => ?_)
  show SW Y 0 0 (setC σ h) 0 [.ref 1000] []
  refine sw_aload_n O (xx_dt dd_X7_roundNow 0 rfl) rfl ?_
  refine sw_get (v := .int (σ 1000 7)) O (xx_dt dd_X7_roundNow 1 rfl) cl_X7 fl_X7_54 (ly_1000 σ h) (by decide) rfl ?_
  refine sw_iconst (x := 1) O (xx_dt dd_X7_roundNow 2 rfl) (by decide) ?_
  refine sw_icmp_ne (tgt := 20) O (xx_dt dd_X7_roundNow 3 rfl) (by decide) (fun q1 => ?_) (fun q1 => ?_)
  · refine sw_aload_n O (xx_dt dd_X7_roundNow 10 rfl) rfl ?_
    refine sw_get (v := .ref 2000) O (xx_dt dd_X7_roundNow 11 rfl) cl_X7 fl_X7_19 (ly_1000 σ h) (by decide) rfl ?_
    refine sw_get (v := .int (nI K)) O (xx_dt dd_X7_roundNow 12 rfl) cl_X1 fl_X7_379 (lk_0 σ h (.inl rfl)) (by decide) (congrArg Value.int hK) ?_
    exact sw_iret O (xx_dt dd_X7_roundNow 13 rfl) rfl rfl (by rw [hQ]; exact ⟨by unfold f_roundNow; simp only [if_neg q1], rfl⟩)
  · refine sw_aload_n O (xx_dt dd_X7_roundNow 4 rfl) rfl ?_
    refine sw_get (v := .ref 2000) O (xx_dt dd_X7_roundNow 5 rfl) cl_X7 fl_X7_19 (ly_1000 σ h) (by decide) rfl ?_
    refine sw_get (v := .int (nI K)) O (xx_dt dd_X7_roundNow 6 rfl) cl_X1 fl_X7_379 (lk_0 σ h (.inl rfl)) (by decide) (congrArg Value.int hK) ?_
    refine sw_iconst (x := 1) O (xx_dt dd_X7_roundNow 7 rfl) (by decide) ?_
    refine sw_iadd O (xx_dt dd_X7_roundNow 8 rfl) ?_
    rw [nI_a1 K]
    refine sw_goto (tgt := 27) O (xx_dt dd_X7_roundNow 9 rfl) (by decide) ?_
    exact sw_iret O (xx_dt dd_X7_roundNow 13 rfl) rfl rfl (by rw [hQ]; exact ⟨by unfold f_roundNow; simp only [if_pos q1], rfl⟩)
def x_isReplaySame_2 (σ : XS9) (R B : Nat) (s0 : Unit) : Unit ⊕ Int32 := xitR (fun i2 s2 => (if (σ (3000 + 1) i2) = (σ (2000 + 1) i2) then .inl () else .inr 0)) R 0 s0
def x_isReplaySame_44 (σ : XS9) (R B : Nat) (s0 : Unit) : Unit ⊕ Int32 := xitR (fun i44 s44 => (if (σ (3000 + 2) i44) = (σ (2000 + 2) i44) then .inl () else .inr 0)) B 0 s0
def f_isReplaySame (σ : XS9) (R B : Nat) : Int32 := (match (x_isReplaySame_2 σ R B ()) with | .inl s2 => (match (x_isReplaySame_44 σ R B ()) with | .inl s44 => 1 | .inr r44 => r44) | .inr r2 => r2)
theorem ct_X7_isReplaySame {l : Launch} {h : XH} (hl : l.stackTraces = false) {σ : XS9} {R : Nat} (hR : σ 1001 4 = nI R) (hR5 : R ≤ 5) {B : Nat} (hB : σ 1001 9 = nI B) (hB6 : B ≤ 6)  : XEx l m_X7_isReplaySame 0 0 0 [.ref 1000] (setC σ h) (some (.int (f_isReplaySame σ R B))) (setC σ h) := by
  refine XMet.of hl rfl rfl (Nat.le_of_ble_eq_true rfl) (fun Y O hh hQ => ?_)
  show SW Y 0 0 (setC σ h) 0 [.ref 1000, xx_d] []
  refine sw_iconst (x := 0) O (xx_dt dd_X7_isReplaySame 0 rfl) (by decide) ?_
  refine sw_istore_n (ls2 := [.ref 1000, .int 0]) O (xx_dt dd_X7_isReplaySame 1 rfl) (by decide) rfl ?_
  refine sw_forR (R := Int32) (fun i2 s2 => (if (σ (3000 + 1) i2) = (σ (2000 + 1) i2) then .inl () else .inr 0)) (fun _ _ => True) (FR := fun r => f_isReplaySame σ R B = r) (hp := fun _ => setC σ h) (hd := 2) (lc := fun i2 s2 => [.ref 1000, .int (nI i2)]) (N := R) (fun i2 s2 hi2 hP2 => ⟨fun _ _ => trivial, fun kk2 kr2 => ?_⟩) R 0 () (by omega) (trivial) (fun sN2 eN2 hP2 => ?_) (fun r2 eN2 => ?_)
  · refine sw_iload_n O (xx_dt dd_X7_isReplaySame 2 rfl) rfl ?_
    refine sw_aload_n O (xx_dt dd_X7_isReplaySame 3 rfl) rfl ?_
    refine sw_get (v := .ref 1001) O (xx_dt dd_X7_isReplaySame 4 rfl) cl_X7 fl_X7_12 (ly_1000 σ h) (by decide) rfl ?_
    refine sw_get (v := .int (nI R)) O (xx_dt dd_X7_isReplaySame 5 rfl) cl_X6 fl_X7_69 (ly_1001 σ h) (by decide) (congrArg Value.int hR) ?_
    refine sw_icmp_ge (tgt := 42) O (xx_dt dd_X7_isReplaySame 6 rfl) (by decide) (fun q1 => ?_) (fun q1 => ?_)
    · exact absurd q1 (nI_ge (b := R) hi2 (by omega))
    · refine sw_aload_n O (xx_dt dd_X7_isReplaySame 7 rfl) rfl ?_
      refine sw_get (v := .ref 3000) O (xx_dt dd_X7_isReplaySame 8 rfl) cl_X7 fl_X7_23 (ly_1000 σ h) (by decide) rfl ?_
      refine sw_get (v := .ref (3000 + 1)) O (xx_dt dd_X7_isReplaySame 9 rfl) cl_X1 fl_X7_393 (lk_0 σ h (.inr rfl)) (by decide) rfl ?_
      refine sw_iload_n O (xx_dt dd_X7_isReplaySame 10 rfl) rfl ?_
      refine sw_iaload (v := .int (σ (3000 + 1) i2)) O (xx_dt dd_X7_isReplaySame 11 rfl) (lk_1 σ h (.inr rfl)) (pk_in i2 _ (by omega)) (by rw [nI_clamp (by omega)]; try exact rfl) ?_
      refine sw_aload_n O (xx_dt dd_X7_isReplaySame 12 rfl) rfl ?_
      refine sw_get (v := .ref 2000) O (xx_dt dd_X7_isReplaySame 13 rfl) cl_X7 fl_X7_19 (ly_1000 σ h) (by decide) rfl ?_
      refine sw_get (v := .ref (2000 + 1)) O (xx_dt dd_X7_isReplaySame 14 rfl) cl_X1 fl_X7_393 (lk_0 σ h (.inl rfl)) (by decide) rfl ?_
      refine sw_iload_n O (xx_dt dd_X7_isReplaySame 15 rfl) rfl ?_
      refine sw_iaload (v := .int (σ (2000 + 1) i2)) O (xx_dt dd_X7_isReplaySame 16 rfl) (lk_1 σ h (.inl rfl)) (pk_in i2 _ (by omega)) (by rw [nI_clamp (by omega)]; try exact rfl) ?_
      refine sw_icmp_eq (tgt := 36) O (xx_dt dd_X7_isReplaySame 17 rfl) (by decide) (fun q2 => ?_) (fun q2 => ?_)
      · refine sw_iinc (y := nI (i2 + 1)) (ls2 := [.ref 1000, .int (nI (i2 + 1))]) O (xx_dt dd_X7_isReplaySame 20 rfl) rfl (nI_1 _) (by decide) rfl ?_
        refine sw_goto (tgt := 2) O (xx_dt dd_X7_isReplaySame 21 rfl) (by decide) ?_
        exact kk2 () (by simp only [if_pos q2])
      · refine sw_iconst (x := 0) O (xx_dt dd_X7_isReplaySame 18 rfl) (by decide) ?_
        exact sw_iret O (xx_dt dd_X7_isReplaySame 19 rfl) rfl rfl (by rw [hQ, kr2 0 (by simp only [if_neg q2])]; exact ⟨rfl, rfl⟩)
  · show SW Y _ _ (setC σ h) 2 [.ref 1000, .int (nI R)] []
    refine sw_iload_n O (xx_dt dd_X7_isReplaySame 2 rfl) rfl ?_
    refine sw_aload_n O (xx_dt dd_X7_isReplaySame 3 rfl) rfl ?_
    refine sw_get (v := .ref 1001) O (xx_dt dd_X7_isReplaySame 4 rfl) cl_X7 fl_X7_12 (ly_1000 σ h) (by decide) rfl ?_
    refine sw_get (v := .int (nI R)) O (xx_dt dd_X7_isReplaySame 5 rfl) cl_X6 fl_X7_69 (ly_1001 σ h) (by decide) (congrArg Value.int hR) ?_
    refine sw_icmp_ge (tgt := 42) O (xx_dt dd_X7_isReplaySame 6 rfl) (by decide) (fun q1 => ?_) (fun q1 => ?_)
    · refine sw_iconst (x := 0) O (xx_dt dd_X7_isReplaySame 22 rfl) (by decide) ?_
      refine sw_istore_n (ls2 := [.ref 1000, .int 0]) O (xx_dt dd_X7_isReplaySame 23 rfl) (by decide) rfl ?_
      refine sw_forR (R := Int32) (fun i44 s44 => (if (σ (3000 + 2) i44) = (σ (2000 + 2) i44) then .inl () else .inr 0)) (fun _ _ => True) (FR := fun r => f_isReplaySame σ R B = r) (hp := fun _ => setC σ h) (hd := 44) (lc := fun i44 s44 => [.ref 1000, .int (nI i44)]) (N := B) (fun i44 s44 hi44 hP44 => ⟨fun _ _ => trivial, fun kk44 kr44 => ?_⟩) B 0 () (by omega) (trivial) (fun sN44 eN44 hP44 => ?_) (fun r44 eN44 => ?_)
      · refine sw_iload_n O (xx_dt dd_X7_isReplaySame 24 rfl) rfl ?_
        refine sw_aload_n O (xx_dt dd_X7_isReplaySame 25 rfl) rfl ?_
        refine sw_get (v := .ref 1001) O (xx_dt dd_X7_isReplaySame 26 rfl) cl_X7 fl_X7_12 (ly_1000 σ h) (by decide) rfl ?_
        refine sw_get (v := .int (nI B)) O (xx_dt dd_X7_isReplaySame 27 rfl) cl_X6 fl_X7_100 (ly_1001 σ h) (by decide) (congrArg Value.int hB) ?_
        refine sw_icmp_ge (tgt := 84) O (xx_dt dd_X7_isReplaySame 28 rfl) (by decide) (fun q3 => ?_) (fun q3 => ?_)
        · exact absurd q3 (nI_ge (b := B) hi44 (by omega))
        · refine sw_aload_n O (xx_dt dd_X7_isReplaySame 29 rfl) rfl ?_
          refine sw_get (v := .ref 3000) O (xx_dt dd_X7_isReplaySame 30 rfl) cl_X7 fl_X7_23 (ly_1000 σ h) (by decide) rfl ?_
          refine sw_get (v := .ref (3000 + 2)) O (xx_dt dd_X7_isReplaySame 31 rfl) cl_X1 fl_X7_249 (lk_0 σ h (.inr rfl)) (by decide) rfl ?_
          refine sw_iload_n O (xx_dt dd_X7_isReplaySame 32 rfl) rfl ?_
          refine sw_iaload (v := .int (σ (3000 + 2) i44)) O (xx_dt dd_X7_isReplaySame 33 rfl) (lk_2 σ h (.inr rfl)) (pk_in i44 _ (by omega)) (by rw [nI_clamp (by omega)]; try exact rfl) ?_
          refine sw_aload_n O (xx_dt dd_X7_isReplaySame 34 rfl) rfl ?_
          refine sw_get (v := .ref 2000) O (xx_dt dd_X7_isReplaySame 35 rfl) cl_X7 fl_X7_19 (ly_1000 σ h) (by decide) rfl ?_
          refine sw_get (v := .ref (2000 + 2)) O (xx_dt dd_X7_isReplaySame 36 rfl) cl_X1 fl_X7_249 (lk_0 σ h (.inl rfl)) (by decide) rfl ?_
          refine sw_iload_n O (xx_dt dd_X7_isReplaySame 37 rfl) rfl ?_
          refine sw_iaload (v := .int (σ (2000 + 2) i44)) O (xx_dt dd_X7_isReplaySame 38 rfl) (lk_2 σ h (.inl rfl)) (pk_in i44 _ (by omega)) (by rw [nI_clamp (by omega)]; try exact rfl) ?_
          refine sw_icmp_eq (tgt := 78) O (xx_dt dd_X7_isReplaySame 39 rfl) (by decide) (fun q4 => ?_) (fun q4 => ?_)
          · refine sw_iinc (y := nI (i44 + 1)) (ls2 := [.ref 1000, .int (nI (i44 + 1))]) O (xx_dt dd_X7_isReplaySame 42 rfl) rfl (nI_1 _) (by decide) rfl ?_
            refine sw_goto (tgt := 44) O (xx_dt dd_X7_isReplaySame 43 rfl) (by decide) ?_
            exact kk44 () (by simp only [if_pos q4])
          · refine sw_iconst (x := 0) O (xx_dt dd_X7_isReplaySame 40 rfl) (by decide) ?_
            exact sw_iret O (xx_dt dd_X7_isReplaySame 41 rfl) rfl rfl (by rw [hQ, kr44 0 (by simp only [if_neg q4])]; exact ⟨rfl, rfl⟩)
      · show SW Y _ _ (setC σ h) 44 [.ref 1000, .int (nI B)] []
        refine sw_iload_n O (xx_dt dd_X7_isReplaySame 24 rfl) rfl ?_
        refine sw_aload_n O (xx_dt dd_X7_isReplaySame 25 rfl) rfl ?_
        refine sw_get (v := .ref 1001) O (xx_dt dd_X7_isReplaySame 26 rfl) cl_X7 fl_X7_12 (ly_1000 σ h) (by decide) rfl ?_
        refine sw_get (v := .int (nI B)) O (xx_dt dd_X7_isReplaySame 27 rfl) cl_X6 fl_X7_100 (ly_1001 σ h) (by decide) (congrArg Value.int hB) ?_
        refine sw_icmp_ge (tgt := 84) O (xx_dt dd_X7_isReplaySame 28 rfl) (by decide) (fun q3 => ?_) (fun q3 => ?_)
        · refine sw_iconst (x := 1) O (xx_dt dd_X7_isReplaySame 44 rfl) (by decide) ?_
          exact sw_iret O (xx_dt dd_X7_isReplaySame 45 rfl) rfl rfl (by rw [hQ]; exact ⟨by unfold f_isReplaySame; simp only [x_isReplaySame_2, eN2, x_isReplaySame_44, eN44], rfl⟩)
        · exact absurd (Int32.le_refl _) q3
      · unfold f_isReplaySame; simp only [x_isReplaySame_44, x_isReplaySame_2, eN2, eN44]
    · exact absurd (Int32.le_refl _) q1
  · unfold f_isReplaySame; simp only [x_isReplaySame_2, eN2]
def x_isClockSound_2 (σ : XS9) (R B : Nat) (s0 : Unit) : Unit ⊕ Int32 := xitR (fun i2 s2 => (if (σ 1012 i2) ≤ (σ (2000 + 1) i2) then .inl () else .inr 0)) R 0 s0
def x_isClockSound_44 (σ : XS9) (R B : Nat) (s0 : Unit) : Unit ⊕ Int32 := xitR (fun i44 s44 => (if (σ (2000 + 4) i44) < 0 then .inr 0 else (if (f_isWithin (σ (2000 + 2) i44) 5 (σ 1010)) = 0 then .inr 0 else .inl ()))) B 0 s0
def f_isClockSound (σ : XS9) (R B : Nat) : Int32 := (match (x_isClockSound_2 σ R B ()) with | .inl s2 => (match (x_isClockSound_44 σ R B ()) with | .inl s44 => 1 | .inr r44 => r44) | .inr r2 => r2)
theorem ct_X7_isClockSound {l : Launch} {h : XH} (hl : l.stackTraces = false) {σ : XS9} {R : Nat} (hR : σ 1001 4 = nI R) (hR5 : R ≤ 5) {B : Nat} (hB : σ 1001 9 = nI B) (hB6 : B ≤ 6)  : XEx l m_X7_isClockSound 1 0 0 [.ref 1000] (setC σ h) (some (.int (f_isClockSound σ R B))) (setC σ h) := by
  refine XMet.of hl rfl rfl (Nat.le_of_ble_eq_true rfl) (fun Y O hh hQ => ?_)
  show SW Y 0 0 (setC σ h) 0 [.ref 1000, xx_d] []
  refine sw_iconst (x := 0) O (xx_dt dd_X7_isClockSound 0 rfl) (by decide) ?_
  refine sw_istore_n (ls2 := [.ref 1000, .int 0]) O (xx_dt dd_X7_isClockSound 1 rfl) (by decide) rfl ?_
  refine sw_forR (R := Int32) (fun i2 s2 => (if (σ 1012 i2) ≤ (σ (2000 + 1) i2) then .inl () else .inr 0)) (fun _ _ => True) (FR := fun r => f_isClockSound σ R B = r) (hp := fun _ => setC σ h) (hd := 2) (lc := fun i2 s2 => [.ref 1000, .int (nI i2)]) (N := R) (fun i2 s2 hi2 hP2 => ⟨fun _ _ => trivial, fun kk2 kr2 => ?_⟩) R 0 () (by omega) (trivial) (fun sN2 eN2 hP2 => ?_) (fun r2 eN2 => ?_)
  · refine sw_iload_n O (xx_dt dd_X7_isClockSound 2 rfl) rfl ?_
    refine sw_aload_n O (xx_dt dd_X7_isClockSound 3 rfl) rfl ?_
    refine sw_get (v := .ref 1001) O (xx_dt dd_X7_isClockSound 4 rfl) cl_X7 fl_X7_12 (ly_1000 σ h) (by decide) rfl ?_
    refine sw_get (v := .int (nI R)) O (xx_dt dd_X7_isClockSound 5 rfl) cl_X6 fl_X7_69 (ly_1001 σ h) (by decide) (congrArg Value.int hR) ?_
    refine sw_icmp_ge (tgt := 42) O (xx_dt dd_X7_isClockSound 6 rfl) (by decide) (fun q1 => ?_) (fun q1 => ?_)
    · exact absurd q1 (nI_ge (b := R) hi2 (by omega))
    · refine sw_aload_n O (xx_dt dd_X7_isClockSound 7 rfl) rfl ?_
      refine sw_get (v := .ref 2000) O (xx_dt dd_X7_isClockSound 8 rfl) cl_X7 fl_X7_19 (ly_1000 σ h) (by decide) rfl ?_
      refine sw_get (v := .ref (2000 + 1)) O (xx_dt dd_X7_isClockSound 9 rfl) cl_X1 fl_X7_393 (lk_0 σ h (.inl rfl)) (by decide) rfl ?_
      refine sw_iload_n O (xx_dt dd_X7_isClockSound 10 rfl) rfl ?_
      refine sw_iaload (v := .int (σ (2000 + 1) i2)) O (xx_dt dd_X7_isClockSound 11 rfl) (lk_1 σ h (.inl rfl)) (pk_in i2 _ (by omega)) (by rw [nI_clamp (by omega)]; try exact rfl) ?_
      refine sw_aload_n O (xx_dt dd_X7_isClockSound 12 rfl) rfl ?_
      refine sw_get (v := .ref 1001) O (xx_dt dd_X7_isClockSound 13 rfl) cl_X7 fl_X7_12 (ly_1000 σ h) (by decide) rfl ?_
      refine sw_get (v := .ref 1012) O (xx_dt dd_X7_isClockSound 14 rfl) cl_X6 fl_X7_390 (ly_1001 σ h) (by decide) rfl ?_
      refine sw_iload_n O (xx_dt dd_X7_isClockSound 15 rfl) rfl ?_
      refine sw_iaload (v := .int (σ 1012 i2)) O (xx_dt dd_X7_isClockSound 16 rfl) (ly_1012 σ h) (pk_in i2 _ (by omega)) (by rw [nI_clamp (by omega)]; try exact rfl) ?_
      refine sw_icmp_ge (tgt := 36) O (xx_dt dd_X7_isClockSound 17 rfl) (by decide) (fun q2 => ?_) (fun q2 => ?_)
      · refine sw_iinc (y := nI (i2 + 1)) (ls2 := [.ref 1000, .int (nI (i2 + 1))]) O (xx_dt dd_X7_isClockSound 20 rfl) rfl (nI_1 _) (by decide) rfl ?_
        refine sw_goto (tgt := 2) O (xx_dt dd_X7_isClockSound 21 rfl) (by decide) ?_
        exact kk2 () (by simp only [if_pos q2])
      · refine sw_iconst (x := 0) O (xx_dt dd_X7_isClockSound 18 rfl) (by decide) ?_
        exact sw_iret O (xx_dt dd_X7_isClockSound 19 rfl) rfl rfl (by rw [hQ, kr2 0 (by simp only [if_neg q2])]; exact ⟨rfl, rfl⟩)
  · show SW Y _ _ (setC σ h) 2 [.ref 1000, .int (nI R)] []
    refine sw_iload_n O (xx_dt dd_X7_isClockSound 2 rfl) rfl ?_
    refine sw_aload_n O (xx_dt dd_X7_isClockSound 3 rfl) rfl ?_
    refine sw_get (v := .ref 1001) O (xx_dt dd_X7_isClockSound 4 rfl) cl_X7 fl_X7_12 (ly_1000 σ h) (by decide) rfl ?_
    refine sw_get (v := .int (nI R)) O (xx_dt dd_X7_isClockSound 5 rfl) cl_X6 fl_X7_69 (ly_1001 σ h) (by decide) (congrArg Value.int hR) ?_
    refine sw_icmp_ge (tgt := 42) O (xx_dt dd_X7_isClockSound 6 rfl) (by decide) (fun q1 => ?_) (fun q1 => ?_)
    · refine sw_iconst (x := 0) O (xx_dt dd_X7_isClockSound 22 rfl) (by decide) ?_
      refine sw_istore_n (ls2 := [.ref 1000, .int 0]) O (xx_dt dd_X7_isClockSound 23 rfl) (by decide) rfl ?_
      refine sw_forR (R := Int32) (fun i44 s44 => (if (σ (2000 + 4) i44) < 0 then .inr 0 else (if (f_isWithin (σ (2000 + 2) i44) 5 (σ 1010)) = 0 then .inr 0 else .inl ()))) (fun _ _ => True) (FR := fun r => f_isClockSound σ R B = r) (hp := fun _ => setC σ h) (hd := 44) (lc := fun i44 s44 => [.ref 1000, .int (nI i44)]) (N := B) (fun i44 s44 hi44 hP44 => ⟨fun _ _ => trivial, fun kk44 kr44 => ?_⟩) B 0 () (by omega) (trivial) (fun sN44 eN44 hP44 => ?_) (fun r44 eN44 => ?_)
      · refine sw_iload_n O (xx_dt dd_X7_isClockSound 24 rfl) rfl ?_
        refine sw_aload_n O (xx_dt dd_X7_isClockSound 25 rfl) rfl ?_
        refine sw_get (v := .ref 1001) O (xx_dt dd_X7_isClockSound 26 rfl) cl_X7 fl_X7_12 (ly_1000 σ h) (by decide) rfl ?_
        refine sw_get (v := .int (nI B)) O (xx_dt dd_X7_isClockSound 27 rfl) cl_X6 fl_X7_100 (ly_1001 σ h) (by decide) (congrArg Value.int hB) ?_
        refine sw_icmp_ge (tgt := 97) O (xx_dt dd_X7_isClockSound 28 rfl) (by decide) (fun q3 => ?_) (fun q3 => ?_)
        · exact absurd q3 (nI_ge (b := B) hi44 (by omega))
        · refine sw_aload_n O (xx_dt dd_X7_isClockSound 29 rfl) rfl ?_
          refine sw_get (v := .ref 2000) O (xx_dt dd_X7_isClockSound 30 rfl) cl_X7 fl_X7_19 (ly_1000 σ h) (by decide) rfl ?_
          refine sw_get (v := .ref (2000 + 4)) O (xx_dt dd_X7_isClockSound 31 rfl) cl_X1 fl_X7_409 (lk_0 σ h (.inl rfl)) (by decide) rfl ?_
          refine sw_iload_n O (xx_dt dd_X7_isClockSound 32 rfl) rfl ?_
          refine sw_iaload (v := .int (σ (2000 + 4) i44)) O (xx_dt dd_X7_isClockSound 33 rfl) (lk_4 σ h (.inl rfl)) (pk_in i44 _ (by omega)) (by rw [nI_clamp (by omega)]; try exact rfl) ?_
          refine sw_if_lt (tgt := 89) O (xx_dt dd_X7_isClockSound 34 rfl) (by decide) (fun q4 => ?_) (fun q4 => ?_)
          · refine sw_iconst (x := 0) O (xx_dt dd_X7_isClockSound 45 rfl) (by decide) ?_
            exact sw_iret O (xx_dt dd_X7_isClockSound 46 rfl) rfl rfl (by rw [hQ, kr44 0 (by simp only [if_pos q4])]; exact ⟨rfl, rfl⟩)
          · refine sw_aload_n O (xx_dt dd_X7_isClockSound 35 rfl) rfl ?_
            refine sw_get (v := .ref 2000) O (xx_dt dd_X7_isClockSound 36 rfl) cl_X7 fl_X7_19 (ly_1000 σ h) (by decide) rfl ?_
            refine sw_get (v := .ref (2000 + 2)) O (xx_dt dd_X7_isClockSound 37 rfl) cl_X1 fl_X7_249 (lk_0 σ h (.inl rfl)) (by decide) rfl ?_
            refine sw_iload_n O (xx_dt dd_X7_isClockSound 38 rfl) rfl ?_
            refine sw_iaload (v := .int (σ (2000 + 2) i44)) O (xx_dt dd_X7_isClockSound 39 rfl) (lk_2 σ h (.inl rfl)) (pk_in i44 _ (by omega)) (by rw [nI_clamp (by omega)]; try exact rfl) ?_
            refine sw_aload_n O (xx_dt dd_X7_isClockSound 40 rfl) rfl ?_
            refine sw_get (v := .ref 1001) O (xx_dt dd_X7_isClockSound 41 rfl) cl_X7 fl_X7_12 (ly_1000 σ h) (by decide) rfl ?_
            refine sw_get (v := .ref 1010) O (xx_dt dd_X7_isClockSound 42 rfl) cl_X6 fl_X7_285 (ly_1001 σ h) (by decide) rfl ?_
            refine sw_callSx (as := [.int (σ (2000 + 2) i44), .ref 1010]) (st := []) (st2 := [.int (f_isWithin (σ (2000 + 2) i44) 5 (σ 1010))]) O (ct_X0_isWithin hl (c := σ (2000 + 2) i44) (f := σ 1010) (ia_1010.getE rfl) (by omega)) ce_X0_isWithin ml_X7_437 st_X0_isWithin (xx_dt dd_X7_isClockSound 43 rfl) (by decide) rfl rfl (Nat.le_of_ble_eq_true rfl) rfl ?_
            refine sw_if_ne (tgt := 91) O (xx_dt dd_X7_isClockSound 44 rfl) (by decide) (fun q5 => ?_) (fun q5 => ?_)
            · refine sw_iinc (y := nI (i44 + 1)) (ls2 := [.ref 1000, .int (nI (i44 + 1))]) O (xx_dt dd_X7_isClockSound 47 rfl) rfl (nI_1 _) (by decide) rfl ?_
              refine sw_goto (tgt := 44) O (xx_dt dd_X7_isClockSound 48 rfl) (by decide) ?_
              exact kk44 () (by simp only [if_neg q4, if_neg q5])
            · refine sw_iconst (x := 0) O (xx_dt dd_X7_isClockSound 45 rfl) (by decide) ?_
              exact sw_iret O (xx_dt dd_X7_isClockSound 46 rfl) rfl rfl (by rw [hQ, kr44 0 (by simp only [if_neg q4, if_pos q5])]; exact ⟨rfl, rfl⟩)
      · show SW Y _ _ (setC σ h) 44 [.ref 1000, .int (nI B)] []
        refine sw_iload_n O (xx_dt dd_X7_isClockSound 24 rfl) rfl ?_
        refine sw_aload_n O (xx_dt dd_X7_isClockSound 25 rfl) rfl ?_
        refine sw_get (v := .ref 1001) O (xx_dt dd_X7_isClockSound 26 rfl) cl_X7 fl_X7_12 (ly_1000 σ h) (by decide) rfl ?_
        refine sw_get (v := .int (nI B)) O (xx_dt dd_X7_isClockSound 27 rfl) cl_X6 fl_X7_100 (ly_1001 σ h) (by decide) (congrArg Value.int hB) ?_
        refine sw_icmp_ge (tgt := 97) O (xx_dt dd_X7_isClockSound 28 rfl) (by decide) (fun q3 => ?_) (fun q3 => ?_)
        · refine sw_iconst (x := 1) O (xx_dt dd_X7_isClockSound 49 rfl) (by decide) ?_
          exact sw_iret O (xx_dt dd_X7_isClockSound 50 rfl) rfl rfl (by rw [hQ]; exact ⟨by unfold f_isClockSound; simp only [x_isClockSound_2, eN2, x_isClockSound_44, eN44], rfl⟩)
        · exact absurd (Int32.le_refl _) q3
      · unfold f_isClockSound; simp only [x_isClockSound_44, x_isClockSound_2, eN2, eN44]
    · exact absurd (Int32.le_refl _) q1
  · unfold f_isClockSound; simp only [x_isClockSound_2, eN2]
