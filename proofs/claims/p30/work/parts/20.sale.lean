/-! ===== the sale ===== -/
def f_paymentOf (σ : XS9) (i w : Nat) : Int32 := (if (σ 1000 7) = 3 then σ (1131 + w) i else 0)
theorem ct_X7_paymentOf {l : Launch} {h : XH} (hl : l.stackTraces = false) {σ : XS9} {w : Nat} (hw : σ 1000 9 = nI w) (hw3 : w < 3) {i : Nat} (hi : i < 6) : XEx l m_X7_paymentOf 0 0 0 [.ref 1000, .int (nI i)] (setC σ h) (some (.int (f_paymentOf σ i w))) (setC σ h) := by
  refine XMet.of hl rfl rfl (Nat.le_of_ble_eq_true rfl) (fun Y O hh hQ => ?_)
  show SW Y 0 0 (setC σ h) 0 [.ref 1000, .int (nI i)] []
  refine sw_aload_n O (xx_dt dd_X7_paymentOf 0 rfl) rfl ?_
  refine sw_get (v := .int (σ 1000 7)) O (xx_dt dd_X7_paymentOf 1 rfl) cl_X7 fl_X7_54 (ly_1000 σ h) (by decide) rfl ?_
  refine sw_iconst (x := 3) O (xx_dt dd_X7_paymentOf 2 rfl) (by decide) ?_
  refine sw_icmp_ne (tgt := 25) O (xx_dt dd_X7_paymentOf 3 rfl) (by decide) (fun q1 => ?_) (fun q1 => ?_)
  · refine sw_iconst (x := 0) O (xx_dt dd_X7_paymentOf 13 rfl) (by decide) ?_
    exact sw_iret O (xx_dt dd_X7_paymentOf 14 rfl) rfl rfl (by rw [hQ]; exact ⟨by unfold f_paymentOf; simp only [if_neg q1], rfl⟩)
  · refine sw_aload_n O (xx_dt dd_X7_paymentOf 4 rfl) rfl ?_
    refine sw_get (v := .ref 1004) O (xx_dt dd_X7_paymentOf 5 rfl) cl_X7 fl_X7_36 (ly_1000 σ h) (by decide) rfl ?_
    refine sw_get (v := .ref 1130) O (xx_dt dd_X7_paymentOf 6 rfl) cl_X4 fl_X7_310 (ly_1004 σ h) (by decide) rfl ?_
    refine sw_aload_n O (xx_dt dd_X7_paymentOf 7 rfl) rfl ?_
    refine sw_get (v := .int (nI w)) O (xx_dt dd_X7_paymentOf 8 rfl) cl_X7 fl_X7_190 (ly_1000 σ h) (by decide) (congrArg Value.int hw) ?_
    refine sw_aaload (v := .ref (1131 + w)) O (xx_dt dd_X7_paymentOf 9 rfl) (by omega) (by omega) (ly_1130 σ h) (pk_in w _ (by omega)) (by rw [nI_clamp (by omega)]; try exact rfl) ?_
    refine sw_iload_n O (xx_dt dd_X7_paymentOf 10 rfl) rfl ?_
    refine sw_iaload (v := .int (σ (1131 + w) i)) O (xx_dt dd_X7_paymentOf 11 rfl) (lr_1130 σ h (k := w) (by omega)) (pk_in i _ (by omega)) (by rw [nI_clamp (by omega)]; try exact rfl) ?_
    refine sw_goto (tgt := 26) O (xx_dt dd_X7_paymentOf 12 rfl) (by decide) ?_
    exact sw_iret O (xx_dt dd_X7_paymentOf 14 rfl) rfl rfl (by rw [hQ]; exact ⟨by unfold f_paymentOf; simp only [if_pos q1], rfl⟩)
def f_dueOf (σ : XS9) (i w : Nat) : Int32 := ((f_paymentOf σ i w) * (100 - (σ 1016 i))) / 100
theorem ct_X7_dueOf {l : Launch} {h : XH} (hl : l.stackTraces = false) {σ : XS9} {w : Nat} (hw : σ 1000 9 = nI w) (hw3 : w < 3) {i : Nat} (hi : i < 6) : XEx l m_X7_dueOf 1 0 0 [.ref 1000, .int (nI i)] (setC σ h) (some (.int (f_dueOf σ i w))) (setC σ h) := by
  refine XMet.of hl rfl rfl (Nat.le_of_ble_eq_true rfl) (fun Y O hh hQ => ?_)
  show SW Y 0 0 (setC σ h) 0 [.ref 1000, .int (nI i)] []
  refine sw_aload_n O (xx_dt dd_X7_dueOf 0 rfl) rfl ?_
  refine sw_iload_n O (xx_dt dd_X7_dueOf 1 rfl) rfl ?_
  refine sw_callVx (as := [.int (nI i)]) (st := []) (st2 := [.int (f_paymentOf σ i w)]) O (ct_X7_paymentOf hl (σ := σ) (w := w) hw (by omega) (i := i) (by omega)) ce_X7_paymentOf ml_X7_282 iv_X7_paymentOf cl_X7 rfl (ly_1000 σ h) (xx_dt dd_X7_dueOf 2 rfl) (by decide) rfl rfl (Nat.le_of_ble_eq_true rfl) rfl ?_
  refine sw_bipush (x := 100) O (xx_dt dd_X7_dueOf 3 rfl) (by decide) ?_
  refine sw_aload_n O (xx_dt dd_X7_dueOf 4 rfl) rfl ?_
  refine sw_get (v := .ref 1001) O (xx_dt dd_X7_dueOf 5 rfl) cl_X7 fl_X7_12 (ly_1000 σ h) (by decide) rfl ?_
  refine sw_get (v := .ref 1016) O (xx_dt dd_X7_dueOf 6 rfl) cl_X6 fl_X7_387 (ly_1001 σ h) (by decide) rfl ?_
  refine sw_iload_n O (xx_dt dd_X7_dueOf 7 rfl) rfl ?_
  refine sw_iaload (v := .int (σ 1016 i)) O (xx_dt dd_X7_dueOf 8 rfl) (ly_1016 σ h) (pk_in i _ (by omega)) (by rw [nI_clamp (by omega)]; try exact rfl) ?_
  refine sw_isub O (xx_dt dd_X7_dueOf 9 rfl) ?_
  refine sw_imul O (xx_dt dd_X7_dueOf 10 rfl) ?_
  refine sw_bipush (x := 100) O (xx_dt dd_X7_dueOf 11 rfl) (by decide) ?_
  refine sw_idiv O (xx_dt dd_X7_dueOf 12 rfl) (by first | decide | assumption) ?_
  exact sw_iret O (xx_dt dd_X7_dueOf 13 rfl) rfl rfl (by rw [hQ]; exact ⟨by unfold f_dueOf; rfl, rfl⟩)
def x_allDue_4 (σ : XS9) (w B : Nat) (s0 : Int32) : Int32 := xit (fun i4 s4 => s4 + (f_dueOf σ i4 w)) B 0 s0
def f_allDue (σ : XS9) (w B : Nat) : Int32 := (x_allDue_4 σ w B 0)
theorem ct_X7_allDue {l : Launch} {h : XH} (hl : l.stackTraces = false) {σ : XS9} {w : Nat} (hw : σ 1000 9 = nI w) (hw3 : w < 3) {B : Nat} (hB : σ 1001 9 = nI B) (hB6 : B ≤ 6)  : XEx l m_X7_allDue 2 0 0 [.ref 1000] (setC σ h) (some (.int (f_allDue σ w B))) (setC σ h) := by
  refine XMet.of hl rfl rfl (Nat.le_of_ble_eq_true rfl) (fun Y O hh hQ => ?_)
  show SW Y 0 0 (setC σ h) 0 [.ref 1000, xx_d, xx_d] []
  refine sw_iconst (x := 0) O (xx_dt dd_X7_allDue 0 rfl) (by decide) ?_
  refine sw_istore_n (ls2 := [.ref 1000, .int 0, xx_d]) O (xx_dt dd_X7_allDue 1 rfl) (by decide) rfl ?_
  refine sw_iconst (x := 0) O (xx_dt dd_X7_allDue 2 rfl) (by decide) ?_
  refine sw_istore_n (ls2 := [.ref 1000, .int 0, .int 0]) O (xx_dt dd_X7_allDue 3 rfl) (by decide) rfl ?_
  refine sw_for (fun i4 s4 => s4 + (f_dueOf σ i4 w)) (fun _ _ => True) (hp := fun _ => setC σ h) (hd := 4) (lc := fun i4 s4 => [.ref 1000, .int s4, .int (nI i4)]) (N := B) (fun i4 s4 hi4 hP4 => ⟨trivial, fun kk4 => ?_⟩) B 0 0 (by omega) (trivial) (fun hP4 => ?_)
  · refine sw_iload_n O (xx_dt dd_X7_allDue 4 rfl) rfl ?_
    refine sw_aload_n O (xx_dt dd_X7_allDue 5 rfl) rfl ?_
    refine sw_get (v := .ref 1001) O (xx_dt dd_X7_allDue 6 rfl) cl_X7 fl_X7_12 (ly_1000 σ h) (by decide) rfl ?_
    refine sw_get (v := .int (nI B)) O (xx_dt dd_X7_allDue 7 rfl) cl_X6 fl_X7_100 (ly_1001 σ h) (by decide) (congrArg Value.int hB) ?_
    refine sw_icmp_ge (tgt := 29) O (xx_dt dd_X7_allDue 8 rfl) (by decide) (fun q1 => ?_) (fun q1 => ?_)
    · exact absurd q1 (nI_ge (b := B) hi4 (by omega))
    · refine sw_iload_n O (xx_dt dd_X7_allDue 9 rfl) rfl ?_
      refine sw_aload_n O (xx_dt dd_X7_allDue 10 rfl) rfl ?_
      refine sw_iload_n O (xx_dt dd_X7_allDue 11 rfl) rfl ?_
      refine sw_callVx (as := [.int (nI i4)]) (st := [.int s4]) (st2 := [.int (f_dueOf σ i4 w), .int s4]) O (ct_X7_dueOf hl (σ := σ) (w := w) hw (by omega) (i := i4) (by omega)) ce_X7_dueOf ml_X7_279 iv_X7_dueOf cl_X7 rfl (ly_1000 σ h) (xx_dt dd_X7_allDue 12 rfl) (by decide) rfl rfl (Nat.le_of_ble_eq_true rfl) rfl ?_
      refine sw_iadd O (xx_dt dd_X7_allDue 13 rfl) ?_
      refine sw_istore_n (ls2 := [.ref 1000, .int (s4 + (f_dueOf σ i4 w)), .int (nI i4)]) O (xx_dt dd_X7_allDue 14 rfl) (by decide) rfl ?_
      refine sw_iinc (y := nI (i4 + 1)) (ls2 := [.ref 1000, .int (s4 + (f_dueOf σ i4 w)), .int (nI (i4 + 1))]) O (xx_dt dd_X7_allDue 15 rfl) rfl (nI_1 _) (by decide) rfl ?_
      refine sw_goto (tgt := 4) O (xx_dt dd_X7_allDue 16 rfl) (by decide) ?_
      exact kk4
  · show SW Y _ _ (setC σ h) 4 [.ref 1000, .int (x_allDue_4 σ w B 0), .int (nI B)] []
    refine sw_iload_n O (xx_dt dd_X7_allDue 4 rfl) rfl ?_
    refine sw_aload_n O (xx_dt dd_X7_allDue 5 rfl) rfl ?_
    refine sw_get (v := .ref 1001) O (xx_dt dd_X7_allDue 6 rfl) cl_X7 fl_X7_12 (ly_1000 σ h) (by decide) rfl ?_
    refine sw_get (v := .int (nI B)) O (xx_dt dd_X7_allDue 7 rfl) cl_X6 fl_X7_100 (ly_1001 σ h) (by decide) (congrArg Value.int hB) ?_
    refine sw_icmp_ge (tgt := 29) O (xx_dt dd_X7_allDue 8 rfl) (by decide) (fun q1 => ?_) (fun q1 => ?_)
    · refine sw_iload_n O (xx_dt dd_X7_allDue 17 rfl) rfl ?_
      exact sw_iret O (xx_dt dd_X7_allDue 18 rfl) rfl rfl (by rw [hQ]; exact ⟨by unfold f_allDue; rfl, rfl⟩)
    · exact absurd (Int32.le_refl _) q1
def f_roundNow (σ : XS9) (K : Nat) : Int32 := (if (σ 1000 7) = 1 then nI (K + 1) else nI K)
theorem ct_X7_roundNow {l : Launch} {h : XH} (hl : l.stackTraces = false) {σ : XS9} {K : Nat} (hK : σ 2000 9 = nI K) (hK60 : K ≤ 60) : XEx l m_X7_roundNow 0 0 0 [.ref 1000] (setC σ h) (some (.int (f_roundNow σ K))) (setC σ h) := by
  refine XMet.of hl rfl rfl (Nat.le_of_ble_eq_true rfl) (fun Y O hh hQ => ?_)
  show SW Y 0 0 (setC σ h) 0 [.ref 1000] []
  refine sw_aload_n O (xx_dt dd_X7_roundNow 0 rfl) rfl ?_
  refine sw_get (v := .int (σ 1000 7)) O (xx_dt dd_X7_roundNow 1 rfl) cl_X7 fl_X7_54 (ly_1000 σ h) (by decide) rfl ?_
  refine sw_iconst (x := 1) O (xx_dt dd_X7_roundNow 2 rfl) (by decide) ?_
  refine sw_icmp_ne (tgt := 20) O (xx_dt dd_X7_roundNow 3 rfl) (by decide) (fun q1 => ?_) (fun q1 => ?_)
  · refine sw_aload_n O (xx_dt dd_X7_roundNow 10 rfl) rfl ?_
    refine sw_get (v := .ref 2000) O (xx_dt dd_X7_roundNow 11 rfl) cl_X7 fl_X7_19 (ly_1000 σ h) (by decide) rfl ?_
    refine sw_get (v := .int (nI K)) O (xx_dt dd_X7_roundNow 12 rfl) cl_X1 fl_X7_379 (lk_0 σ h (.inl rfl)) (by decide) (congrArg Value.int hK) ?_
    exact sw_iret O (xx_dt dd_X7_roundNow 13 rfl) rfl rfl (by rw [hQ]; exact ⟨by unfold f_roundNow; simp only [if_neg q1], rfl⟩)
  · refine sw_aload_n O (xx_dt dd_X7_roundNow 4 rfl) rfl ?_
    refine sw_get (v := .ref 2000) O (xx_dt dd_X7_roundNow 5 rfl) cl_X7 fl_X7_19 (ly_1000 σ h) (by decide) rfl ?_
    refine sw_get (v := .int (nI K)) O (xx_dt dd_X7_roundNow 6 rfl) cl_X1 fl_X7_379 (lk_0 σ h (.inl rfl)) (by decide) (congrArg Value.int hK) ?_
    refine sw_iconst (x := 1) O (xx_dt dd_X7_roundNow 7 rfl) (by decide) ?_
    refine sw_iadd O (xx_dt dd_X7_roundNow 8 rfl) ?_
    rw [nI_a1 K]
    refine sw_goto (tgt := 27) O (xx_dt dd_X7_roundNow 9 rfl) (by decide) ?_
    exact sw_iret O (xx_dt dd_X7_roundNow 13 rfl) rfl rfl (by rw [hQ]; exact ⟨by unfold f_roundNow; simp only [if_pos q1], rfl⟩)
def x_isReplaySame_2 (σ : XS9) (R B : Nat) (s0 : Unit) : Unit ⊕ Int32 := xitR (fun i2 s2 => (if (σ (3000 + 1) i2) = (σ (2000 + 1) i2) then .inl () else .inr 0)) R 0 s0
def x_isReplaySame_44 (σ : XS9) (R B : Nat) (s0 : Unit) : Unit ⊕ Int32 := xitR (fun i44 s44 => (if (σ (3000 + 2) i44) = (σ (2000 + 2) i44) then .inl () else .inr 0)) B 0 s0
def f_isReplaySame (σ : XS9) (R B : Nat) : Int32 := (match (x_isReplaySame_2 σ R B ()) with | .inl s2 => (match (x_isReplaySame_44 σ R B ()) with | .inl s44 => 1 | .inr r44 => r44) | .inr r2 => r2)
theorem ct_X7_isReplaySame {l : Launch} {h : XH} (hl : l.stackTraces = false) {σ : XS9} {R : Nat} (hR : σ 1001 4 = nI R) (hR5 : R ≤ 5) {B : Nat} (hB : σ 1001 9 = nI B) (hB6 : B ≤ 6)  : XEx l m_X7_isReplaySame 0 0 0 [.ref 1000] (setC σ h) (some (.int (f_isReplaySame σ R B))) (setC σ h) := by
  refine XMet.of hl rfl rfl (Nat.le_of_ble_eq_true rfl) (fun Y O hh hQ => ?_)
  show SW Y 0 0 (setC σ h) 0 [.ref 1000, xx_d] []
  refine sw_iconst (x := 0) O (xx_dt dd_X7_isReplaySame 0 rfl) (by decide) ?_
  refine sw_istore_n (ls2 := [.ref 1000, .int 0]) O (xx_dt dd_X7_isReplaySame 1 rfl) (by decide) rfl ?_
  refine sw_forR (R := Int32) (fun i2 s2 => (if (σ (3000 + 1) i2) = (σ (2000 + 1) i2) then .inl () else .inr 0)) (fun _ _ => True) (FR := fun r => f_isReplaySame σ R B = r) (hp := fun _ => setC σ h) (hd := 2) (lc := fun i2 s2 => [.ref 1000, .int (nI i2)]) (N := R) (fun i2 s2 hi2 hP2 => ⟨fun _ _ => trivial, fun kk2 kr2 => ?_⟩) R 0 () (by omega) (trivial) (fun sN2 eN2 hP2 => ?_) (fun r2 eN2 => ?_)
  · refine sw_iload_n O (xx_dt dd_X7_isReplaySame 2 rfl) rfl ?_
    refine sw_aload_n O (xx_dt dd_X7_isReplaySame 3 rfl) rfl ?_
    refine sw_get (v := .ref 1001) O (xx_dt dd_X7_isReplaySame 4 rfl) cl_X7 fl_X7_12 (ly_1000 σ h) (by decide) rfl ?_
    refine sw_get (v := .int (nI R)) O (xx_dt dd_X7_isReplaySame 5 rfl) cl_X6 fl_X7_69 (ly_1001 σ h) (by decide) (congrArg Value.int hR) ?_
    refine sw_icmp_ge (tgt := 42) O (xx_dt dd_X7_isReplaySame 6 rfl) (by decide) (fun q1 => ?_) (fun q1 => ?_)
    · exact absurd q1 (nI_ge (b := R) hi2 (by omega))
    · refine sw_aload_n O (xx_dt dd_X7_isReplaySame 7 rfl) rfl ?_
      refine sw_get (v := .ref 3000) O (xx_dt dd_X7_isReplaySame 8 rfl) cl_X7 fl_X7_23 (ly_1000 σ h) (by decide) rfl ?_
      refine sw_get (v := .ref (3000 + 1)) O (xx_dt dd_X7_isReplaySame 9 rfl) cl_X1 fl_X7_393 (lk_0 σ h (.inr rfl)) (by decide) rfl ?_
      refine sw_iload_n O (xx_dt dd_X7_isReplaySame 10 rfl) rfl ?_
      refine sw_iaload (v := .int (σ (3000 + 1) i2)) O (xx_dt dd_X7_isReplaySame 11 rfl) (lk_1 σ h (.inr rfl)) (pk_in i2 _ (by omega)) (by rw [nI_clamp (by omega)]; try exact rfl) ?_
      refine sw_aload_n O (xx_dt dd_X7_isReplaySame 12 rfl) rfl ?_
      refine sw_get (v := .ref 2000) O (xx_dt dd_X7_isReplaySame 13 rfl) cl_X7 fl_X7_19 (ly_1000 σ h) (by decide) rfl ?_
      refine sw_get (v := .ref (2000 + 1)) O (xx_dt dd_X7_isReplaySame 14 rfl) cl_X1 fl_X7_393 (lk_0 σ h (.inl rfl)) (by decide) rfl ?_
      refine sw_iload_n O (xx_dt dd_X7_isReplaySame 15 rfl) rfl ?_
      refine sw_iaload (v := .int (σ (2000 + 1) i2)) O (xx_dt dd_X7_isReplaySame 16 rfl) (lk_1 σ h (.inl rfl)) (pk_in i2 _ (by omega)) (by rw [nI_clamp (by omega)]; try exact rfl) ?_
      refine sw_icmp_eq (tgt := 36) O (xx_dt dd_X7_isReplaySame 17 rfl) (by decide) (fun q2 => ?_) (fun q2 => ?_)
      · refine sw_iinc (y := nI (i2 + 1)) (ls2 := [.ref 1000, .int (nI (i2 + 1))]) O (xx_dt dd_X7_isReplaySame 20 rfl) rfl (nI_1 _) (by decide) rfl ?_
        refine sw_goto (tgt := 2) O (xx_dt dd_X7_isReplaySame 21 rfl) (by decide) ?_
        exact kk2 () (by simp only [if_pos q2])
      · refine sw_iconst (x := 0) O (xx_dt dd_X7_isReplaySame 18 rfl) (by decide) ?_
        exact sw_iret O (xx_dt dd_X7_isReplaySame 19 rfl) rfl rfl (by rw [hQ, kr2 0 (by simp only [if_neg q2])]; exact ⟨rfl, rfl⟩)
  · show SW Y _ _ (setC σ h) 2 [.ref 1000, .int (nI R)] []
    refine sw_iload_n O (xx_dt dd_X7_isReplaySame 2 rfl) rfl ?_
    refine sw_aload_n O (xx_dt dd_X7_isReplaySame 3 rfl) rfl ?_
    refine sw_get (v := .ref 1001) O (xx_dt dd_X7_isReplaySame 4 rfl) cl_X7 fl_X7_12 (ly_1000 σ h) (by decide) rfl ?_
    refine sw_get (v := .int (nI R)) O (xx_dt dd_X7_isReplaySame 5 rfl) cl_X6 fl_X7_69 (ly_1001 σ h) (by decide) (congrArg Value.int hR) ?_
    refine sw_icmp_ge (tgt := 42) O (xx_dt dd_X7_isReplaySame 6 rfl) (by decide) (fun q1 => ?_) (fun q1 => ?_)
    · refine sw_iconst (x := 0) O (xx_dt dd_X7_isReplaySame 22 rfl) (by decide) ?_
      refine sw_istore_n (ls2 := [.ref 1000, .int 0]) O (xx_dt dd_X7_isReplaySame 23 rfl) (by decide) rfl ?_
      refine sw_forR (R := Int32) (fun i44 s44 => (if (σ (3000 + 2) i44) = (σ (2000 + 2) i44) then .inl () else .inr 0)) (fun _ _ => True) (FR := fun r => f_isReplaySame σ R B = r) (hp := fun _ => setC σ h) (hd := 44) (lc := fun i44 s44 => [.ref 1000, .int (nI i44)]) (N := B) (fun i44 s44 hi44 hP44 => ⟨fun _ _ => trivial, fun kk44 kr44 => ?_⟩) B 0 () (by omega) (trivial) (fun sN44 eN44 hP44 => ?_) (fun r44 eN44 => ?_)
      · refine sw_iload_n O (xx_dt dd_X7_isReplaySame 24 rfl) rfl ?_
        refine sw_aload_n O (xx_dt dd_X7_isReplaySame 25 rfl) rfl ?_
        refine sw_get (v := .ref 1001) O (xx_dt dd_X7_isReplaySame 26 rfl) cl_X7 fl_X7_12 (ly_1000 σ h) (by decide) rfl ?_
        refine sw_get (v := .int (nI B)) O (xx_dt dd_X7_isReplaySame 27 rfl) cl_X6 fl_X7_100 (ly_1001 σ h) (by decide) (congrArg Value.int hB) ?_
        refine sw_icmp_ge (tgt := 84) O (xx_dt dd_X7_isReplaySame 28 rfl) (by decide) (fun q3 => ?_) (fun q3 => ?_)
        · exact absurd q3 (nI_ge (b := B) hi44 (by omega))
        · refine sw_aload_n O (xx_dt dd_X7_isReplaySame 29 rfl) rfl ?_
          refine sw_get (v := .ref 3000) O (xx_dt dd_X7_isReplaySame 30 rfl) cl_X7 fl_X7_23 (ly_1000 σ h) (by decide) rfl ?_
          refine sw_get (v := .ref (3000 + 2)) O (xx_dt dd_X7_isReplaySame 31 rfl) cl_X1 fl_X7_249 (lk_0 σ h (.inr rfl)) (by decide) rfl ?_
          refine sw_iload_n O (xx_dt dd_X7_isReplaySame 32 rfl) rfl ?_
          refine sw_iaload (v := .int (σ (3000 + 2) i44)) O (xx_dt dd_X7_isReplaySame 33 rfl) (lk_2 σ h (.inr rfl)) (pk_in i44 _ (by omega)) (by rw [nI_clamp (by omega)]; try exact rfl) ?_
          refine sw_aload_n O (xx_dt dd_X7_isReplaySame 34 rfl) rfl ?_
          refine sw_get (v := .ref 2000) O (xx_dt dd_X7_isReplaySame 35 rfl) cl_X7 fl_X7_19 (ly_1000 σ h) (by decide) rfl ?_
          refine sw_get (v := .ref (2000 + 2)) O (xx_dt dd_X7_isReplaySame 36 rfl) cl_X1 fl_X7_249 (lk_0 σ h (.inl rfl)) (by decide) rfl ?_
          refine sw_iload_n O (xx_dt dd_X7_isReplaySame 37 rfl) rfl ?_
          refine sw_iaload (v := .int (σ (2000 + 2) i44)) O (xx_dt dd_X7_isReplaySame 38 rfl) (lk_2 σ h (.inl rfl)) (pk_in i44 _ (by omega)) (by rw [nI_clamp (by omega)]; try exact rfl) ?_
          refine sw_icmp_eq (tgt := 78) O (xx_dt dd_X7_isReplaySame 39 rfl) (by decide) (fun q4 => ?_) (fun q4 => ?_)
          · refine sw_iinc (y := nI (i44 + 1)) (ls2 := [.ref 1000, .int (nI (i44 + 1))]) O (xx_dt dd_X7_isReplaySame 42 rfl) rfl (nI_1 _) (by decide) rfl ?_
            refine sw_goto (tgt := 44) O (xx_dt dd_X7_isReplaySame 43 rfl) (by decide) ?_
            exact kk44 () (by simp only [if_pos q4])
          · refine sw_iconst (x := 0) O (xx_dt dd_X7_isReplaySame 40 rfl) (by decide) ?_
            exact sw_iret O (xx_dt dd_X7_isReplaySame 41 rfl) rfl rfl (by rw [hQ, kr44 0 (by simp only [if_neg q4])]; exact ⟨rfl, rfl⟩)
      · show SW Y _ _ (setC σ h) 44 [.ref 1000, .int (nI B)] []
        refine sw_iload_n O (xx_dt dd_X7_isReplaySame 24 rfl) rfl ?_
        refine sw_aload_n O (xx_dt dd_X7_isReplaySame 25 rfl) rfl ?_
        refine sw_get (v := .ref 1001) O (xx_dt dd_X7_isReplaySame 26 rfl) cl_X7 fl_X7_12 (ly_1000 σ h) (by decide) rfl ?_
        refine sw_get (v := .int (nI B)) O (xx_dt dd_X7_isReplaySame 27 rfl) cl_X6 fl_X7_100 (ly_1001 σ h) (by decide) (congrArg Value.int hB) ?_
        refine sw_icmp_ge (tgt := 84) O (xx_dt dd_X7_isReplaySame 28 rfl) (by decide) (fun q3 => ?_) (fun q3 => ?_)
        · refine sw_iconst (x := 1) O (xx_dt dd_X7_isReplaySame 44 rfl) (by decide) ?_
          exact sw_iret O (xx_dt dd_X7_isReplaySame 45 rfl) rfl rfl (by rw [hQ]; exact ⟨by unfold f_isReplaySame; simp only [x_isReplaySame_2, eN2, x_isReplaySame_44, eN44], rfl⟩)
        · exact absurd (Int32.le_refl _) q3
      · unfold f_isReplaySame; simp only [x_isReplaySame_44, x_isReplaySame_2, eN2, eN44]
    · exact absurd (Int32.le_refl _) q1
  · unfold f_isReplaySame; simp only [x_isReplaySame_2, eN2]
def x_isClockSound_2 (σ : XS9) (R B : Nat) (s0 : Unit) : Unit ⊕ Int32 := xitR (fun i2 s2 => (if (σ 1012 i2) ≤ (σ (2000 + 1) i2) then .inl () else .inr 0)) R 0 s0
def x_isClockSound_44 (σ : XS9) (R B : Nat) (s0 : Unit) : Unit ⊕ Int32 := xitR (fun i44 s44 => (if (σ (2000 + 4) i44) < 0 then .inr 0 else (if (f_isWithin (σ (2000 + 2) i44) 5 (σ 1010)) = 0 then .inr 0 else .inl ()))) B 0 s0
def f_isClockSound (σ : XS9) (R B : Nat) : Int32 := (match (x_isClockSound_2 σ R B ()) with | .inl s2 => (match (x_isClockSound_44 σ R B ()) with | .inl s44 => 1 | .inr r44 => r44) | .inr r2 => r2)
theorem ct_X7_isClockSound {l : Launch} {h : XH} (hl : l.stackTraces = false) {σ : XS9} {R : Nat} (hR : σ 1001 4 = nI R) (hR5 : R ≤ 5) {B : Nat} (hB : σ 1001 9 = nI B) (hB6 : B ≤ 6)  : XEx l m_X7_isClockSound 1 0 0 [.ref 1000] (setC σ h) (some (.int (f_isClockSound σ R B))) (setC σ h) := by
  refine XMet.of hl rfl rfl (Nat.le_of_ble_eq_true rfl) (fun Y O hh hQ => ?_)
  show SW Y 0 0 (setC σ h) 0 [.ref 1000, xx_d] []
  refine sw_iconst (x := 0) O (xx_dt dd_X7_isClockSound 0 rfl) (by decide) ?_
  refine sw_istore_n (ls2 := [.ref 1000, .int 0]) O (xx_dt dd_X7_isClockSound 1 rfl) (by decide) rfl ?_
  refine sw_forR (R := Int32) (fun i2 s2 => (if (σ 1012 i2) ≤ (σ (2000 + 1) i2) then .inl () else .inr 0)) (fun _ _ => True) (FR := fun r => f_isClockSound σ R B = r) (hp := fun _ => setC σ h) (hd := 2) (lc := fun i2 s2 => [.ref 1000, .int (nI i2)]) (N := R) (fun i2 s2 hi2 hP2 => ⟨fun _ _ => trivial, fun kk2 kr2 => ?_⟩) R 0 () (by omega) (trivial) (fun sN2 eN2 hP2 => ?_) (fun r2 eN2 => ?_)
  · refine sw_iload_n O (xx_dt dd_X7_isClockSound 2 rfl) rfl ?_
    refine sw_aload_n O (xx_dt dd_X7_isClockSound 3 rfl) rfl ?_
    refine sw_get (v := .ref 1001) O (xx_dt dd_X7_isClockSound 4 rfl) cl_X7 fl_X7_12 (ly_1000 σ h) (by decide) rfl ?_
    refine sw_get (v := .int (nI R)) O (xx_dt dd_X7_isClockSound 5 rfl) cl_X6 fl_X7_69 (ly_1001 σ h) (by decide) (congrArg Value.int hR) ?_
    refine sw_icmp_ge (tgt := 42) O (xx_dt dd_X7_isClockSound 6 rfl) (by decide) (fun q1 => ?_) (fun q1 => ?_)
    · exact absurd q1 (nI_ge (b := R) hi2 (by omega))
    · refine sw_aload_n O (xx_dt dd_X7_isClockSound 7 rfl) rfl ?_
      refine sw_get (v := .ref 2000) O (xx_dt dd_X7_isClockSound 8 rfl) cl_X7 fl_X7_19 (ly_1000 σ h) (by decide) rfl ?_
      refine sw_get (v := .ref (2000 + 1)) O (xx_dt dd_X7_isClockSound 9 rfl) cl_X1 fl_X7_393 (lk_0 σ h (.inl rfl)) (by decide) rfl ?_
      refine sw_iload_n O (xx_dt dd_X7_isClockSound 10 rfl) rfl ?_
      refine sw_iaload (v := .int (σ (2000 + 1) i2)) O (xx_dt dd_X7_isClockSound 11 rfl) (lk_1 σ h (.inl rfl)) (pk_in i2 _ (by omega)) (by rw [nI_clamp (by omega)]; try exact rfl) ?_
      refine sw_aload_n O (xx_dt dd_X7_isClockSound 12 rfl) rfl ?_
      refine sw_get (v := .ref 1001) O (xx_dt dd_X7_isClockSound 13 rfl) cl_X7 fl_X7_12 (ly_1000 σ h) (by decide) rfl ?_
      refine sw_get (v := .ref 1012) O (xx_dt dd_X7_isClockSound 14 rfl) cl_X6 fl_X7_390 (ly_1001 σ h) (by decide) rfl ?_
      refine sw_iload_n O (xx_dt dd_X7_isClockSound 15 rfl) rfl ?_
      refine sw_iaload (v := .int (σ 1012 i2)) O (xx_dt dd_X7_isClockSound 16 rfl) (ly_1012 σ h) (pk_in i2 _ (by omega)) (by rw [nI_clamp (by omega)]; try exact rfl) ?_
      refine sw_icmp_ge (tgt := 36) O (xx_dt dd_X7_isClockSound 17 rfl) (by decide) (fun q2 => ?_) (fun q2 => ?_)
      · refine sw_iinc (y := nI (i2 + 1)) (ls2 := [.ref 1000, .int (nI (i2 + 1))]) O (xx_dt dd_X7_isClockSound 20 rfl) rfl (nI_1 _) (by decide) rfl ?_
        refine sw_goto (tgt := 2) O (xx_dt dd_X7_isClockSound 21 rfl) (by decide) ?_
        exact kk2 () (by simp only [if_pos q2])
      · refine sw_iconst (x := 0) O (xx_dt dd_X7_isClockSound 18 rfl) (by decide) ?_
        exact sw_iret O (xx_dt dd_X7_isClockSound 19 rfl) rfl rfl (by rw [hQ, kr2 0 (by simp only [if_neg q2])]; exact ⟨rfl, rfl⟩)
  · show SW Y _ _ (setC σ h) 2 [.ref 1000, .int (nI R)] []
    refine sw_iload_n O (xx_dt dd_X7_isClockSound 2 rfl) rfl ?_
    refine sw_aload_n O (xx_dt dd_X7_isClockSound 3 rfl) rfl ?_
    refine sw_get (v := .ref 1001) O (xx_dt dd_X7_isClockSound 4 rfl) cl_X7 fl_X7_12 (ly_1000 σ h) (by decide) rfl ?_
    refine sw_get (v := .int (nI R)) O (xx_dt dd_X7_isClockSound 5 rfl) cl_X6 fl_X7_69 (ly_1001 σ h) (by decide) (congrArg Value.int hR) ?_
    refine sw_icmp_ge (tgt := 42) O (xx_dt dd_X7_isClockSound 6 rfl) (by decide) (fun q1 => ?_) (fun q1 => ?_)
    · refine sw_iconst (x := 0) O (xx_dt dd_X7_isClockSound 22 rfl) (by decide) ?_
      refine sw_istore_n (ls2 := [.ref 1000, .int 0]) O (xx_dt dd_X7_isClockSound 23 rfl) (by decide) rfl ?_
      refine sw_forR (R := Int32) (fun i44 s44 => (if (σ (2000 + 4) i44) < 0 then .inr 0 else (if (f_isWithin (σ (2000 + 2) i44) 5 (σ 1010)) = 0 then .inr 0 else .inl ()))) (fun _ _ => True) (FR := fun r => f_isClockSound σ R B = r) (hp := fun _ => setC σ h) (hd := 44) (lc := fun i44 s44 => [.ref 1000, .int (nI i44)]) (N := B) (fun i44 s44 hi44 hP44 => ⟨fun _ _ => trivial, fun kk44 kr44 => ?_⟩) B 0 () (by omega) (trivial) (fun sN44 eN44 hP44 => ?_) (fun r44 eN44 => ?_)
      · refine sw_iload_n O (xx_dt dd_X7_isClockSound 24 rfl) rfl ?_
        refine sw_aload_n O (xx_dt dd_X7_isClockSound 25 rfl) rfl ?_
        refine sw_get (v := .ref 1001) O (xx_dt dd_X7_isClockSound 26 rfl) cl_X7 fl_X7_12 (ly_1000 σ h) (by decide) rfl ?_
        refine sw_get (v := .int (nI B)) O (xx_dt dd_X7_isClockSound 27 rfl) cl_X6 fl_X7_100 (ly_1001 σ h) (by decide) (congrArg Value.int hB) ?_
        refine sw_icmp_ge (tgt := 97) O (xx_dt dd_X7_isClockSound 28 rfl) (by decide) (fun q3 => ?_) (fun q3 => ?_)
        · exact absurd q3 (nI_ge (b := B) hi44 (by omega))
        · refine sw_aload_n O (xx_dt dd_X7_isClockSound 29 rfl) rfl ?_
          refine sw_get (v := .ref 2000) O (xx_dt dd_X7_isClockSound 30 rfl) cl_X7 fl_X7_19 (ly_1000 σ h) (by decide) rfl ?_
          refine sw_get (v := .ref (2000 + 4)) O (xx_dt dd_X7_isClockSound 31 rfl) cl_X1 fl_X7_409 (lk_0 σ h (.inl rfl)) (by decide) rfl ?_
          refine sw_iload_n O (xx_dt dd_X7_isClockSound 32 rfl) rfl ?_
          refine sw_iaload (v := .int (σ (2000 + 4) i44)) O (xx_dt dd_X7_isClockSound 33 rfl) (lk_4 σ h (.inl rfl)) (pk_in i44 _ (by omega)) (by rw [nI_clamp (by omega)]; try exact rfl) ?_
          refine sw_if_lt (tgt := 89) O (xx_dt dd_X7_isClockSound 34 rfl) (by decide) (fun q4 => ?_) (fun q4 => ?_)
          · refine sw_iconst (x := 0) O (xx_dt dd_X7_isClockSound 45 rfl) (by decide) ?_
            exact sw_iret O (xx_dt dd_X7_isClockSound 46 rfl) rfl rfl (by rw [hQ, kr44 0 (by simp only [if_pos q4])]; exact ⟨rfl, rfl⟩)
          · refine sw_aload_n O (xx_dt dd_X7_isClockSound 35 rfl) rfl ?_
            refine sw_get (v := .ref 2000) O (xx_dt dd_X7_isClockSound 36 rfl) cl_X7 fl_X7_19 (ly_1000 σ h) (by decide) rfl ?_
            refine sw_get (v := .ref (2000 + 2)) O (xx_dt dd_X7_isClockSound 37 rfl) cl_X1 fl_X7_249 (lk_0 σ h (.inl rfl)) (by decide) rfl ?_
            refine sw_iload_n O (xx_dt dd_X7_isClockSound 38 rfl) rfl ?_
            refine sw_iaload (v := .int (σ (2000 + 2) i44)) O (xx_dt dd_X7_isClockSound 39 rfl) (lk_2 σ h (.inl rfl)) (pk_in i44 _ (by omega)) (by rw [nI_clamp (by omega)]; try exact rfl) ?_
            refine sw_aload_n O (xx_dt dd_X7_isClockSound 40 rfl) rfl ?_
            refine sw_get (v := .ref 1001) O (xx_dt dd_X7_isClockSound 41 rfl) cl_X7 fl_X7_12 (ly_1000 σ h) (by decide) rfl ?_
            refine sw_get (v := .ref 1010) O (xx_dt dd_X7_isClockSound 42 rfl) cl_X6 fl_X7_285 (ly_1001 σ h) (by decide) rfl ?_
            refine sw_callSx (as := [.int (σ (2000 + 2) i44), .ref 1010]) (st := []) (st2 := [.int (f_isWithin (σ (2000 + 2) i44) 5 (σ 1010))]) O (ct_X0_isWithin hl (c := σ (2000 + 2) i44) (f := σ 1010) (ia_1010.getE rfl) (by omega)) ce_X0_isWithin ml_X7_437 st_X0_isWithin (xx_dt dd_X7_isClockSound 43 rfl) (by decide) rfl rfl (Nat.le_of_ble_eq_true rfl) rfl ?_
            refine sw_if_ne (tgt := 91) O (xx_dt dd_X7_isClockSound 44 rfl) (by decide) (fun q5 => ?_) (fun q5 => ?_)
            · refine sw_iinc (y := nI (i44 + 1)) (ls2 := [.ref 1000, .int (nI (i44 + 1))]) O (xx_dt dd_X7_isClockSound 47 rfl) rfl (nI_1 _) (by decide) rfl ?_
              refine sw_goto (tgt := 44) O (xx_dt dd_X7_isClockSound 48 rfl) (by decide) ?_
              exact kk44 () (by simp only [if_neg q4, if_neg q5])
            · refine sw_iconst (x := 0) O (xx_dt dd_X7_isClockSound 45 rfl) (by decide) ?_
              exact sw_iret O (xx_dt dd_X7_isClockSound 46 rfl) rfl rfl (by rw [hQ, kr44 0 (by simp only [if_neg q4, if_pos q5])]; exact ⟨rfl, rfl⟩)
      · show SW Y _ _ (setC σ h) 44 [.ref 1000, .int (nI B)] []
        refine sw_iload_n O (xx_dt dd_X7_isClockSound 24 rfl) rfl ?_
        refine sw_aload_n O (xx_dt dd_X7_isClockSound 25 rfl) rfl ?_
        refine sw_get (v := .ref 1001) O (xx_dt dd_X7_isClockSound 26 rfl) cl_X7 fl_X7_12 (ly_1000 σ h) (by decide) rfl ?_
        refine sw_get (v := .int (nI B)) O (xx_dt dd_X7_isClockSound 27 rfl) cl_X6 fl_X7_100 (ly_1001 σ h) (by decide) (congrArg Value.int hB) ?_
        refine sw_icmp_ge (tgt := 97) O (xx_dt dd_X7_isClockSound 28 rfl) (by decide) (fun q3 => ?_) (fun q3 => ?_)
        · refine sw_iconst (x := 1) O (xx_dt dd_X7_isClockSound 49 rfl) (by decide) ?_
          exact sw_iret O (xx_dt dd_X7_isClockSound 50 rfl) rfl rfl (by rw [hQ]; exact ⟨by unfold f_isClockSound; simp only [x_isClockSound_2, eN2, x_isClockSound_44, eN44], rfl⟩)
        · exact absurd (Int32.le_refl _) q3
      · unfold f_isClockSound; simp only [x_isClockSound_44, x_isClockSound_2, eN2, eN44]
    · exact absurd (Int32.le_refl _) q1
  · unfold f_isClockSound; simp only [x_isClockSound_2, eN2]
def f_regionFact0 (σ : XS9) (C r : Nat) : Int32 := σ 1010 r
theorem ct_X7_regionFact_0 {l : Launch} {h : XH} (hl : l.stackTraces = false) {σ : XS9} {C : Nat} (hC : σ 1006 1 = nI C) (hC10 : C ≤ 10) {r : Nat} (hr : r < 5) : XEx l m_X7_regionFact 2 0 0 [.ref 1000, .int (nI r), .int 0] (setC σ h) (some (.int (f_regionFact0 σ C r))) (setC σ h) := by
  refine XMet.of hl rfl rfl (Nat.le_of_ble_eq_true rfl) (fun Y O hh hQ => ?_)
  show SW Y 0 0 (setC σ h) 0 [.ref 1000, .int (nI r), .int 0] []
  refine sw_iload_n O (xx_dt dd_X7_regionFact 0 rfl) rfl ?_
  refine sw_tableIn (off := 47) (tgt := 48) O (xx_dt dd_X7_regionFact 1 rfl) (by decide) (by decide) rfl (by decide) ?_
  refine sw_aload_n O (xx_dt dd_X7_regionFact 2 rfl) rfl ?_
  refine sw_get (v := .ref 1001) O (xx_dt dd_X7_regionFact 3 rfl) cl_X7 fl_X7_12 (ly_1000 σ h) (by decide) rfl ?_
  refine sw_get (v := .ref 1010) O (xx_dt dd_X7_regionFact 4 rfl) cl_X6 fl_X7_285 (ly_1001 σ h) (by decide) rfl ?_
  refine sw_iload_n O (xx_dt dd_X7_regionFact 5 rfl) rfl ?_
  refine sw_iaload (v := .int (σ 1010 r)) O (xx_dt dd_X7_regionFact 6 rfl) (ly_1010 σ h) (pk_in r _ (by omega)) (by rw [nI_clamp (by omega)]; try exact rfl) ?_
  exact sw_iret O (xx_dt dd_X7_regionFact 7 rfl) rfl rfl (by rw [hQ]; exact ⟨by unfold f_regionFact0; rfl, rfl⟩)
def f_regionFact1 (σ : XS9) (C r : Nat) : Int32 := σ 1011 r
theorem ct_X7_regionFact_1 {l : Launch} {h : XH} (hl : l.stackTraces = false) {σ : XS9} {C : Nat} (hC : σ 1006 1 = nI C) (hC10 : C ≤ 10) {r : Nat} (hr : r < 5) : XEx l m_X7_regionFact 2 0 0 [.ref 1000, .int (nI r), .int 1] (setC σ h) (some (.int (f_regionFact1 σ C r))) (setC σ h) := by
  refine XMet.of hl rfl rfl (Nat.le_of_ble_eq_true rfl) (fun Y O hh hQ => ?_)
  show SW Y 0 0 (setC σ h) 0 [.ref 1000, .int (nI r), .int 1] []
  refine sw_iload_n O (xx_dt dd_X7_regionFact 0 rfl) rfl ?_
  refine sw_tableIn (off := 57) (tgt := 58) O (xx_dt dd_X7_regionFact 1 rfl) (by decide) (by decide) rfl (by decide) ?_
  refine sw_aload_n O (xx_dt dd_X7_regionFact 8 rfl) rfl ?_
  refine sw_get (v := .ref 1001) O (xx_dt dd_X7_regionFact 9 rfl) cl_X7 fl_X7_12 (ly_1000 σ h) (by decide) rfl ?_
  refine sw_get (v := .ref 1011) O (xx_dt dd_X7_regionFact 10 rfl) cl_X6 fl_X7_142 (ly_1001 σ h) (by decide) rfl ?_
  refine sw_iload_n O (xx_dt dd_X7_regionFact 11 rfl) rfl ?_
  refine sw_iaload (v := .int (σ 1011 r)) O (xx_dt dd_X7_regionFact 12 rfl) (ly_1011 σ h) (pk_in r _ (by omega)) (by rw [nI_clamp (by omega)]; try exact rfl) ?_
  exact sw_iret O (xx_dt dd_X7_regionFact 13 rfl) rfl rfl (by rw [hQ]; exact ⟨by unfold f_regionFact1; rfl, rfl⟩)
def f_regionFact2 (σ : XS9) (C r : Nat) : Int32 := σ 1012 r
theorem ct_X7_regionFact_2 {l : Launch} {h : XH} (hl : l.stackTraces = false) {σ : XS9} {C : Nat} (hC : σ 1006 1 = nI C) (hC10 : C ≤ 10) {r : Nat} (hr : r < 5) : XEx l m_X7_regionFact 2 0 0 [.ref 1000, .int (nI r), .int 2] (setC σ h) (some (.int (f_regionFact2 σ C r))) (setC σ h) := by
  refine XMet.of hl rfl rfl (Nat.le_of_ble_eq_true rfl) (fun Y O hh hQ => ?_)
  show SW Y 0 0 (setC σ h) 0 [.ref 1000, .int (nI r), .int 2] []
  refine sw_iload_n O (xx_dt dd_X7_regionFact 0 rfl) rfl ?_
  refine sw_tableIn (off := 67) (tgt := 68) O (xx_dt dd_X7_regionFact 1 rfl) (by decide) (by decide) rfl (by decide) ?_
  refine sw_aload_n O (xx_dt dd_X7_regionFact 14 rfl) rfl ?_
  refine sw_get (v := .ref 1001) O (xx_dt dd_X7_regionFact 15 rfl) cl_X7 fl_X7_12 (ly_1000 σ h) (by decide) rfl ?_
  refine sw_get (v := .ref 1012) O (xx_dt dd_X7_regionFact 16 rfl) cl_X6 fl_X7_390 (ly_1001 σ h) (by decide) rfl ?_
  refine sw_iload_n O (xx_dt dd_X7_regionFact 17 rfl) rfl ?_
  refine sw_iaload (v := .int (σ 1012 r)) O (xx_dt dd_X7_regionFact 18 rfl) (ly_1012 σ h) (pk_in r _ (by omega)) (by rw [nI_clamp (by omega)]; try exact rfl) ?_
  exact sw_iret O (xx_dt dd_X7_regionFact 19 rfl) rfl rfl (by rw [hQ]; exact ⟨by unfold f_regionFact2; rfl, rfl⟩)
def f_regionFact3 (σ : XS9) (C r : Nat) : Int32 := σ (2000 + 1) r
theorem ct_X7_regionFact_3 {l : Launch} {h : XH} (hl : l.stackTraces = false) {σ : XS9} {C : Nat} (hC : σ 1006 1 = nI C) (hC10 : C ≤ 10) {r : Nat} (hr : r < 5) : XEx l m_X7_regionFact 2 0 0 [.ref 1000, .int (nI r), .int 3] (setC σ h) (some (.int (f_regionFact3 σ C r))) (setC σ h) := by
  refine XMet.of hl rfl rfl (Nat.le_of_ble_eq_true rfl) (fun Y O hh hQ => ?_)
  show SW Y 0 0 (setC σ h) 0 [.ref 1000, .int (nI r), .int 3] []
  refine sw_iload_n O (xx_dt dd_X7_regionFact 0 rfl) rfl ?_
  refine sw_tableIn (off := 77) (tgt := 78) O (xx_dt dd_X7_regionFact 1 rfl) (by decide) (by decide) rfl (by decide) ?_
  refine sw_aload_n O (xx_dt dd_X7_regionFact 20 rfl) rfl ?_
  refine sw_get (v := .ref 2000) O (xx_dt dd_X7_regionFact 21 rfl) cl_X7 fl_X7_19 (ly_1000 σ h) (by decide) rfl ?_
  refine sw_get (v := .ref (2000 + 1)) O (xx_dt dd_X7_regionFact 22 rfl) cl_X1 fl_X7_393 (lk_0 σ h (.inl rfl)) (by decide) rfl ?_
  refine sw_iload_n O (xx_dt dd_X7_regionFact 23 rfl) rfl ?_
  refine sw_iaload (v := .int (σ (2000 + 1) r)) O (xx_dt dd_X7_regionFact 24 rfl) (lk_1 σ h (.inl rfl)) (pk_in r _ (by omega)) (by rw [nI_clamp (by omega)]; try exact rfl) ?_
  exact sw_iret O (xx_dt dd_X7_regionFact 25 rfl) rfl rfl (by rw [hQ]; exact ⟨by unfold f_regionFact3; rfl, rfl⟩)
def f_regionFact4 (σ : XS9) (C r : Nat) : Int32 := f_together 6 (σ (2000 + 2)) r
theorem ct_X7_regionFact_4 {l : Launch} {h : XH} (hl : l.stackTraces = false) {σ : XS9} {C : Nat} (hC : σ 1006 1 = nI C) (hC10 : C ≤ 10) {r : Nat} (hr : r < 5) : XEx l m_X7_regionFact 2 0 0 [.ref 1000, .int (nI r), .int 4] (setC σ h) (some (.int (f_regionFact4 σ C r))) (setC σ h) := by
  refine XMet.of hl rfl rfl (Nat.le_of_ble_eq_true rfl) (fun Y O hh hQ => ?_)
  show SW Y 0 0 (setC σ h) 0 [.ref 1000, .int (nI r), .int 4] []
  refine sw_iload_n O (xx_dt dd_X7_regionFact 0 rfl) rfl ?_
  refine sw_tableIn (off := 87) (tgt := 88) O (xx_dt dd_X7_regionFact 1 rfl) (by decide) (by decide) rfl (by decide) ?_
  refine sw_aload_n O (xx_dt dd_X7_regionFact 26 rfl) rfl ?_
  refine sw_get (v := .ref 2000) O (xx_dt dd_X7_regionFact 27 rfl) cl_X7 fl_X7_19 (ly_1000 σ h) (by decide) rfl ?_
  refine sw_get (v := .ref (2000 + 2)) O (xx_dt dd_X7_regionFact 28 rfl) cl_X1 fl_X7_249 (lk_0 σ h (.inl rfl)) (by decide) rfl ?_
  refine sw_iload_n O (xx_dt dd_X7_regionFact 29 rfl) rfl ?_
  refine sw_callSx (as := [.ref (2000 + 2), .int (nI r)]) (st := []) (st2 := [.int (f_together 6 (σ (2000 + 2)) r)]) O (ct_X0_together hl (r := r) (f := σ (2000 + 2)) ((ik_2 (.inl rfl)).getE rfl) (by omega) (by omega)) ce_X0_together ml_X7_396 st_X0_together (xx_dt dd_X7_regionFact 30 rfl) (by decide) rfl rfl (Nat.le_of_ble_eq_true rfl) rfl ?_
  exact sw_iret O (xx_dt dd_X7_regionFact 31 rfl) rfl rfl (by rw [hQ]; exact ⟨by unfold f_regionFact4; rfl, rfl⟩)
def f_regionFact5 (σ : XS9) (C r : Nat) : Int32 := (f_together 6 (σ (2000 + 2)) r) - (σ 1010 r)
theorem ct_X7_regionFact_5 {l : Launch} {h : XH} (hl : l.stackTraces = false) {σ : XS9} {C : Nat} (hC : σ 1006 1 = nI C) (hC10 : C ≤ 10) {r : Nat} (hr : r < 5) : XEx l m_X7_regionFact 2 0 0 [.ref 1000, .int (nI r), .int 5] (setC σ h) (some (.int (f_regionFact5 σ C r))) (setC σ h) := by
  refine XMet.of hl rfl rfl (Nat.le_of_ble_eq_true rfl) (fun Y O hh hQ => ?_)
  show SW Y 0 0 (setC σ h) 0 [.ref 1000, .int (nI r), .int 5] []
  refine sw_iload_n O (xx_dt dd_X7_regionFact 0 rfl) rfl ?_
  refine sw_tableIn (off := 99) (tgt := 100) O (xx_dt dd_X7_regionFact 1 rfl) (by decide) (by decide) rfl (by decide) ?_
  refine sw_aload_n O (xx_dt dd_X7_regionFact 32 rfl) rfl ?_
  refine sw_get (v := .ref 2000) O (xx_dt dd_X7_regionFact 33 rfl) cl_X7 fl_X7_19 (ly_1000 σ h) (by decide) rfl ?_
  refine sw_get (v := .ref (2000 + 2)) O (xx_dt dd_X7_regionFact 34 rfl) cl_X1 fl_X7_249 (lk_0 σ h (.inl rfl)) (by decide) rfl ?_
  refine sw_iload_n O (xx_dt dd_X7_regionFact 35 rfl) rfl ?_
  refine sw_callSx (as := [.ref (2000 + 2), .int (nI r)]) (st := []) (st2 := [.int (f_together 6 (σ (2000 + 2)) r)]) O (ct_X0_together hl (r := r) (f := σ (2000 + 2)) ((ik_2 (.inl rfl)).getE rfl) (by omega) (by omega)) ce_X0_together ml_X7_396 st_X0_together (xx_dt dd_X7_regionFact 36 rfl) (by decide) rfl rfl (Nat.le_of_ble_eq_true rfl) rfl ?_
  refine sw_aload_n O (xx_dt dd_X7_regionFact 37 rfl) rfl ?_
  refine sw_get (v := .ref 1001) O (xx_dt dd_X7_regionFact 38 rfl) cl_X7 fl_X7_12 (ly_1000 σ h) (by decide) rfl ?_
  refine sw_get (v := .ref 1010) O (xx_dt dd_X7_regionFact 39 rfl) cl_X6 fl_X7_285 (ly_1001 σ h) (by decide) rfl ?_
  refine sw_iload_n O (xx_dt dd_X7_regionFact 40 rfl) rfl ?_
  refine sw_iaload (v := .int (σ 1010 r)) O (xx_dt dd_X7_regionFact 41 rfl) (ly_1010 σ h) (pk_in r _ (by omega)) (by rw [nI_clamp (by omega)]; try exact rfl) ?_
  refine sw_isub O (xx_dt dd_X7_regionFact 42 rfl) ?_
  exact sw_iret O (xx_dt dd_X7_regionFact 43 rfl) rfl rfl (by rw [hQ]; exact ⟨by unfold f_regionFact5; rfl, rfl⟩)
def f_regionFact6 (σ : XS9) (C r : Nat) : Int32 := f_together 6 (σ (2000 + 3)) r
theorem ct_X7_regionFact_6 {l : Launch} {h : XH} (hl : l.stackTraces = false) {σ : XS9} {C : Nat} (hC : σ 1006 1 = nI C) (hC10 : C ≤ 10) {r : Nat} (hr : r < 5) : XEx l m_X7_regionFact 2 0 0 [.ref 1000, .int (nI r), .int 6] (setC σ h) (some (.int (f_regionFact6 σ C r))) (setC σ h) := by
  refine XMet.of hl rfl rfl (Nat.le_of_ble_eq_true rfl) (fun Y O hh hQ => ?_)
  show SW Y 0 0 (setC σ h) 0 [.ref 1000, .int (nI r), .int 6] []
  refine sw_iload_n O (xx_dt dd_X7_regionFact 0 rfl) rfl ?_
  refine sw_tableIn (off := 121) (tgt := 122) O (xx_dt dd_X7_regionFact 1 rfl) (by decide) (by decide) rfl (by decide) ?_
  refine sw_aload_n O (xx_dt dd_X7_regionFact 44 rfl) rfl ?_
  refine sw_get (v := .ref 2000) O (xx_dt dd_X7_regionFact 45 rfl) cl_X7 fl_X7_19 (ly_1000 σ h) (by decide) rfl ?_
  refine sw_get (v := .ref (2000 + 3)) O (xx_dt dd_X7_regionFact 46 rfl) cl_X1 fl_X7_133 (lk_0 σ h (.inl rfl)) (by decide) rfl ?_
  refine sw_iload_n O (xx_dt dd_X7_regionFact 47 rfl) rfl ?_
  refine sw_callSx (as := [.ref (2000 + 3), .int (nI r)]) (st := []) (st2 := [.int (f_together 6 (σ (2000 + 3)) r)]) O (ct_X0_together hl (r := r) (f := σ (2000 + 3)) ((ik_3 (.inl rfl)).getE rfl) (by omega) (by omega)) ce_X0_together ml_X7_396 st_X0_together (xx_dt dd_X7_regionFact 48 rfl) (by decide) rfl rfl (Nat.le_of_ble_eq_true rfl) rfl ?_
  exact sw_iret O (xx_dt dd_X7_regionFact 49 rfl) rfl rfl (by rw [hQ]; exact ⟨by unfold f_regionFact6; rfl, rfl⟩)
def f_regionFact7 (σ : XS9) (C r : Nat) : Int32 := σ 1013 r
theorem ct_X7_regionFact_7 {l : Launch} {h : XH} (hl : l.stackTraces = false) {σ : XS9} {C : Nat} (hC : σ 1006 1 = nI C) (hC10 : C ≤ 10) {r : Nat} (hr : r < 5) : XEx l m_X7_regionFact 2 0 0 [.ref 1000, .int (nI r), .int 7] (setC σ h) (some (.int (f_regionFact7 σ C r))) (setC σ h) := by
  refine XMet.of hl rfl rfl (Nat.le_of_ble_eq_true rfl) (fun Y O hh hQ => ?_)
  show SW Y 0 0 (setC σ h) 0 [.ref 1000, .int (nI r), .int 7] []
  refine sw_iload_n O (xx_dt dd_X7_regionFact 0 rfl) rfl ?_
  refine sw_tableIn (off := 133) (tgt := 134) O (xx_dt dd_X7_regionFact 1 rfl) (by decide) (by decide) rfl (by decide) ?_
  refine sw_aload_n O (xx_dt dd_X7_regionFact 50 rfl) rfl ?_
  refine sw_get (v := .ref 1001) O (xx_dt dd_X7_regionFact 51 rfl) cl_X7 fl_X7_12 (ly_1000 σ h) (by decide) rfl ?_
  refine sw_get (v := .ref 1013) O (xx_dt dd_X7_regionFact 52 rfl) cl_X6 fl_X7_400 (ly_1001 σ h) (by decide) rfl ?_
  refine sw_iload_n O (xx_dt dd_X7_regionFact 53 rfl) rfl ?_
  refine sw_iaload (v := .int (σ 1013 r)) O (xx_dt dd_X7_regionFact 54 rfl) (ly_1013 σ h) (pk_in r _ (by omega)) (by rw [nI_clamp (by omega)]; try exact rfl) ?_
  exact sw_iret O (xx_dt dd_X7_regionFact 55 rfl) rfl rfl (by rw [hQ]; exact ⟨by unfold f_regionFact7; rfl, rfl⟩)
def f_regionFact8 (σ : XS9) (C r : Nat) : Int32 := f_countIn σ (nI r) C
theorem ct_X7_regionFact_8 {l : Launch} {h : XH} (hl : l.stackTraces = false) {σ : XS9} {C : Nat} (hC : σ 1006 1 = nI C) (hC10 : C ≤ 10) {r : Nat} (hr : r < 5) : XEx l m_X7_regionFact 2 0 0 [.ref 1000, .int (nI r), .int 8] (setC σ h) (some (.int (f_regionFact8 σ C r))) (setC σ h) := by
  refine XMet.of hl rfl rfl (Nat.le_of_ble_eq_true rfl) (fun Y O hh hQ => ?_)
  show SW Y 0 0 (setC σ h) 0 [.ref 1000, .int (nI r), .int 8] []
  refine sw_iload_n O (xx_dt dd_X7_regionFact 0 rfl) rfl ?_
  refine sw_tableOut (tgt := 144) O (xx_dt dd_X7_regionFact 1 rfl) (by decide) (by decide) ?_
  refine sw_aload_n O (xx_dt dd_X7_regionFact 56 rfl) rfl ?_
  refine sw_get (v := .ref 1006) O (xx_dt dd_X7_regionFact 57 rfl) cl_X7 fl_X7_50 (ly_1000 σ h) (by decide) rfl ?_
  refine sw_iload_n O (xx_dt dd_X7_regionFact 58 rfl) rfl ?_
  refine sw_callVx (as := [.int (nI r)]) (st := []) (st2 := [.int (f_countIn σ (nI r) C)]) O (ct_X5_countIn hl (σ := σ) (C := C) hC (by omega) (x := nI r)) ce_X5_countIn ml_X7_403 iv_X5_countIn cl_X5 rfl (ly_1006 σ h) (xx_dt dd_X7_regionFact 59 rfl) (by decide) rfl rfl (Nat.le_of_ble_eq_true rfl) rfl ?_
  exact sw_iret O (xx_dt dd_X7_regionFact 60 rfl) rfl rfl (by rw [hQ]; exact ⟨by unfold f_regionFact8; rfl, rfl⟩)
def f_bidderFact0 (σ : XS9) (i : Nat) : Int32 := σ 1014 i
theorem ct_X7_bidderFact_0 {l : Launch} {h : XH} (hl : l.stackTraces = false) {σ : XS9} {i : Nat} (hi : i < 6) : XEx l m_X7_bidderFact 2 0 0 [.ref 1000, .int (nI i), .int 0] (setC σ h) (some (.int (f_bidderFact0 σ i))) (setC σ h) := by
  refine XMet.of hl rfl rfl (Nat.le_of_ble_eq_true rfl) (fun Y O hh hQ => ?_)
  show SW Y 0 0 (setC σ h) 0 [.ref 1000, .int (nI i), .int 0] []
  refine sw_iload_n O (xx_dt dd_X7_bidderFact 0 rfl) rfl ?_
  refine sw_tableIn (off := 55) (tgt := 56) O (xx_dt dd_X7_bidderFact 1 rfl) (by decide) (by decide) rfl (by decide) ?_
  refine sw_aload_n O (xx_dt dd_X7_bidderFact 2 rfl) rfl ?_
  refine sw_get (v := .ref 1001) O (xx_dt dd_X7_bidderFact 3 rfl) cl_X7 fl_X7_12 (ly_1000 σ h) (by decide) rfl ?_
  refine sw_get (v := .ref 1014) O (xx_dt dd_X7_bidderFact 4 rfl) cl_X6 fl_X7_406 (ly_1001 σ h) (by decide) rfl ?_
  refine sw_iload_n O (xx_dt dd_X7_bidderFact 5 rfl) rfl ?_
  refine sw_iaload (v := .int (σ 1014 i)) O (xx_dt dd_X7_bidderFact 6 rfl) (ly_1014 σ h) (pk_in i _ (by omega)) (by rw [nI_clamp (by omega)]; try exact rfl) ?_
  exact sw_iret O (xx_dt dd_X7_bidderFact 7 rfl) rfl rfl (by rw [hQ]; exact ⟨by unfold f_bidderFact0; rfl, rfl⟩)
def f_bidderFact1 (σ : XS9) (i : Nat) : Int32 := σ (2000 + 4) i
theorem ct_X7_bidderFact_1 {l : Launch} {h : XH} (hl : l.stackTraces = false) {σ : XS9} {i : Nat} (hi : i < 6) : XEx l m_X7_bidderFact 2 0 0 [.ref 1000, .int (nI i), .int 1] (setC σ h) (some (.int (f_bidderFact1 σ i))) (setC σ h) := by
  refine XMet.of hl rfl rfl (Nat.le_of_ble_eq_true rfl) (fun Y O hh hQ => ?_)
  show SW Y 0 0 (setC σ h) 0 [.ref 1000, .int (nI i), .int 1] []
  refine sw_iload_n O (xx_dt dd_X7_bidderFact 0 rfl) rfl ?_
  refine sw_tableIn (off := 65) (tgt := 66) O (xx_dt dd_X7_bidderFact 1 rfl) (by decide) (by decide) rfl (by decide) ?_
  refine sw_aload_n O (xx_dt dd_X7_bidderFact 8 rfl) rfl ?_
  refine sw_get (v := .ref 2000) O (xx_dt dd_X7_bidderFact 9 rfl) cl_X7 fl_X7_19 (ly_1000 σ h) (by decide) rfl ?_
  refine sw_get (v := .ref (2000 + 4)) O (xx_dt dd_X7_bidderFact 10 rfl) cl_X1 fl_X7_409 (lk_0 σ h (.inl rfl)) (by decide) rfl ?_
  refine sw_iload_n O (xx_dt dd_X7_bidderFact 11 rfl) rfl ?_
  refine sw_iaload (v := .int (σ (2000 + 4) i)) O (xx_dt dd_X7_bidderFact 12 rfl) (lk_4 σ h (.inl rfl)) (pk_in i _ (by omega)) (by rw [nI_clamp (by omega)]; try exact rfl) ?_
  exact sw_iret O (xx_dt dd_X7_bidderFact 13 rfl) rfl rfl (by rw [hQ]; exact ⟨by unfold f_bidderFact1; rfl, rfl⟩)
def f_bidderFact2 (σ : XS9) (i : Nat) : Int32 := σ 1016 i
theorem ct_X7_bidderFact_2 {l : Launch} {h : XH} (hl : l.stackTraces = false) {σ : XS9} {i : Nat} (hi : i < 6) : XEx l m_X7_bidderFact 2 0 0 [.ref 1000, .int (nI i), .int 2] (setC σ h) (some (.int (f_bidderFact2 σ i))) (setC σ h) := by
  refine XMet.of hl rfl rfl (Nat.le_of_ble_eq_true rfl) (fun Y O hh hQ => ?_)
  show SW Y 0 0 (setC σ h) 0 [.ref 1000, .int (nI i), .int 2] []
  refine sw_iload_n O (xx_dt dd_X7_bidderFact 0 rfl) rfl ?_
  refine sw_tableIn (off := 75) (tgt := 76) O (xx_dt dd_X7_bidderFact 1 rfl) (by decide) (by decide) rfl (by decide) ?_
  refine sw_aload_n O (xx_dt dd_X7_bidderFact 14 rfl) rfl ?_
  refine sw_get (v := .ref 1001) O (xx_dt dd_X7_bidderFact 15 rfl) cl_X7 fl_X7_12 (ly_1000 σ h) (by decide) rfl ?_
  refine sw_get (v := .ref 1016) O (xx_dt dd_X7_bidderFact 16 rfl) cl_X6 fl_X7_387 (ly_1001 σ h) (by decide) rfl ?_
  refine sw_iload_n O (xx_dt dd_X7_bidderFact 17 rfl) rfl ?_
  refine sw_iaload (v := .int (σ 1016 i)) O (xx_dt dd_X7_bidderFact 18 rfl) (ly_1016 σ h) (pk_in i _ (by omega)) (by rw [nI_clamp (by omega)]; try exact rfl) ?_
  exact sw_iret O (xx_dt dd_X7_bidderFact 19 rfl) rfl rfl (by rw [hQ]; exact ⟨by unfold f_bidderFact2; rfl, rfl⟩)
def f_bidderFact3 (σ : XS9) (i : Nat) : Int32 := σ 1017 i
theorem ct_X7_bidderFact_3 {l : Launch} {h : XH} (hl : l.stackTraces = false) {σ : XS9} {i : Nat} (hi : i < 6) : XEx l m_X7_bidderFact 2 0 0 [.ref 1000, .int (nI i), .int 3] (setC σ h) (some (.int (f_bidderFact3 σ i))) (setC σ h) := by
  refine XMet.of hl rfl rfl (Nat.le_of_ble_eq_true rfl) (fun Y O hh hQ => ?_)
  show SW Y 0 0 (setC σ h) 0 [.ref 1000, .int (nI i), .int 3] []
  refine sw_iload_n O (xx_dt dd_X7_bidderFact 0 rfl) rfl ?_
  refine sw_tableIn (off := 85) (tgt := 86) O (xx_dt dd_X7_bidderFact 1 rfl) (by decide) (by decide) rfl (by decide) ?_
  refine sw_aload_n O (xx_dt dd_X7_bidderFact 20 rfl) rfl ?_
  refine sw_get (v := .ref 1001) O (xx_dt dd_X7_bidderFact 21 rfl) cl_X7 fl_X7_12 (ly_1000 σ h) (by decide) rfl ?_
  refine sw_get (v := .ref 1017) O (xx_dt dd_X7_bidderFact 22 rfl) cl_X6 fl_X7_412 (ly_1001 σ h) (by decide) rfl ?_
  refine sw_iload_n O (xx_dt dd_X7_bidderFact 23 rfl) rfl ?_
  refine sw_iaload (v := .int (σ 1017 i)) O (xx_dt dd_X7_bidderFact 24 rfl) (ly_1017 σ h) (pk_in i _ (by omega)) (by rw [nI_clamp (by omega)]; try exact rfl) ?_
  exact sw_iret O (xx_dt dd_X7_bidderFact 25 rfl) rfl rfl (by rw [hQ]; exact ⟨by unfold f_bidderFact3; rfl, rfl⟩)
def f_bidderFact4 (σ : XS9) (i : Nat) : Int32 := σ (2000 + 5) i
theorem ct_X7_bidderFact_4 {l : Launch} {h : XH} (hl : l.stackTraces = false) {σ : XS9} {i : Nat} (hi : i < 6) : XEx l m_X7_bidderFact 2 0 0 [.ref 1000, .int (nI i), .int 4] (setC σ h) (some (.int (f_bidderFact4 σ i))) (setC σ h) := by
  refine XMet.of hl rfl rfl (Nat.le_of_ble_eq_true rfl) (fun Y O hh hQ => ?_)
  show SW Y 0 0 (setC σ h) 0 [.ref 1000, .int (nI i), .int 4] []
  refine sw_iload_n O (xx_dt dd_X7_bidderFact 0 rfl) rfl ?_
  refine sw_tableIn (off := 95) (tgt := 96) O (xx_dt dd_X7_bidderFact 1 rfl) (by decide) (by decide) rfl (by decide) ?_
  refine sw_aload_n O (xx_dt dd_X7_bidderFact 26 rfl) rfl ?_
  refine sw_get (v := .ref 2000) O (xx_dt dd_X7_bidderFact 27 rfl) cl_X7 fl_X7_19 (ly_1000 σ h) (by decide) rfl ?_
  refine sw_get (v := .ref (2000 + 5)) O (xx_dt dd_X7_bidderFact 28 rfl) cl_X1 fl_X7_149 (lk_0 σ h (.inl rfl)) (by decide) rfl ?_
  refine sw_iload_n O (xx_dt dd_X7_bidderFact 29 rfl) rfl ?_
  refine sw_iaload (v := .int (σ (2000 + 5) i)) O (xx_dt dd_X7_bidderFact 30 rfl) (lk_5 σ h (.inl rfl)) (pk_in i _ (by omega)) (by rw [nI_clamp (by omega)]; try exact rfl) ?_
  exact sw_iret O (xx_dt dd_X7_bidderFact 31 rfl) rfl rfl (by rw [hQ]; exact ⟨by unfold f_bidderFact4; rfl, rfl⟩)
def f_bidderFact5 (σ : XS9) (i : Nat) : Int32 := σ (2000 + 2) i
theorem ct_X7_bidderFact_5 {l : Launch} {h : XH} (hl : l.stackTraces = false) {σ : XS9} {i : Nat} (hi : i < 6) : XEx l m_X7_bidderFact 2 0 0 [.ref 1000, .int (nI i), .int 5] (setC σ h) (some (.int (f_bidderFact5 σ i))) (setC σ h) := by
  refine XMet.of hl rfl rfl (Nat.le_of_ble_eq_true rfl) (fun Y O hh hQ => ?_)
  show SW Y 0 0 (setC σ h) 0 [.ref 1000, .int (nI i), .int 5] []
  refine sw_iload_n O (xx_dt dd_X7_bidderFact 0 rfl) rfl ?_
  refine sw_tableIn (off := 105) (tgt := 106) O (xx_dt dd_X7_bidderFact 1 rfl) (by decide) (by decide) rfl (by decide) ?_
  refine sw_aload_n O (xx_dt dd_X7_bidderFact 32 rfl) rfl ?_
  refine sw_get (v := .ref 2000) O (xx_dt dd_X7_bidderFact 33 rfl) cl_X7 fl_X7_19 (ly_1000 σ h) (by decide) rfl ?_
  refine sw_get (v := .ref (2000 + 2)) O (xx_dt dd_X7_bidderFact 34 rfl) cl_X1 fl_X7_249 (lk_0 σ h (.inl rfl)) (by decide) rfl ?_
  refine sw_iload_n O (xx_dt dd_X7_bidderFact 35 rfl) rfl ?_
  refine sw_iaload (v := .int (σ (2000 + 2) i)) O (xx_dt dd_X7_bidderFact 36 rfl) (lk_2 σ h (.inl rfl)) (pk_in i _ (by omega)) (by rw [nI_clamp (by omega)]; try exact rfl) ?_
  exact sw_iret O (xx_dt dd_X7_bidderFact 37 rfl) rfl rfl (by rw [hQ]; exact ⟨by unfold f_bidderFact5; rfl, rfl⟩)
def f_bidderFact6 (σ : XS9) (i : Nat) : Int32 := σ (2000 + 3) i
theorem ct_X7_bidderFact_6 {l : Launch} {h : XH} (hl : l.stackTraces = false) {σ : XS9} {i : Nat} (hi : i < 6) : XEx l m_X7_bidderFact 2 0 0 [.ref 1000, .int (nI i), .int 6] (setC σ h) (some (.int (f_bidderFact6 σ i))) (setC σ h) := by
  refine XMet.of hl rfl rfl (Nat.le_of_ble_eq_true rfl) (fun Y O hh hQ => ?_)
  show SW Y 0 0 (setC σ h) 0 [.ref 1000, .int (nI i), .int 6] []
  refine sw_iload_n O (xx_dt dd_X7_bidderFact 0 rfl) rfl ?_
  refine sw_tableIn (off := 115) (tgt := 116) O (xx_dt dd_X7_bidderFact 1 rfl) (by decide) (by decide) rfl (by decide) ?_
  refine sw_aload_n O (xx_dt dd_X7_bidderFact 38 rfl) rfl ?_
  refine sw_get (v := .ref 2000) O (xx_dt dd_X7_bidderFact 39 rfl) cl_X7 fl_X7_19 (ly_1000 σ h) (by decide) rfl ?_
  refine sw_get (v := .ref (2000 + 3)) O (xx_dt dd_X7_bidderFact 40 rfl) cl_X1 fl_X7_133 (lk_0 σ h (.inl rfl)) (by decide) rfl ?_
  refine sw_iload_n O (xx_dt dd_X7_bidderFact 41 rfl) rfl ?_
  refine sw_iaload (v := .int (σ (2000 + 3) i)) O (xx_dt dd_X7_bidderFact 42 rfl) (lk_3 σ h (.inl rfl)) (pk_in i _ (by omega)) (by rw [nI_clamp (by omega)]; try exact rfl) ?_
  exact sw_iret O (xx_dt dd_X7_bidderFact 43 rfl) rfl rfl (by rw [hQ]; exact ⟨by unfold f_bidderFact6; rfl, rfl⟩)
def f_bidderFact7 (σ : XS9) (i : Nat) : Int32 := f_total (σ (2000 + 3) i) 5 (σ 1011)
theorem ct_X7_bidderFact_7 {l : Launch} {h : XH} (hl : l.stackTraces = false) {σ : XS9} {i : Nat} (hi : i < 6) : XEx l m_X7_bidderFact 2 0 0 [.ref 1000, .int (nI i), .int 7] (setC σ h) (some (.int (f_bidderFact7 σ i))) (setC σ h) := by
  refine XMet.of hl rfl rfl (Nat.le_of_ble_eq_true rfl) (fun Y O hh hQ => ?_)
  show SW Y 0 0 (setC σ h) 0 [.ref 1000, .int (nI i), .int 7] []
  refine sw_iload_n O (xx_dt dd_X7_bidderFact 0 rfl) rfl ?_
  refine sw_tableIn (off := 125) (tgt := 126) O (xx_dt dd_X7_bidderFact 1 rfl) (by decide) (by decide) rfl (by decide) ?_
  refine sw_aload_n O (xx_dt dd_X7_bidderFact 44 rfl) rfl ?_
  refine sw_get (v := .ref 2000) O (xx_dt dd_X7_bidderFact 45 rfl) cl_X7 fl_X7_19 (ly_1000 σ h) (by decide) rfl ?_
  refine sw_get (v := .ref (2000 + 3)) O (xx_dt dd_X7_bidderFact 46 rfl) cl_X1 fl_X7_133 (lk_0 σ h (.inl rfl)) (by decide) rfl ?_
  refine sw_iload_n O (xx_dt dd_X7_bidderFact 47 rfl) rfl ?_
  refine sw_iaload (v := .int (σ (2000 + 3) i)) O (xx_dt dd_X7_bidderFact 48 rfl) (lk_3 σ h (.inl rfl)) (pk_in i _ (by omega)) (by rw [nI_clamp (by omega)]; try exact rfl) ?_
  refine sw_aload_n O (xx_dt dd_X7_bidderFact 49 rfl) rfl ?_
  refine sw_get (v := .ref 1001) O (xx_dt dd_X7_bidderFact 50 rfl) cl_X7 fl_X7_12 (ly_1000 σ h) (by decide) rfl ?_
  refine sw_get (v := .ref 1011) O (xx_dt dd_X7_bidderFact 51 rfl) cl_X6 fl_X7_142 (ly_1001 σ h) (by decide) rfl ?_
  refine sw_callSx (as := [.int (σ (2000 + 3) i), .ref 1011]) (st := []) (st2 := [.int (f_total (σ (2000 + 3) i) 5 (σ 1011))]) O (ct_X0_total hl (c := σ (2000 + 3) i) (f := σ 1011) (ia_1011.getE rfl) (by omega)) ce_X0_total ml_X7_145 st_X0_total (xx_dt dd_X7_bidderFact 52 rfl) (by decide) rfl rfl (Nat.le_of_ble_eq_true rfl) rfl ?_
  exact sw_iret O (xx_dt dd_X7_bidderFact 53 rfl) rfl rfl (by rw [hQ]; exact ⟨by unfold f_bidderFact7; rfl, rfl⟩)
def f_bidderFact8 (σ : XS9) (i : Nat) : Int32 := σ 1020 i
theorem ct_X7_bidderFact_8 {l : Launch} {h : XH} (hl : l.stackTraces = false) {σ : XS9} {i : Nat} (hi : i < 6) : XEx l m_X7_bidderFact 2 0 0 [.ref 1000, .int (nI i), .int 8] (setC σ h) (some (.int (f_bidderFact8 σ i))) (setC σ h) := by
  refine XMet.of hl rfl rfl (Nat.le_of_ble_eq_true rfl) (fun Y O hh hQ => ?_)
  show SW Y 0 0 (setC σ h) 0 [.ref 1000, .int (nI i), .int 8] []
  refine sw_iload_n O (xx_dt dd_X7_bidderFact 0 rfl) rfl ?_
  refine sw_tableIn (off := 145) (tgt := 146) O (xx_dt dd_X7_bidderFact 1 rfl) (by decide) (by decide) rfl (by decide) ?_
  refine sw_aload_n O (xx_dt dd_X7_bidderFact 54 rfl) rfl ?_
  refine sw_get (v := .ref 1003) O (xx_dt dd_X7_bidderFact 55 rfl) cl_X7 fl_X7_29 (ly_1000 σ h) (by decide) rfl ?_
  refine sw_get (v := .ref 1020) O (xx_dt dd_X7_bidderFact 56 rfl) cl_X2 fl_X7_173 (ly_1003 σ h) (by decide) rfl ?_
  refine sw_iload_n O (xx_dt dd_X7_bidderFact 57 rfl) rfl ?_
  refine sw_iaload (v := .int (σ 1020 i)) O (xx_dt dd_X7_bidderFact 58 rfl) (ly_1020 σ h) (pk_in i _ (by omega)) (by rw [nI_clamp (by omega)]; try exact rfl) ?_
  exact sw_iret O (xx_dt dd_X7_bidderFact 59 rfl) rfl rfl (by rw [hQ]; exact ⟨by unfold f_bidderFact8; rfl, rfl⟩)
def f_bidderFact9 (σ : XS9) (i : Nat) : Int32 := (if (f_isOut σ i) = 0 then 0 else 1)
theorem ct_X7_bidderFact_9 {l : Launch} {h : XH} (hl : l.stackTraces = false) {σ : XS9} {i : Nat} (hi : i < 6) : XEx l m_X7_bidderFact 2 0 0 [.ref 1000, .int (nI i), .int 9] (setC σ h) (some (.int (f_bidderFact9 σ i))) (setC σ h) := by
  refine XMet.of hl rfl rfl (Nat.le_of_ble_eq_true rfl) (fun Y O hh hQ => ?_)
  show SW Y 0 0 (setC σ h) 0 [.ref 1000, .int (nI i), .int 9] []
  refine sw_iload_n O (xx_dt dd_X7_bidderFact 0 rfl) rfl ?_
  refine sw_tableIn (off := 155) (tgt := 156) O (xx_dt dd_X7_bidderFact 1 rfl) (by decide) (by decide) rfl (by decide) ?_
  refine sw_aload_n O (xx_dt dd_X7_bidderFact 60 rfl) rfl ?_
  refine sw_get (v := .ref 1003) O (xx_dt dd_X7_bidderFact 61 rfl) cl_X7 fl_X7_29 (ly_1000 σ h) (by decide) rfl ?_
  refine sw_iload_n O (xx_dt dd_X7_bidderFact 62 rfl) rfl ?_
  refine sw_callVx (as := [.int (nI i)]) (st := []) (st2 := [.int (f_isOut σ i)]) O (ct_X2_isOut hl (σ := σ) (i := i)) ce_X2_isOut ml_X7_415 iv_X2_isOut cl_X2 rfl (ly_1003 σ h) (xx_dt dd_X7_bidderFact 63 rfl) (by decide) rfl rfl (Nat.le_of_ble_eq_true rfl) rfl ?_
  refine sw_if_eq (tgt := 171) O (xx_dt dd_X7_bidderFact 64 rfl) (by decide) (fun q1 => ?_) (fun q1 => ?_)
  · refine sw_iconst (x := 0) O (xx_dt dd_X7_bidderFact 67 rfl) (by decide) ?_
    exact sw_iret O (xx_dt dd_X7_bidderFact 68 rfl) rfl rfl (by rw [hQ]; exact ⟨by unfold f_bidderFact9; simp only [if_pos q1], rfl⟩)
  · refine sw_iconst (x := 1) O (xx_dt dd_X7_bidderFact 65 rfl) (by decide) ?_
    refine sw_goto (tgt := 172) O (xx_dt dd_X7_bidderFact 66 rfl) (by decide) ?_
    exact sw_iret O (xx_dt dd_X7_bidderFact 68 rfl) rfl rfl (by rw [hQ]; exact ⟨by unfold f_bidderFact9; simp only [if_neg q1], rfl⟩)
def f_bidderFact10 (σ : XS9) (i : Nat) : Int32 := σ (2000 + 6) i
theorem ct_X7_bidderFact_10 {l : Launch} {h : XH} (hl : l.stackTraces = false) {σ : XS9} {i : Nat} (hi : i < 6) : XEx l m_X7_bidderFact 2 0 0 [.ref 1000, .int (nI i), .int 10] (setC σ h) (some (.int (f_bidderFact10 σ i))) (setC σ h) := by
  refine XMet.of hl rfl rfl (Nat.le_of_ble_eq_true rfl) (fun Y O hh hQ => ?_)
  show SW Y 0 0 (setC σ h) 0 [.ref 1000, .int (nI i), .int 10] []
  refine sw_iload_n O (xx_dt dd_X7_bidderFact 0 rfl) rfl ?_
  refine sw_tableOut (tgt := 173) O (xx_dt dd_X7_bidderFact 1 rfl) (by decide) (by decide) ?_
  refine sw_aload_n O (xx_dt dd_X7_bidderFact 69 rfl) rfl ?_
  refine sw_get (v := .ref 2000) O (xx_dt dd_X7_bidderFact 70 rfl) cl_X7 fl_X7_19 (ly_1000 σ h) (by decide) rfl ?_
  refine sw_get (v := .ref (2000 + 6)) O (xx_dt dd_X7_bidderFact 71 rfl) cl_X1 fl_X7_418 (lk_0 σ h (.inl rfl)) (by decide) rfl ?_
  refine sw_iload_n O (xx_dt dd_X7_bidderFact 72 rfl) rfl ?_
  refine sw_iaload (v := .int (σ (2000 + 6) i)) O (xx_dt dd_X7_bidderFact 73 rfl) (lk_6 σ h (.inl rfl)) (pk_in i _ (by omega)) (by rw [nI_clamp (by omega)]; try exact rfl) ?_
  exact sw_iret O (xx_dt dd_X7_bidderFact 74 rfl) rfl rfl (by rw [hQ]; exact ⟨by unfold f_bidderFact10; rfl, rfl⟩)
def f_saleFact0 (σ : XS9) (K B R C w : Nat) : Int32 := σ 1000 7
theorem ct_X7_saleFact_0 {l : Launch} {h : XH} (hl : l.stackTraces = false) {σ : XS9} {K : Nat} (hK : σ 2000 9 = nI K) (hK60 : K ≤ 60) {B : Nat} (hB : σ 1001 9 = nI B) (hB6 : B ≤ 6) {R : Nat} (hR : σ 1001 4 = nI R) (hR5 : R ≤ 5) {C : Nat} (hC : σ 1006 1 = nI C) (hC10 : C ≤ 10) {w : Nat} (hw : σ 1000 9 = nI w) (hw3 : w < 3)  : XEx l m_X7_saleFact 4 0 0 [.ref 1000, .int 0] (setC σ h) (some (.int (f_saleFact0 σ K B R C w))) (setC σ h) := by
  refine XMet.of hl rfl rfl (Nat.le_of_ble_eq_true rfl) (fun Y O hh hQ => ?_)
  show SW Y 0 0 (setC σ h) 0 [.ref 1000, .int 0] []
  refine sw_iload_n O (xx_dt dd_X7_saleFact 0 rfl) rfl ?_
  refine sw_tableIn (off := 79) (tgt := 80) O (xx_dt dd_X7_saleFact 1 rfl) (by decide) (by decide) rfl (by decide) ?_
  refine sw_aload_n O (xx_dt dd_X7_saleFact 2 rfl) rfl ?_
  refine sw_get (v := .int (σ 1000 7)) O (xx_dt dd_X7_saleFact 3 rfl) cl_X7 fl_X7_54 (ly_1000 σ h) (by decide) rfl ?_
  exact sw_iret O (xx_dt dd_X7_saleFact 4 rfl) rfl rfl (by rw [hQ]; exact ⟨by unfold f_saleFact0; rfl, rfl⟩)
def f_saleFact1 (σ : XS9) (K B R C w : Nat) : Int32 := f_roundNow σ K
theorem ct_X7_saleFact_1 {l : Launch} {h : XH} (hl : l.stackTraces = false) {σ : XS9} {K : Nat} (hK : σ 2000 9 = nI K) (hK60 : K ≤ 60) {B : Nat} (hB : σ 1001 9 = nI B) (hB6 : B ≤ 6) {R : Nat} (hR : σ 1001 4 = nI R) (hR5 : R ≤ 5) {C : Nat} (hC : σ 1006 1 = nI C) (hC10 : C ≤ 10) {w : Nat} (hw : σ 1000 9 = nI w) (hw3 : w < 3)  : XEx l m_X7_saleFact 4 0 0 [.ref 1000, .int 1] (setC σ h) (some (.int (f_saleFact1 σ K B R C w))) (setC σ h) := by
  refine XMet.of hl rfl rfl (Nat.le_of_ble_eq_true rfl) (fun Y O hh hQ => ?_)
  show SW Y 0 0 (setC σ h) 0 [.ref 1000, .int 1] []
  refine sw_iload_n O (xx_dt dd_X7_saleFact 0 rfl) rfl ?_
  refine sw_tableIn (off := 84) (tgt := 85) O (xx_dt dd_X7_saleFact 1 rfl) (by decide) (by decide) rfl (by decide) ?_
  refine sw_aload_n O (xx_dt dd_X7_saleFact 5 rfl) rfl ?_
  refine sw_callVx (as := []) (st := []) (st2 := [.int (f_roundNow σ K)]) O (ct_X7_roundNow hl (σ := σ) (K := K) hK (by omega)) ce_X7_roundNow ml_X7_421 iv_X7_roundNow cl_X7 rfl (ly_1000 σ h) (xx_dt dd_X7_saleFact 6 rfl) (by decide) rfl rfl (Nat.le_of_ble_eq_true rfl) rfl ?_
  exact sw_iret O (xx_dt dd_X7_saleFact 7 rfl) rfl rfl (by rw [hQ]; exact ⟨by unfold f_saleFact1; rfl, rfl⟩)
def f_saleFact2 (σ : XS9) (K B R C w : Nat) : Int32 := nI R
theorem ct_X7_saleFact_2 {l : Launch} {h : XH} (hl : l.stackTraces = false) {σ : XS9} {K : Nat} (hK : σ 2000 9 = nI K) (hK60 : K ≤ 60) {B : Nat} (hB : σ 1001 9 = nI B) (hB6 : B ≤ 6) {R : Nat} (hR : σ 1001 4 = nI R) (hR5 : R ≤ 5) {C : Nat} (hC : σ 1006 1 = nI C) (hC10 : C ≤ 10) {w : Nat} (hw : σ 1000 9 = nI w) (hw3 : w < 3)  : XEx l m_X7_saleFact 4 0 0 [.ref 1000, .int 2] (setC σ h) (some (.int (f_saleFact2 σ K B R C w))) (setC σ h) := by
  refine XMet.of hl rfl rfl (Nat.le_of_ble_eq_true rfl) (fun Y O hh hQ => ?_)
  show SW Y 0 0 (setC σ h) 0 [.ref 1000, .int 2] []
  refine sw_iload_n O (xx_dt dd_X7_saleFact 0 rfl) rfl ?_
  refine sw_tableIn (off := 89) (tgt := 90) O (xx_dt dd_X7_saleFact 1 rfl) (by decide) (by decide) rfl (by decide) ?_
  refine sw_aload_n O (xx_dt dd_X7_saleFact 8 rfl) rfl ?_
  refine sw_get (v := .ref 1001) O (xx_dt dd_X7_saleFact 9 rfl) cl_X7 fl_X7_12 (ly_1000 σ h) (by decide) rfl ?_
  refine sw_get (v := .int (nI R)) O (xx_dt dd_X7_saleFact 10 rfl) cl_X6 fl_X7_69 (ly_1001 σ h) (by decide) (congrArg Value.int hR) ?_
  exact sw_iret O (xx_dt dd_X7_saleFact 11 rfl) rfl rfl (by rw [hQ]; exact ⟨by unfold f_saleFact2; rfl, rfl⟩)
def f_saleFact3 (σ : XS9) (K B R C w : Nat) : Int32 := nI B
theorem ct_X7_saleFact_3 {l : Launch} {h : XH} (hl : l.stackTraces = false) {σ : XS9} {K : Nat} (hK : σ 2000 9 = nI K) (hK60 : K ≤ 60) {B : Nat} (hB : σ 1001 9 = nI B) (hB6 : B ≤ 6) {R : Nat} (hR : σ 1001 4 = nI R) (hR5 : R ≤ 5) {C : Nat} (hC : σ 1006 1 = nI C) (hC10 : C ≤ 10) {w : Nat} (hw : σ 1000 9 = nI w) (hw3 : w < 3)  : XEx l m_X7_saleFact 4 0 0 [.ref 1000, .int 3] (setC σ h) (some (.int (f_saleFact3 σ K B R C w))) (setC σ h) := by
  refine XMet.of hl rfl rfl (Nat.le_of_ble_eq_true rfl) (fun Y O hh hQ => ?_)
  show SW Y 0 0 (setC σ h) 0 [.ref 1000, .int 3] []
  refine sw_iload_n O (xx_dt dd_X7_saleFact 0 rfl) rfl ?_
  refine sw_tableIn (off := 97) (tgt := 98) O (xx_dt dd_X7_saleFact 1 rfl) (by decide) (by decide) rfl (by decide) ?_
  refine sw_aload_n O (xx_dt dd_X7_saleFact 12 rfl) rfl ?_
  refine sw_get (v := .ref 1001) O (xx_dt dd_X7_saleFact 13 rfl) cl_X7 fl_X7_12 (ly_1000 σ h) (by decide) rfl ?_
  refine sw_get (v := .int (nI B)) O (xx_dt dd_X7_saleFact 14 rfl) cl_X6 fl_X7_100 (ly_1001 σ h) (by decide) (congrArg Value.int hB) ?_
  exact sw_iret O (xx_dt dd_X7_saleFact 15 rfl) rfl rfl (by rw [hQ]; exact ⟨by unfold f_saleFact3; rfl, rfl⟩)
def f_saleFact4 (σ : XS9) (K B R C w : Nat) : Int32 := nI C
theorem ct_X7_saleFact_4 {l : Launch} {h : XH} (hl : l.stackTraces = false) {σ : XS9} {K : Nat} (hK : σ 2000 9 = nI K) (hK60 : K ≤ 60) {B : Nat} (hB : σ 1001 9 = nI B) (hB6 : B ≤ 6) {R : Nat} (hR : σ 1001 4 = nI R) (hR5 : R ≤ 5) {C : Nat} (hC : σ 1006 1 = nI C) (hC10 : C ≤ 10) {w : Nat} (hw : σ 1000 9 = nI w) (hw3 : w < 3)  : XEx l m_X7_saleFact 4 0 0 [.ref 1000, .int 4] (setC σ h) (some (.int (f_saleFact4 σ K B R C w))) (setC σ h) := by
  refine XMet.of hl rfl rfl (Nat.le_of_ble_eq_true rfl) (fun Y O hh hQ => ?_)
  show SW Y 0 0 (setC σ h) 0 [.ref 1000, .int 4] []
  refine sw_iload_n O (xx_dt dd_X7_saleFact 0 rfl) rfl ?_
  refine sw_tableIn (off := 105) (tgt := 106) O (xx_dt dd_X7_saleFact 1 rfl) (by decide) (by decide) rfl (by decide) ?_
  refine sw_aload_n O (xx_dt dd_X7_saleFact 16 rfl) rfl ?_
  refine sw_get (v := .ref 1006) O (xx_dt dd_X7_saleFact 17 rfl) cl_X7 fl_X7_50 (ly_1000 σ h) (by decide) rfl ?_
  refine sw_get (v := .int (nI C)) O (xx_dt dd_X7_saleFact 18 rfl) cl_X5 fl_X7_215 (ly_1006 σ h) (by decide) (congrArg Value.int hC) ?_
  exact sw_iret O (xx_dt dd_X7_saleFact 19 rfl) rfl rfl (by rw [hQ]; exact ⟨by unfold f_saleFact4; rfl, rfl⟩)
def f_saleFact5 (σ : XS9) (K B R C w : Nat) : Int32 := σ 1001 10
theorem ct_X7_saleFact_5 {l : Launch} {h : XH} (hl : l.stackTraces = false) {σ : XS9} {K : Nat} (hK : σ 2000 9 = nI K) (hK60 : K ≤ 60) {B : Nat} (hB : σ 1001 9 = nI B) (hB6 : B ≤ 6) {R : Nat} (hR : σ 1001 4 = nI R) (hR5 : R ≤ 5) {C : Nat} (hC : σ 1006 1 = nI C) (hC10 : C ≤ 10) {w : Nat} (hw : σ 1000 9 = nI w) (hw3 : w < 3)  : XEx l m_X7_saleFact 4 0 0 [.ref 1000, .int 5] (setC σ h) (some (.int (f_saleFact5 σ K B R C w))) (setC σ h) := by
  refine XMet.of hl rfl rfl (Nat.le_of_ble_eq_true rfl) (fun Y O hh hQ => ?_)
  show SW Y 0 0 (setC σ h) 0 [.ref 1000, .int 5] []
  refine sw_iload_n O (xx_dt dd_X7_saleFact 0 rfl) rfl ?_
  refine sw_tableIn (off := 113) (tgt := 114) O (xx_dt dd_X7_saleFact 1 rfl) (by decide) (by decide) rfl (by decide) ?_
  refine sw_aload_n O (xx_dt dd_X7_saleFact 20 rfl) rfl ?_
  refine sw_get (v := .ref 1001) O (xx_dt dd_X7_saleFact 21 rfl) cl_X7 fl_X7_12 (ly_1000 σ h) (by decide) rfl ?_
  refine sw_get (v := .int (σ 1001 10)) O (xx_dt dd_X7_saleFact 22 rfl) cl_X6 fl_X7_109 (ly_1001 σ h) (by decide) rfl ?_
  exact sw_iret O (xx_dt dd_X7_saleFact 23 rfl) rfl rfl (by rw [hQ]; exact ⟨by unfold f_saleFact5; rfl, rfl⟩)
def f_saleFact6 (σ : XS9) (K B R C w : Nat) : Int32 := (if (σ 1001 11) = 0 then 0 else 1)
theorem ct_X7_saleFact_6 {l : Launch} {h : XH} (hl : l.stackTraces = false) {σ : XS9} {K : Nat} (hK : σ 2000 9 = nI K) (hK60 : K ≤ 60) {B : Nat} (hB : σ 1001 9 = nI B) (hB6 : B ≤ 6) {R : Nat} (hR : σ 1001 4 = nI R) (hR5 : R ≤ 5) {C : Nat} (hC : σ 1006 1 = nI C) (hC10 : C ≤ 10) {w : Nat} (hw : σ 1000 9 = nI w) (hw3 : w < 3)  : XEx l m_X7_saleFact 4 0 0 [.ref 1000, .int 6] (setC σ h) (some (.int (f_saleFact6 σ K B R C w))) (setC σ h) := by
  refine XMet.of hl rfl rfl (Nat.le_of_ble_eq_true rfl) (fun Y O hh hQ => ?_)
  show SW Y 0 0 (setC σ h) 0 [.ref 1000, .int 6] []
  refine sw_iload_n O (xx_dt dd_X7_saleFact 0 rfl) rfl ?_
  refine sw_tableIn (off := 121) (tgt := 122) O (xx_dt dd_X7_saleFact 1 rfl) (by decide) (by decide) rfl (by decide) ?_
  refine sw_aload_n O (xx_dt dd_X7_saleFact 24 rfl) rfl ?_
  refine sw_get (v := .ref 1001) O (xx_dt dd_X7_saleFact 25 rfl) cl_X7 fl_X7_12 (ly_1000 σ h) (by decide) rfl ?_
  refine sw_get (v := .int (σ 1001 11)) O (xx_dt dd_X7_saleFact 26 rfl) cl_X6 fl_X7_112 (ly_1001 σ h) (by decide) rfl ?_
  refine sw_if_eq (tgt := 136) O (xx_dt dd_X7_saleFact 27 rfl) (by decide) (fun q1 => ?_) (fun q1 => ?_)
  · refine sw_iconst (x := 0) O (xx_dt dd_X7_saleFact 30 rfl) (by decide) ?_
    exact sw_iret O (xx_dt dd_X7_saleFact 31 rfl) rfl rfl (by rw [hQ]; exact ⟨by unfold f_saleFact6; simp only [if_pos q1], rfl⟩)
  · refine sw_iconst (x := 1) O (xx_dt dd_X7_saleFact 28 rfl) (by decide) ?_
    refine sw_goto (tgt := 137) O (xx_dt dd_X7_saleFact 29 rfl) (by decide) ?_
    exact sw_iret O (xx_dt dd_X7_saleFact 31 rfl) rfl rfl (by rw [hQ]; exact ⟨by unfold f_saleFact6; simp only [if_neg q1], rfl⟩)
def f_saleFact7 (σ : XS9) (K B R C w : Nat) : Int32 := σ 1000 8
theorem ct_X7_saleFact_7 {l : Launch} {h : XH} (hl : l.stackTraces = false) {σ : XS9} {K : Nat} (hK : σ 2000 9 = nI K) (hK60 : K ≤ 60) {B : Nat} (hB : σ 1001 9 = nI B) (hB6 : B ≤ 6) {R : Nat} (hR : σ 1001 4 = nI R) (hR5 : R ≤ 5) {C : Nat} (hC : σ 1006 1 = nI C) (hC10 : C ≤ 10) {w : Nat} (hw : σ 1000 9 = nI w) (hw3 : w < 3)  : XEx l m_X7_saleFact 4 0 0 [.ref 1000, .int 7] (setC σ h) (some (.int (f_saleFact7 σ K B R C w))) (setC σ h) := by
  refine XMet.of hl rfl rfl (Nat.le_of_ble_eq_true rfl) (fun Y O hh hQ => ?_)
  show SW Y 0 0 (setC σ h) 0 [.ref 1000, .int 7] []
  refine sw_iload_n O (xx_dt dd_X7_saleFact 0 rfl) rfl ?_
  refine sw_tableIn (off := 137) (tgt := 138) O (xx_dt dd_X7_saleFact 1 rfl) (by decide) (by decide) rfl (by decide) ?_
  refine sw_aload_n O (xx_dt dd_X7_saleFact 32 rfl) rfl ?_
  refine sw_get (v := .int (σ 1000 8)) O (xx_dt dd_X7_saleFact 33 rfl) cl_X7 fl_X7_58 (ly_1000 σ h) (by decide) rfl ?_
  exact sw_iret O (xx_dt dd_X7_saleFact 34 rfl) rfl rfl (by rw [hQ]; exact ⟨by unfold f_saleFact7; rfl, rfl⟩)
def f_saleFact8 (σ : XS9) (K B R C w : Nat) : Int32 := f_allContradictions σ 2000
theorem ct_X7_saleFact_8 {l : Launch} {h : XH} (hl : l.stackTraces = false) {σ : XS9} {K : Nat} (hK : σ 2000 9 = nI K) (hK60 : K ≤ 60) {B : Nat} (hB : σ 1001 9 = nI B) (hB6 : B ≤ 6) {R : Nat} (hR : σ 1001 4 = nI R) (hR5 : R ≤ 5) {C : Nat} (hC : σ 1006 1 = nI C) (hC10 : C ≤ 10) {w : Nat} (hw : σ 1000 9 = nI w) (hw3 : w < 3)  : XEx l m_X7_saleFact 4 0 0 [.ref 1000, .int 8] (setC σ h) (some (.int (f_saleFact8 σ K B R C w))) (setC σ h) := by
  refine XMet.of hl rfl rfl (Nat.le_of_ble_eq_true rfl) (fun Y O hh hQ => ?_)
  show SW Y 0 0 (setC σ h) 0 [.ref 1000, .int 8] []
  refine sw_iload_n O (xx_dt dd_X7_saleFact 0 rfl) rfl ?_
  refine sw_tableIn (off := 142) (tgt := 143) O (xx_dt dd_X7_saleFact 1 rfl) (by decide) (by decide) rfl (by decide) ?_
  refine sw_aload_n O (xx_dt dd_X7_saleFact 35 rfl) rfl ?_
  refine sw_get (v := .ref 2000) O (xx_dt dd_X7_saleFact 36 rfl) cl_X7 fl_X7_19 (ly_1000 σ h) (by decide) rfl ?_
  refine sw_callVx (as := []) (st := []) (st2 := [.int (f_allContradictions σ 2000)]) O (ct_X1_allContradictions hl (σ := σ) (b := 2000) (.inl rfl)) ce_X1_allContradictions ml_X7_424 iv_X1_allContradictions cl_X1 rfl (lk_0 σ h (.inl rfl)) (xx_dt dd_X7_saleFact 37 rfl) (by decide) rfl rfl (Nat.le_of_ble_eq_true rfl) rfl ?_
  exact sw_iret O (xx_dt dd_X7_saleFact 38 rfl) rfl rfl (by rw [hQ]; exact ⟨by unfold f_saleFact8; rfl, rfl⟩)
def f_saleFact9 (σ : XS9) (K B R C w : Nat) : Int32 := f_winners σ
theorem ct_X7_saleFact_9 {l : Launch} {h : XH} (hl : l.stackTraces = false) {σ : XS9} {K : Nat} (hK : σ 2000 9 = nI K) (hK60 : K ≤ 60) {B : Nat} (hB : σ 1001 9 = nI B) (hB6 : B ≤ 6) {R : Nat} (hR : σ 1001 4 = nI R) (hR5 : R ≤ 5) {C : Nat} (hC : σ 1006 1 = nI C) (hC10 : C ≤ 10) {w : Nat} (hw : σ 1000 9 = nI w) (hw3 : w < 3)  : XEx l m_X7_saleFact 4 0 0 [.ref 1000, .int 9] (setC σ h) (some (.int (f_saleFact9 σ K B R C w))) (setC σ h) := by
  refine XMet.of hl rfl rfl (Nat.le_of_ble_eq_true rfl) (fun Y O hh hQ => ?_)
  show SW Y 0 0 (setC σ h) 0 [.ref 1000, .int 9] []
  refine sw_iload_n O (xx_dt dd_X7_saleFact 0 rfl) rfl ?_
  refine sw_tableIn (off := 150) (tgt := 151) O (xx_dt dd_X7_saleFact 1 rfl) (by decide) (by decide) rfl (by decide) ?_
  refine sw_aload_n O (xx_dt dd_X7_saleFact 39 rfl) rfl ?_
  refine sw_get (v := .ref 1003) O (xx_dt dd_X7_saleFact 40 rfl) cl_X7 fl_X7_29 (ly_1000 σ h) (by decide) rfl ?_
  refine sw_callVx (as := []) (st := []) (st2 := [.int (f_winners σ)]) O (ct_X2_winners hl (σ := σ)) ce_X2_winners ml_X7_197 iv_X2_winners cl_X2 rfl (ly_1003 σ h) (xx_dt dd_X7_saleFact 41 rfl) (by decide) rfl rfl (Nat.le_of_ble_eq_true rfl) rfl ?_
  exact sw_iret O (xx_dt dd_X7_saleFact 42 rfl) rfl rfl (by rw [hQ]; exact ⟨by unfold f_saleFact9; rfl, rfl⟩)
def f_saleFact10 (σ : XS9) (K B R C w : Nat) : Int32 := σ 1041 63
theorem ct_X7_saleFact_10 {l : Launch} {h : XH} (hl : l.stackTraces = false) {σ : XS9} {K : Nat} (hK : σ 2000 9 = nI K) (hK60 : K ≤ 60) {B : Nat} (hB : σ 1001 9 = nI B) (hB6 : B ≤ 6) {R : Nat} (hR : σ 1001 4 = nI R) (hR5 : R ≤ 5) {C : Nat} (hC : σ 1006 1 = nI C) (hC10 : C ≤ 10) {w : Nat} (hw : σ 1000 9 = nI w) (hw3 : w < 3)  : XEx l m_X7_saleFact 4 0 0 [.ref 1000, .int 10] (setC σ h) (some (.int (f_saleFact10 σ K B R C w))) (setC σ h) := by
  refine XMet.of hl rfl rfl (Nat.le_of_ble_eq_true rfl) (fun Y O hh hQ => ?_)
  show SW Y 0 0 (setC σ h) 0 [.ref 1000, .int 10] []
  refine sw_iload_n O (xx_dt dd_X7_saleFact 0 rfl) rfl ?_
  refine sw_tableIn (off := 158) (tgt := 159) O (xx_dt dd_X7_saleFact 1 rfl) (by decide) (by decide) rfl (by decide) ?_
  refine sw_aload_n O (xx_dt dd_X7_saleFact 43 rfl) rfl ?_
  refine sw_get (v := .ref 1003) O (xx_dt dd_X7_saleFact 44 rfl) cl_X7 fl_X7_29 (ly_1000 σ h) (by decide) rfl ?_
  refine sw_get (v := .ref 1041) O (xx_dt dd_X7_saleFact 45 rfl) cl_X2 fl_X7_307 (ly_1003 σ h) (by decide) rfl ?_
  refine sw_bipush (x := 63) O (xx_dt dd_X7_saleFact 46 rfl) (by decide) ?_
  refine sw_iaload (v := .int (σ 1041 63)) O (xx_dt dd_X7_saleFact 47 rfl) (ly_1041 σ h) (by unfold vp_in; decide) rfl ?_
  exact sw_iret O (xx_dt dd_X7_saleFact 48 rfl) rfl rfl (by rw [hQ]; exact ⟨by unfold f_saleFact10; rfl, rfl⟩)
def f_saleFact11 (σ : XS9) (K B R C w : Nat) : Int32 := f_allDue σ w B
theorem ct_X7_saleFact_11 {l : Launch} {h : XH} (hl : l.stackTraces = false) {σ : XS9} {K : Nat} (hK : σ 2000 9 = nI K) (hK60 : K ≤ 60) {B : Nat} (hB : σ 1001 9 = nI B) (hB6 : B ≤ 6) {R : Nat} (hR : σ 1001 4 = nI R) (hR5 : R ≤ 5) {C : Nat} (hC : σ 1006 1 = nI C) (hC10 : C ≤ 10) {w : Nat} (hw : σ 1000 9 = nI w) (hw3 : w < 3)  : XEx l m_X7_saleFact 4 0 0 [.ref 1000, .int 11] (setC σ h) (some (.int (f_saleFact11 σ K B R C w))) (setC σ h) := by
  refine XMet.of hl rfl rfl (Nat.le_of_ble_eq_true rfl) (fun Y O hh hQ => ?_)
  show SW Y 0 0 (setC σ h) 0 [.ref 1000, .int 11] []
  refine sw_iload_n O (xx_dt dd_X7_saleFact 0 rfl) rfl ?_
  refine sw_tableIn (off := 169) (tgt := 170) O (xx_dt dd_X7_saleFact 1 rfl) (by decide) (by decide) rfl (by decide) ?_
  refine sw_aload_n O (xx_dt dd_X7_saleFact 49 rfl) rfl ?_
  refine sw_callVx (as := []) (st := []) (st2 := [.int (f_allDue σ w B)]) O (ct_X7_allDue hl (σ := σ) (w := w) hw (by omega) (B := B) hB (by omega)) ce_X7_allDue ml_X7_427 iv_X7_allDue cl_X7 rfl (ly_1000 σ h) (xx_dt dd_X7_saleFact 50 rfl) (by decide) rfl rfl (Nat.le_of_ble_eq_true rfl) rfl ?_
  exact sw_iret O (xx_dt dd_X7_saleFact 51 rfl) rfl rfl (by rw [hQ]; exact ⟨by unfold f_saleFact11; rfl, rfl⟩)
def f_saleFact12 (σ : XS9) (K B R C w : Nat) : Int32 := σ 1000 10
theorem ct_X7_saleFact_12 {l : Launch} {h : XH} (hl : l.stackTraces = false) {σ : XS9} {K : Nat} (hK : σ 2000 9 = nI K) (hK60 : K ≤ 60) {B : Nat} (hB : σ 1001 9 = nI B) (hB6 : B ≤ 6) {R : Nat} (hR : σ 1001 4 = nI R) (hR5 : R ≤ 5) {C : Nat} (hC : σ 1006 1 = nI C) (hC10 : C ≤ 10) {w : Nat} (hw : σ 1000 9 = nI w) (hw3 : w < 3)  : XEx l m_X7_saleFact 4 0 0 [.ref 1000, .int 12] (setC σ h) (some (.int (f_saleFact12 σ K B R C w))) (setC σ h) := by
  refine XMet.of hl rfl rfl (Nat.le_of_ble_eq_true rfl) (fun Y O hh hQ => ?_)
  show SW Y 0 0 (setC σ h) 0 [.ref 1000, .int 12] []
  refine sw_iload_n O (xx_dt dd_X7_saleFact 0 rfl) rfl ?_
  refine sw_tableIn (off := 174) (tgt := 175) O (xx_dt dd_X7_saleFact 1 rfl) (by decide) (by decide) rfl (by decide) ?_
  refine sw_aload_n O (xx_dt dd_X7_saleFact 52 rfl) rfl ?_
  refine sw_get (v := .int (σ 1000 10)) O (xx_dt dd_X7_saleFact 53 rfl) cl_X7 fl_X7_209 (ly_1000 σ h) (by decide) rfl ?_
  exact sw_iret O (xx_dt dd_X7_saleFact 54 rfl) rfl rfl (by rw [hQ]; exact ⟨by unfold f_saleFact12; rfl, rfl⟩)
def f_saleFact13 (σ : XS9) (K B R C w : Nat) : Int32 := σ 1005 1
theorem ct_X7_saleFact_13 {l : Launch} {h : XH} (hl : l.stackTraces = false) {σ : XS9} {K : Nat} (hK : σ 2000 9 = nI K) (hK60 : K ≤ 60) {B : Nat} (hB : σ 1001 9 = nI B) (hB6 : B ≤ 6) {R : Nat} (hR : σ 1001 4 = nI R) (hR5 : R ≤ 5) {C : Nat} (hC : σ 1006 1 = nI C) (hC10 : C ≤ 10) {w : Nat} (hw : σ 1000 9 = nI w) (hw3 : w < 3)  : XEx l m_X7_saleFact 4 0 0 [.ref 1000, .int 13] (setC σ h) (some (.int (f_saleFact13 σ K B R C w))) (setC σ h) := by
  refine XMet.of hl rfl rfl (Nat.le_of_ble_eq_true rfl) (fun Y O hh hQ => ?_)
  show SW Y 0 0 (setC σ h) 0 [.ref 1000, .int 13] []
  refine sw_iload_n O (xx_dt dd_X7_saleFact 0 rfl) rfl ?_
  refine sw_tableIn (off := 179) (tgt := 180) O (xx_dt dd_X7_saleFact 1 rfl) (by decide) (by decide) rfl (by decide) ?_
  refine sw_aload_n O (xx_dt dd_X7_saleFact 55 rfl) rfl ?_
  refine sw_get (v := .ref 1005) O (xx_dt dd_X7_saleFact 56 rfl) cl_X7 fl_X7_43 (ly_1000 σ h) (by decide) rfl ?_
  refine sw_get (v := .int (σ 1005 1)) O (xx_dt dd_X7_saleFact 57 rfl) cl_X3 fl_X7_430 (ly_1005 σ h) (by decide) rfl ?_
  exact sw_iret O (xx_dt dd_X7_saleFact 58 rfl) rfl rfl (by rw [hQ]; exact ⟨by unfold f_saleFact13; rfl, rfl⟩)
def f_saleFact15 (σ : XS9) (K B R C w : Nat) : Int32 := nI K
theorem ct_X7_saleFact_15 {l : Launch} {h : XH} (hl : l.stackTraces = false) {σ : XS9} {K : Nat} (hK : σ 2000 9 = nI K) (hK60 : K ≤ 60) {B : Nat} (hB : σ 1001 9 = nI B) (hB6 : B ≤ 6) {R : Nat} (hR : σ 1001 4 = nI R) (hR5 : R ≤ 5) {C : Nat} (hC : σ 1006 1 = nI C) (hC10 : C ≤ 10) {w : Nat} (hw : σ 1000 9 = nI w) (hw3 : w < 3)  : XEx l m_X7_saleFact 4 0 0 [.ref 1000, .int 15] (setC σ h) (some (.int (f_saleFact15 σ K B R C w))) (setC σ h) := by
  refine XMet.of hl rfl rfl (Nat.le_of_ble_eq_true rfl) (fun Y O hh hQ => ?_)
  show SW Y 0 0 (setC σ h) 0 [.ref 1000, .int 15] []
  refine sw_iload_n O (xx_dt dd_X7_saleFact 0 rfl) rfl ?_
  refine sw_tableIn (off := 199) (tgt := 200) O (xx_dt dd_X7_saleFact 1 rfl) (by decide) (by decide) rfl (by decide) ?_
  refine sw_aload_n O (xx_dt dd_X7_saleFact 65 rfl) rfl ?_
  refine sw_get (v := .ref 2000) O (xx_dt dd_X7_saleFact 66 rfl) cl_X7 fl_X7_19 (ly_1000 σ h) (by decide) rfl ?_
  refine sw_get (v := .int (nI K)) O (xx_dt dd_X7_saleFact 67 rfl) cl_X1 fl_X7_379 (lk_0 σ h (.inl rfl)) (by decide) (congrArg Value.int hK) ?_
  exact sw_iret O (xx_dt dd_X7_saleFact 68 rfl) rfl rfl (by rw [hQ]; exact ⟨by unfold f_saleFact15; rfl, rfl⟩)
def f_saleFact16 (σ : XS9) (K B R C w : Nat) : Int32 := σ 1000 11
theorem ct_X7_saleFact_16 {l : Launch} {h : XH} (hl : l.stackTraces = false) {σ : XS9} {K : Nat} (hK : σ 2000 9 = nI K) (hK60 : K ≤ 60) {B : Nat} (hB : σ 1001 9 = nI B) (hB6 : B ≤ 6) {R : Nat} (hR : σ 1001 4 = nI R) (hR5 : R ≤ 5) {C : Nat} (hC : σ 1006 1 = nI C) (hC10 : C ≤ 10) {w : Nat} (hw : σ 1000 9 = nI w) (hw3 : w < 3)  : XEx l m_X7_saleFact 4 0 0 [.ref 1000, .int 16] (setC σ h) (some (.int (f_saleFact16 σ K B R C w))) (setC σ h) := by
  refine XMet.of hl rfl rfl (Nat.le_of_ble_eq_true rfl) (fun Y O hh hQ => ?_)
  show SW Y 0 0 (setC σ h) 0 [.ref 1000, .int 16] []
  refine sw_iload_n O (xx_dt dd_X7_saleFact 0 rfl) rfl ?_
  refine sw_tableOut (tgt := 208) O (xx_dt dd_X7_saleFact 1 rfl) (by decide) (by decide) ?_
  refine sw_aload_n O (xx_dt dd_X7_saleFact 69 rfl) rfl ?_
  refine sw_get (v := .int (σ 1000 11)) O (xx_dt dd_X7_saleFact 70 rfl) cl_X7 fl_X7_333 (ly_1000 σ h) (by decide) rfl ?_
  exact sw_iret O (xx_dt dd_X7_saleFact 71 rfl) rfl rfl (by rw [hQ]; exact ⟨by unfold f_saleFact16; rfl, rfl⟩)
