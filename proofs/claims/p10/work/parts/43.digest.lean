/-! ===== the class's digest ===== -/
def f_mixed (a v : Int64) : Int64 := (a * 31) + v
theorem ct_X7_mixed {l : Launch} {h : XH} (hl : l.stackTraces = false) {a v : Int64} : XEx l m_X7_mixed 0 0 0 [.long a, .long v] (h) (some (.long (f_mixed a v))) (h) := by
  refine XMet.of hl rfl rfl (Nat.le_of_ble_eq_true rfl) (fun Y O hh hQ => ?_)
  show SW Y 0 0 (h) 0 [.long a, xx_d, .long v, xx_d] []
  refine sw_lload_n O (xx_dt dd_X7_mixed 0 rfl) rfl ?_
  refine sw_ldc2 O ct_X7_445 (xx_dt dd_X7_mixed 1 rfl) ?_
  refine sw_lmul O (xx_dt dd_X7_mixed 2 rfl) ?_
  refine sw_lload_n O (xx_dt dd_X7_mixed 3 rfl) rfl ?_
  refine sw_ladd O (xx_dt dd_X7_mixed 4 rfl) ?_
  exact sw_lret O (xx_dt dd_X7_mixed 5 rfl) rfl (by rw [hQ]; exact ⟨by unfold f_mixed; rfl, rfl⟩)
def x_withBidder_6 (σ : XS9) (a : Int64) (i w : Nat) (cnt : Nat → Nat) (s0 : Int64) : Int64 := xit (fun i6 s6 => f_mixed s6 (Int32.toInt64 (f_bidderFact σ i i6))) 11 0 s0
def x_withBidder_118 (σ : XS9) (a : Int64) (i w : Nat) (cnt : Nat → Nat) (s0 : Int64) : Int64 := xit (fun i118 s118 => f_mixed (f_mixed s118 (Int32.toInt64 (σ (1031 + i) i118))) (Int32.toInt64 (σ (1022 + i) i118))) (cnt i) 0 s0
def f_withBidder (σ : XS9) (a : Int64) (i w : Nat) (cnt : Nat → Nat) : Int64 := (x_withBidder_118 σ a i w cnt (f_mixed (f_mixed (f_mixed (f_mixed (f_mixed (x_withBidder_6 σ a i w cnt a) (Int32.toInt64 (σ 1040 i))) (Int32.toInt64 (f_paymentOf σ i w))) (Int32.toInt64 (f_dueOf σ i w))) (Int32.toInt64 (σ (1131 + 1) i))) (Int32.toInt64 (σ (1131 + 2) i))))
theorem ct_X7_withBidder {l : Launch} {h : XH} (hl : l.stackTraces = false) {σ : XS9} {w : Nat} (hw : σ 1000 9 = nI w) (hw3 : w < 3) {cnt : Nat → Nat} (hct : ∀ i, i < 6 → σ 1020 i = nI (cnt i) ∧ cnt i ≤ 6) {a : Int64} {i : Nat} (hi : i < 6) : XEx l m_X7_withBidder 3 0 0 [.ref 1000, .long a, .int (nI i)] (setC σ h) (some (.long (f_withBidder σ a i w cnt))) (setC σ h) := by
  refine XMet.of hl rfl rfl (Nat.le_of_ble_eq_true rfl) (fun Y O hh hQ => ?_)
  show SW Y 0 0 (setC σ h) 0 [.ref 1000, .long a, xx_d, .int (nI i), xx_d, xx_d, xx_d] []
  refine sw_lload_n O (xx_dt dd_X7_withBidder 0 rfl) rfl ?_
  refine sw_lstore (ls2 := [.ref 1000, .long a, xx_d, .int (nI i), .long a, xx_d, xx_d]) O (xx_dt dd_X7_withBidder 1 rfl) (by decide) rfl ?_
  refine sw_iconst (x := 0) O (xx_dt dd_X7_withBidder 2 rfl) (by decide) ?_
  refine sw_istore (ls2 := [.ref 1000, .long a, xx_d, .int (nI i), .long a, xx_d, .int 0]) O (xx_dt dd_X7_withBidder 3 rfl) (by decide) rfl ?_
  refine sw_for (fun i6 s6 => f_mixed s6 (Int32.toInt64 (f_bidderFact σ i i6))) (fun _ _ => True) (hp := fun _ => setC σ h) (hd := 6) (lc := fun i6 s6 => [.ref 1000, .long a, xx_d, .int (nI i), .long s6, xx_d, .int (nI i6)]) (N := 11) (fun i6 s6 hi6 hP6 => ⟨trivial, fun kk6 => ?_⟩) 11 0 a (by omega) (trivial) (fun hP6 => ?_)
  · refine sw_iload O (xx_dt dd_X7_withBidder 4 rfl) rfl ?_
    refine sw_bipush (x := 11) O (xx_dt dd_X7_withBidder 5 rfl) (by decide) ?_
    refine sw_icmp_ge (tgt := 34) O (xx_dt dd_X7_withBidder 6 rfl) (by decide) (fun q1 => ?_) (fun q1 => ?_)
    · exact absurd q1 (nI_ge (b := 11) hi6 (by omega))
    · refine sw_lload O (xx_dt dd_X7_withBidder 7 rfl) rfl ?_
      refine sw_aload_n O (xx_dt dd_X7_withBidder 8 rfl) rfl ?_
      refine sw_iload_n O (xx_dt dd_X7_withBidder 9 rfl) rfl ?_
      refine sw_iload O (xx_dt dd_X7_withBidder 10 rfl) rfl ?_
      refine sw_callVx (as := [.int (nI i), .int (nI i6)]) (st := [.long s6]) (st2 := [.int (f_bidderFact σ i i6), .long s6]) O (ct_X7_bidderFact hl (σ := σ) (i := i) (by omega) (v := i6) (by omega)) ce_X7_bidderFact ml_X7_246 iv_X7_bidderFact cl_X7 rfl (ly_1000 σ h) (xx_dt dd_X7_withBidder 11 rfl) (by first | decide | omega) rfl rfl (Nat.le_of_ble_eq_true rfl) rfl ?_
      refine sw_i2l O (xx_dt dd_X7_withBidder 12 rfl) ?_
      refine sw_callSx (as := [.long s6, .long (Int32.toInt64 (f_bidderFact σ i i6))]) (st := []) (st2 := [.long (f_mixed s6 (Int32.toInt64 (f_bidderFact σ i i6)))]) O (ct_X7_mixed hl (a := s6) (v := Int32.toInt64 (f_bidderFact σ i i6))) ce_X7_mixed ml_X7_348 st_X7_mixed (xx_dt dd_X7_withBidder 13 rfl) (by first | decide | omega) rfl rfl (Nat.le_of_ble_eq_true rfl) rfl ?_
      refine sw_lstore (ls2 := [.ref 1000, .long a, xx_d, .int (nI i), .long (f_mixed s6 (Int32.toInt64 (f_bidderFact σ i i6))), xx_d, .int (nI i6)]) O (xx_dt dd_X7_withBidder 14 rfl) (by decide) rfl ?_
      refine sw_iinc (y := nI (i6 + 1)) (ls2 := [.ref 1000, .long a, xx_d, .int (nI i), .long (f_mixed s6 (Int32.toInt64 (f_bidderFact σ i i6))), xx_d, .int (nI (i6 + 1))]) O (xx_dt dd_X7_withBidder 15 rfl) rfl (nI_1 _) (by decide) rfl ?_
      refine sw_goto (tgt := 6) O (xx_dt dd_X7_withBidder 16 rfl) (by decide) ?_
      exact kk6
  · show SW Y _ _ (setC σ h) 6 [.ref 1000, .long a, xx_d, .int (nI i), .long (x_withBidder_6 σ a i w cnt a), xx_d, .int (nI 11)] []
    refine sw_iload O (xx_dt dd_X7_withBidder 4 rfl) rfl ?_
    refine sw_bipush (x := 11) O (xx_dt dd_X7_withBidder 5 rfl) (by decide) ?_
    refine sw_icmp_ge (tgt := 34) O (xx_dt dd_X7_withBidder 6 rfl) (by decide) (fun q1 => ?_) (fun q1 => ?_)
    · refine sw_lload O (xx_dt dd_X7_withBidder 17 rfl) rfl ?_
      refine sw_aload_n O (xx_dt dd_X7_withBidder 18 rfl) rfl ?_
      refine sw_get (v := .ref 1003) O (xx_dt dd_X7_withBidder 19 rfl) cl_X7 fl_X7_29 (ly_1000 σ h) (by decide) rfl ?_
      refine sw_get (v := .ref 1040) O (xx_dt dd_X7_withBidder 20 rfl) cl_X2 fl_X7_200 (ly_1003 σ h) (by decide) rfl ?_
      refine sw_iload_n O (xx_dt dd_X7_withBidder 21 rfl) rfl ?_
      refine sw_iaload (v := .int (σ 1040 i)) O (xx_dt dd_X7_withBidder 22 rfl) (ly_1040 σ h) (pk_in i _ (by omega)) (by rw [nI_clamp (by omega)]; try exact rfl) ?_
      refine sw_i2l O (xx_dt dd_X7_withBidder 23 rfl) ?_
      refine sw_callSx (as := [.long (x_withBidder_6 σ a i w cnt a), .long (Int32.toInt64 (σ 1040 i))]) (st := []) (st2 := [.long (f_mixed (x_withBidder_6 σ a i w cnt a) (Int32.toInt64 (σ 1040 i)))]) O (ct_X7_mixed hl (a := (x_withBidder_6 σ a i w cnt a)) (v := Int32.toInt64 (σ 1040 i))) ce_X7_mixed ml_X7_348 st_X7_mixed (xx_dt dd_X7_withBidder 24 rfl) (by first | decide | omega) rfl rfl (Nat.le_of_ble_eq_true rfl) rfl ?_
      refine sw_lstore (ls2 := [.ref 1000, .long a, xx_d, .int (nI i), .long (f_mixed (x_withBidder_6 σ a i w cnt a) (Int32.toInt64 (σ 1040 i))), xx_d, .int (nI 11)]) O (xx_dt dd_X7_withBidder 25 rfl) (by decide) rfl ?_
      refine sw_lload O (xx_dt dd_X7_withBidder 26 rfl) rfl ?_
      refine sw_aload_n O (xx_dt dd_X7_withBidder 27 rfl) rfl ?_
      refine sw_iload_n O (xx_dt dd_X7_withBidder 28 rfl) rfl ?_
      refine sw_callVx (as := [.int (nI i)]) (st := [.long (f_mixed (x_withBidder_6 σ a i w cnt a) (Int32.toInt64 (σ 1040 i)))]) (st2 := [.int (f_paymentOf σ i w), .long (f_mixed (x_withBidder_6 σ a i w cnt a) (Int32.toInt64 (σ 1040 i)))]) O (ct_X7_paymentOf hl (σ := σ) (w := w) hw (by omega) (i := i) (by omega)) ce_X7_paymentOf ml_X7_282 iv_X7_paymentOf cl_X7 rfl (ly_1000 σ h) (xx_dt dd_X7_withBidder 29 rfl) (by first | decide | omega) rfl rfl (Nat.le_of_ble_eq_true rfl) rfl ?_
      refine sw_i2l O (xx_dt dd_X7_withBidder 30 rfl) ?_
      refine sw_callSx (as := [.long (f_mixed (x_withBidder_6 σ a i w cnt a) (Int32.toInt64 (σ 1040 i))), .long (Int32.toInt64 (f_paymentOf σ i w))]) (st := []) (st2 := [.long (f_mixed (f_mixed (x_withBidder_6 σ a i w cnt a) (Int32.toInt64 (σ 1040 i))) (Int32.toInt64 (f_paymentOf σ i w)))]) O (ct_X7_mixed hl (a := f_mixed (x_withBidder_6 σ a i w cnt a) (Int32.toInt64 (σ 1040 i))) (v := Int32.toInt64 (f_paymentOf σ i w))) ce_X7_mixed ml_X7_348 st_X7_mixed (xx_dt dd_X7_withBidder 31 rfl) (by first | decide | omega) rfl rfl (Nat.le_of_ble_eq_true rfl) rfl ?_
      refine sw_lstore (ls2 := [.ref 1000, .long a, xx_d, .int (nI i), .long (f_mixed (f_mixed (x_withBidder_6 σ a i w cnt a) (Int32.toInt64 (σ 1040 i))) (Int32.toInt64 (f_paymentOf σ i w))), xx_d, .int (nI 11)]) O (xx_dt dd_X7_withBidder 32 rfl) (by decide) rfl ?_
      refine sw_lload O (xx_dt dd_X7_withBidder 33 rfl) rfl ?_
      refine sw_aload_n O (xx_dt dd_X7_withBidder 34 rfl) rfl ?_
      refine sw_iload_n O (xx_dt dd_X7_withBidder 35 rfl) rfl ?_
      refine sw_callVx (as := [.int (nI i)]) (st := [.long (f_mixed (f_mixed (x_withBidder_6 σ a i w cnt a) (Int32.toInt64 (σ 1040 i))) (Int32.toInt64 (f_paymentOf σ i w)))]) (st2 := [.int (f_dueOf σ i w), .long (f_mixed (f_mixed (x_withBidder_6 σ a i w cnt a) (Int32.toInt64 (σ 1040 i))) (Int32.toInt64 (f_paymentOf σ i w)))]) O (ct_X7_dueOf hl (σ := σ) (w := w) hw (by omega) (i := i) (by omega)) ce_X7_dueOf ml_X7_279 iv_X7_dueOf cl_X7 rfl (ly_1000 σ h) (xx_dt dd_X7_withBidder 36 rfl) (by first | decide | omega) rfl rfl (Nat.le_of_ble_eq_true rfl) rfl ?_
      refine sw_i2l O (xx_dt dd_X7_withBidder 37 rfl) ?_
      refine sw_callSx (as := [.long (f_mixed (f_mixed (x_withBidder_6 σ a i w cnt a) (Int32.toInt64 (σ 1040 i))) (Int32.toInt64 (f_paymentOf σ i w))), .long (Int32.toInt64 (f_dueOf σ i w))]) (st := []) (st2 := [.long (f_mixed (f_mixed (f_mixed (x_withBidder_6 σ a i w cnt a) (Int32.toInt64 (σ 1040 i))) (Int32.toInt64 (f_paymentOf σ i w))) (Int32.toInt64 (f_dueOf σ i w)))]) O (ct_X7_mixed hl (a := f_mixed (f_mixed (x_withBidder_6 σ a i w cnt a) (Int32.toInt64 (σ 1040 i))) (Int32.toInt64 (f_paymentOf σ i w))) (v := Int32.toInt64 (f_dueOf σ i w))) ce_X7_mixed ml_X7_348 st_X7_mixed (xx_dt dd_X7_withBidder 38 rfl) (by first | decide | omega) rfl rfl (Nat.le_of_ble_eq_true rfl) rfl ?_
      refine sw_lstore (ls2 := [.ref 1000, .long a, xx_d, .int (nI i), .long (f_mixed (f_mixed (f_mixed (x_withBidder_6 σ a i w cnt a) (Int32.toInt64 (σ 1040 i))) (Int32.toInt64 (f_paymentOf σ i w))) (Int32.toInt64 (f_dueOf σ i w))), xx_d, .int (nI 11)]) O (xx_dt dd_X7_withBidder 39 rfl) (by decide) rfl ?_
      refine sw_lload O (xx_dt dd_X7_withBidder 40 rfl) rfl ?_
      refine sw_aload_n O (xx_dt dd_X7_withBidder 41 rfl) rfl ?_
      refine sw_get (v := .ref 1004) O (xx_dt dd_X7_withBidder 42 rfl) cl_X7 fl_X7_36 (ly_1000 σ h) (by decide) rfl ?_
      refine sw_get (v := .ref 1130) O (xx_dt dd_X7_withBidder 43 rfl) cl_X4 fl_X7_310 (ly_1004 σ h) (by decide) rfl ?_
      refine sw_iconst (x := 1) O (xx_dt dd_X7_withBidder 44 rfl) (by decide) ?_
      refine sw_aaload (v := .ref (1131 + 1)) O (xx_dt dd_X7_withBidder 45 rfl) (by omega) (by omega) (ly_1130 σ h) (by unfold vp_in; decide) rfl ?_
      refine sw_iload_n O (xx_dt dd_X7_withBidder 46 rfl) rfl ?_
      refine sw_iaload (v := .int (σ (1131 + 1) i)) O (xx_dt dd_X7_withBidder 47 rfl) (lr_1130 σ h (k := 1) (by omega)) (pk_in i _ (by omega)) (by rw [nI_clamp (by omega)]; try exact rfl) ?_
      refine sw_i2l O (xx_dt dd_X7_withBidder 48 rfl) ?_
      refine sw_callSx (as := [.long (f_mixed (f_mixed (f_mixed (x_withBidder_6 σ a i w cnt a) (Int32.toInt64 (σ 1040 i))) (Int32.toInt64 (f_paymentOf σ i w))) (Int32.toInt64 (f_dueOf σ i w))), .long (Int32.toInt64 (σ (1131 + 1) i))]) (st := []) (st2 := [.long (f_mixed (f_mixed (f_mixed (f_mixed (x_withBidder_6 σ a i w cnt a) (Int32.toInt64 (σ 1040 i))) (Int32.toInt64 (f_paymentOf σ i w))) (Int32.toInt64 (f_dueOf σ i w))) (Int32.toInt64 (σ (1131 + 1) i)))]) O (ct_X7_mixed hl (a := f_mixed (f_mixed (f_mixed (x_withBidder_6 σ a i w cnt a) (Int32.toInt64 (σ 1040 i))) (Int32.toInt64 (f_paymentOf σ i w))) (Int32.toInt64 (f_dueOf σ i w))) (v := Int32.toInt64 (σ (1131 + 1) i))) ce_X7_mixed ml_X7_348 st_X7_mixed (xx_dt dd_X7_withBidder 49 rfl) (by first | decide | omega) rfl rfl (Nat.le_of_ble_eq_true rfl) rfl ?_
      refine sw_lstore (ls2 := [.ref 1000, .long a, xx_d, .int (nI i), .long (f_mixed (f_mixed (f_mixed (f_mixed (x_withBidder_6 σ a i w cnt a) (Int32.toInt64 (σ 1040 i))) (Int32.toInt64 (f_paymentOf σ i w))) (Int32.toInt64 (f_dueOf σ i w))) (Int32.toInt64 (σ (1131 + 1) i))), xx_d, .int (nI 11)]) O (xx_dt dd_X7_withBidder 50 rfl) (by decide) rfl ?_
      refine sw_lload O (xx_dt dd_X7_withBidder 51 rfl) rfl ?_
      refine sw_aload_n O (xx_dt dd_X7_withBidder 52 rfl) rfl ?_
      refine sw_get (v := .ref 1004) O (xx_dt dd_X7_withBidder 53 rfl) cl_X7 fl_X7_36 (ly_1000 σ h) (by decide) rfl ?_
      refine sw_get (v := .ref 1130) O (xx_dt dd_X7_withBidder 54 rfl) cl_X4 fl_X7_310 (ly_1004 σ h) (by decide) rfl ?_
      refine sw_iconst (x := 2) O (xx_dt dd_X7_withBidder 55 rfl) (by decide) ?_
      refine sw_aaload (v := .ref (1131 + 2)) O (xx_dt dd_X7_withBidder 56 rfl) (by omega) (by omega) (ly_1130 σ h) (by unfold vp_in; decide) rfl ?_
      refine sw_iload_n O (xx_dt dd_X7_withBidder 57 rfl) rfl ?_
      refine sw_iaload (v := .int (σ (1131 + 2) i)) O (xx_dt dd_X7_withBidder 58 rfl) (lr_1130 σ h (k := 2) (by omega)) (pk_in i _ (by omega)) (by rw [nI_clamp (by omega)]; try exact rfl) ?_
      refine sw_i2l O (xx_dt dd_X7_withBidder 59 rfl) ?_
      refine sw_callSx (as := [.long (f_mixed (f_mixed (f_mixed (f_mixed (x_withBidder_6 σ a i w cnt a) (Int32.toInt64 (σ 1040 i))) (Int32.toInt64 (f_paymentOf σ i w))) (Int32.toInt64 (f_dueOf σ i w))) (Int32.toInt64 (σ (1131 + 1) i))), .long (Int32.toInt64 (σ (1131 + 2) i))]) (st := []) (st2 := [.long (f_mixed (f_mixed (f_mixed (f_mixed (f_mixed (x_withBidder_6 σ a i w cnt a) (Int32.toInt64 (σ 1040 i))) (Int32.toInt64 (f_paymentOf σ i w))) (Int32.toInt64 (f_dueOf σ i w))) (Int32.toInt64 (σ (1131 + 1) i))) (Int32.toInt64 (σ (1131 + 2) i)))]) O (ct_X7_mixed hl (a := f_mixed (f_mixed (f_mixed (f_mixed (x_withBidder_6 σ a i w cnt a) (Int32.toInt64 (σ 1040 i))) (Int32.toInt64 (f_paymentOf σ i w))) (Int32.toInt64 (f_dueOf σ i w))) (Int32.toInt64 (σ (1131 + 1) i))) (v := Int32.toInt64 (σ (1131 + 2) i))) ce_X7_mixed ml_X7_348 st_X7_mixed (xx_dt dd_X7_withBidder 60 rfl) (by first | decide | omega) rfl rfl (Nat.le_of_ble_eq_true rfl) rfl ?_
      refine sw_lstore (ls2 := [.ref 1000, .long a, xx_d, .int (nI i), .long (f_mixed (f_mixed (f_mixed (f_mixed (f_mixed (x_withBidder_6 σ a i w cnt a) (Int32.toInt64 (σ 1040 i))) (Int32.toInt64 (f_paymentOf σ i w))) (Int32.toInt64 (f_dueOf σ i w))) (Int32.toInt64 (σ (1131 + 1) i))) (Int32.toInt64 (σ (1131 + 2) i))), xx_d, .int (nI 11)]) O (xx_dt dd_X7_withBidder 61 rfl) (by decide) rfl ?_
      refine sw_iconst (x := 0) O (xx_dt dd_X7_withBidder 62 rfl) (by decide) ?_
      refine sw_istore (ls2 := [.ref 1000, .long a, xx_d, .int (nI i), .long (f_mixed (f_mixed (f_mixed (f_mixed (f_mixed (x_withBidder_6 σ a i w cnt a) (Int32.toInt64 (σ 1040 i))) (Int32.toInt64 (f_paymentOf σ i w))) (Int32.toInt64 (f_dueOf σ i w))) (Int32.toInt64 (σ (1131 + 1) i))) (Int32.toInt64 (σ (1131 + 2) i))), xx_d, .int 0]) O (xx_dt dd_X7_withBidder 63 rfl) (by decide) rfl ?_
      refine sw_for (fun i118 s118 => f_mixed (f_mixed s118 (Int32.toInt64 (σ (1031 + i) i118))) (Int32.toInt64 (σ (1022 + i) i118))) (fun _ _ => True) (hp := fun _ => setC σ h) (hd := 118) (lc := fun i118 s118 => [.ref 1000, .long a, xx_d, .int (nI i), .long s118, xx_d, .int (nI i118)]) (N := (cnt i)) (fun i118 s118 hi118 hP118 => ⟨trivial, fun kk118 => ?_⟩) (cnt i) 0 (f_mixed (f_mixed (f_mixed (f_mixed (f_mixed (x_withBidder_6 σ a i w cnt a) (Int32.toInt64 (σ 1040 i))) (Int32.toInt64 (f_paymentOf σ i w))) (Int32.toInt64 (f_dueOf σ i w))) (Int32.toInt64 (σ (1131 + 1) i))) (Int32.toInt64 (σ (1131 + 2) i))) (by omega) (trivial) (fun hP118 => ?_)
      · refine sw_iload O (xx_dt dd_X7_withBidder 64 rfl) rfl ?_
        refine sw_aload_n O (xx_dt dd_X7_withBidder 65 rfl) rfl ?_
        refine sw_get (v := .ref 1003) O (xx_dt dd_X7_withBidder 66 rfl) cl_X7 fl_X7_29 (ly_1000 σ h) (by decide) rfl ?_
        refine sw_get (v := .ref 1020) O (xx_dt dd_X7_withBidder 67 rfl) cl_X2 fl_X7_173 (ly_1003 σ h) (by decide) rfl ?_
        refine sw_iload_n O (xx_dt dd_X7_withBidder 68 rfl) rfl ?_
        have hz128 := (hct i (by omega)).2
        refine sw_iaload (v := .int (nI (cnt i))) O (xx_dt dd_X7_withBidder 69 rfl) (ly_1020 σ h) (pk_in i _ (by omega)) (by rw [nI_clamp (by omega)]; exact (congrArg Value.int (hct i (by omega)).1)) ?_
        refine sw_icmp_ge (tgt := 178) O (xx_dt dd_X7_withBidder 70 rfl) (by decide) (fun q2 => ?_) (fun q2 => ?_)
        · exact absurd q2 (nI_ge (b := (cnt i)) hi118 (by omega))
        · refine sw_lload O (xx_dt dd_X7_withBidder 71 rfl) rfl ?_
          refine sw_aload_n O (xx_dt dd_X7_withBidder 72 rfl) rfl ?_
          refine sw_get (v := .ref 1003) O (xx_dt dd_X7_withBidder 73 rfl) cl_X7 fl_X7_29 (ly_1000 σ h) (by decide) rfl ?_
          refine sw_get (v := .ref 1030) O (xx_dt dd_X7_withBidder 74 rfl) cl_X2 fl_X7_273 (ly_1003 σ h) (by decide) rfl ?_
          refine sw_iload_n O (xx_dt dd_X7_withBidder 75 rfl) rfl ?_
          refine sw_aaload (v := .ref (1031 + i)) O (xx_dt dd_X7_withBidder 76 rfl) (by omega) (by omega) (ly_1030 σ h) (pk_in i _ (by omega)) (by rw [nI_clamp (by omega)]; try exact rfl) ?_
          refine sw_iload O (xx_dt dd_X7_withBidder 77 rfl) rfl ?_
          refine sw_iaload (v := .int (σ (1031 + i) i118)) O (xx_dt dd_X7_withBidder 78 rfl) (lr_1030 σ h (k := i) (by omega)) (pk_in i118 _ (by omega)) (by rw [nI_clamp (by omega)]; try exact rfl) ?_
          refine sw_i2l O (xx_dt dd_X7_withBidder 79 rfl) ?_
          refine sw_callSx (as := [.long s118, .long (Int32.toInt64 (σ (1031 + i) i118))]) (st := []) (st2 := [.long (f_mixed s118 (Int32.toInt64 (σ (1031 + i) i118)))]) O (ct_X7_mixed hl (a := s118) (v := Int32.toInt64 (σ (1031 + i) i118))) ce_X7_mixed ml_X7_348 st_X7_mixed (xx_dt dd_X7_withBidder 80 rfl) (by first | decide | omega) rfl rfl (Nat.le_of_ble_eq_true rfl) rfl ?_
          refine sw_lstore (ls2 := [.ref 1000, .long a, xx_d, .int (nI i), .long (f_mixed s118 (Int32.toInt64 (σ (1031 + i) i118))), xx_d, .int (nI i118)]) O (xx_dt dd_X7_withBidder 81 rfl) (by decide) rfl ?_
          refine sw_lload O (xx_dt dd_X7_withBidder 82 rfl) rfl ?_
          refine sw_aload_n O (xx_dt dd_X7_withBidder 83 rfl) rfl ?_
          refine sw_get (v := .ref 1003) O (xx_dt dd_X7_withBidder 84 rfl) cl_X7 fl_X7_29 (ly_1000 σ h) (by decide) rfl ?_
          refine sw_get (v := .ref 1021) O (xx_dt dd_X7_withBidder 85 rfl) cl_X2 fl_X7_276 (ly_1003 σ h) (by decide) rfl ?_
          refine sw_iload_n O (xx_dt dd_X7_withBidder 86 rfl) rfl ?_
          refine sw_aaload (v := .ref (1022 + i)) O (xx_dt dd_X7_withBidder 87 rfl) (by omega) (by omega) (ly_1021 σ h) (pk_in i _ (by omega)) (by rw [nI_clamp (by omega)]; try exact rfl) ?_
          refine sw_iload O (xx_dt dd_X7_withBidder 88 rfl) rfl ?_
          refine sw_iaload (v := .int (σ (1022 + i) i118)) O (xx_dt dd_X7_withBidder 89 rfl) (lr_1021 σ h (k := i) (by omega)) (pk_in i118 _ (by omega)) (by rw [nI_clamp (by omega)]; try exact rfl) ?_
          refine sw_i2l O (xx_dt dd_X7_withBidder 90 rfl) ?_
          refine sw_callSx (as := [.long (f_mixed s118 (Int32.toInt64 (σ (1031 + i) i118))), .long (Int32.toInt64 (σ (1022 + i) i118))]) (st := []) (st2 := [.long (f_mixed (f_mixed s118 (Int32.toInt64 (σ (1031 + i) i118))) (Int32.toInt64 (σ (1022 + i) i118)))]) O (ct_X7_mixed hl (a := f_mixed s118 (Int32.toInt64 (σ (1031 + i) i118))) (v := Int32.toInt64 (σ (1022 + i) i118))) ce_X7_mixed ml_X7_348 st_X7_mixed (xx_dt dd_X7_withBidder 91 rfl) (by first | decide | omega) rfl rfl (Nat.le_of_ble_eq_true rfl) rfl ?_
          refine sw_lstore (ls2 := [.ref 1000, .long a, xx_d, .int (nI i), .long (f_mixed (f_mixed s118 (Int32.toInt64 (σ (1031 + i) i118))) (Int32.toInt64 (σ (1022 + i) i118))), xx_d, .int (nI i118)]) O (xx_dt dd_X7_withBidder 92 rfl) (by decide) rfl ?_
          refine sw_iinc (y := nI (i118 + 1)) (ls2 := [.ref 1000, .long a, xx_d, .int (nI i), .long (f_mixed (f_mixed s118 (Int32.toInt64 (σ (1031 + i) i118))) (Int32.toInt64 (σ (1022 + i) i118))), xx_d, .int (nI (i118 + 1))]) O (xx_dt dd_X7_withBidder 93 rfl) rfl (nI_1 _) (by decide) rfl ?_
          refine sw_goto (tgt := 118) O (xx_dt dd_X7_withBidder 94 rfl) (by decide) ?_
          exact kk118
      · show SW Y _ _ (setC σ h) 118 [.ref 1000, .long a, xx_d, .int (nI i), .long (x_withBidder_118 σ a i w cnt (f_mixed (f_mixed (f_mixed (f_mixed (f_mixed (x_withBidder_6 σ a i w cnt a) (Int32.toInt64 (σ 1040 i))) (Int32.toInt64 (f_paymentOf σ i w))) (Int32.toInt64 (f_dueOf σ i w))) (Int32.toInt64 (σ (1131 + 1) i))) (Int32.toInt64 (σ (1131 + 2) i)))), xx_d, .int (nI ((cnt i)))] []
        refine sw_iload O (xx_dt dd_X7_withBidder 64 rfl) rfl ?_
        refine sw_aload_n O (xx_dt dd_X7_withBidder 65 rfl) rfl ?_
        refine sw_get (v := .ref 1003) O (xx_dt dd_X7_withBidder 66 rfl) cl_X7 fl_X7_29 (ly_1000 σ h) (by decide) rfl ?_
        refine sw_get (v := .ref 1020) O (xx_dt dd_X7_withBidder 67 rfl) cl_X2 fl_X7_173 (ly_1003 σ h) (by decide) rfl ?_
        refine sw_iload_n O (xx_dt dd_X7_withBidder 68 rfl) rfl ?_
        have hz128 := (hct i (by omega)).2
        refine sw_iaload (v := .int (nI (cnt i))) O (xx_dt dd_X7_withBidder 69 rfl) (ly_1020 σ h) (pk_in i _ (by omega)) (by rw [nI_clamp (by omega)]; exact (congrArg Value.int (hct i (by omega)).1)) ?_
        refine sw_icmp_ge (tgt := 178) O (xx_dt dd_X7_withBidder 70 rfl) (by decide) (fun q2 => ?_) (fun q2 => ?_)
        · refine sw_lload O (xx_dt dd_X7_withBidder 95 rfl) rfl ?_
          exact sw_lret O (xx_dt dd_X7_withBidder 96 rfl) rfl (by rw [hQ]; exact ⟨by unfold f_withBidder; rfl, rfl⟩)
        · exact absurd (Int32.le_refl _) q2
    · exact absurd (Int32.le_refl _) q1
def x_withLast1_28 (σ : XS9) (a : Int64) (R B K : Nat) (s0 : Int64) : Int64 := xit (fun i28 s28 => f_mixed s28 (Int32.toInt64 (σ (2000 + 101 + K) i28))) R 0 s0
def x_withLast1_69 (σ : XS9) (a : Int64) (R B K : Nat) (s0 : Int64) : Int64 := xit (fun i69 s69 => f_mixed s69 (Int32.toInt64 (σ (2000 + 201 + K) i69))) B 0 s0
def f_withLast1 (σ : XS9) (a : Int64) (R B K : Nat) : Int64 := (x_withLast1_69 σ a R B K (x_withLast1_28 σ a R B K a))
theorem ct_withLast1 {l : Launch} {h : XH} (hl : l.stackTraces = false) {σ : XS9} {R : Nat} (hR : σ 1001 4 = nI R) (hR5 : R ≤ 5) {B : Nat} (hB : σ 1001 9 = nI B) (hB6 : B ≤ 6) {K : Nat} (hK : σ 2000 9 = nI (K + 1)) (hK60 : K < 60) {a : Int64} : XEx l m_X7_withLastRound 1 0 0 [.ref 1000, .long a] (setC σ h) (some (.long (f_withLast1 σ a R B K))) (setC σ h) := by
  refine XMet.of hl rfl rfl (Nat.le_of_ble_eq_true rfl) (fun Y O hh hQ => ?_)
  show SW Y 0 0 (setC σ h) 0 [.ref 1000, .long a, xx_d, xx_d, xx_d, xx_d, xx_d] []
  refine sw_aload_n O (xx_dt dd_X7_withLastRound 0 rfl) rfl ?_
  refine sw_get (v := .ref 2000) O (xx_dt dd_X7_withLastRound 1 rfl) cl_X7 fl_X7_19 (ly_1000 σ h) (by decide) rfl ?_
  refine sw_get (v := .int (nI (K + 1))) O (xx_dt dd_X7_withLastRound 2 rfl) cl_X1 fl_X7_379 (lk_0 σ h (.inl rfl)) (by decide) (congrArg Value.int hK) ?_
  refine sw_if_ne (tgt := 12) O (xx_dt dd_X7_withLastRound 3 rfl) (by decide) (fun q1 => ?_) (fun q1 => ?_)
  · refine sw_aload_n O (xx_dt dd_X7_withLastRound 6 rfl) rfl ?_
    refine sw_get (v := .ref 2000) O (xx_dt dd_X7_withLastRound 7 rfl) cl_X7 fl_X7_19 (ly_1000 σ h) (by decide) rfl ?_
    refine sw_get (v := .int (nI (K + 1))) O (xx_dt dd_X7_withLastRound 8 rfl) cl_X1 fl_X7_379 (lk_0 σ h (.inl rfl)) (by decide) (congrArg Value.int hK) ?_
    refine sw_iconst (x := 1) O (xx_dt dd_X7_withLastRound 9 rfl) (by decide) ?_
    refine sw_isub O (xx_dt dd_X7_withLastRound 10 rfl) ?_
    rw [nI_s1 K]
    refine sw_istore_n (ls2 := [.ref 1000, .long a, xx_d, .int (nI K), xx_d, xx_d, xx_d]) O (xx_dt dd_X7_withLastRound 11 rfl) (by decide) rfl ?_
    refine sw_lload_n O (xx_dt dd_X7_withLastRound 12 rfl) rfl ?_
    refine sw_lstore (ls2 := [.ref 1000, .long a, xx_d, .int (nI K), .long a, xx_d, xx_d]) O (xx_dt dd_X7_withLastRound 13 rfl) (by decide) rfl ?_
    refine sw_iconst (x := 0) O (xx_dt dd_X7_withLastRound 14 rfl) (by decide) ?_
    refine sw_istore (ls2 := [.ref 1000, .long a, xx_d, .int (nI K), .long a, xx_d, .int 0]) O (xx_dt dd_X7_withLastRound 15 rfl) (by decide) rfl ?_
    refine sw_for (fun i28 s28 => f_mixed s28 (Int32.toInt64 (σ (2000 + 101 + K) i28))) (fun _ _ => True) (hp := fun _ => setC σ h) (hd := 28) (lc := fun i28 s28 => [.ref 1000, .long a, xx_d, .int (nI K), .long s28, xx_d, .int (nI i28)]) (N := R) (fun i28 s28 hi28 hP28 => ⟨trivial, fun kk28 => ?_⟩) R 0 a (by omega) (trivial) (fun hP28 => ?_)
    · refine sw_iload O (xx_dt dd_X7_withLastRound 16 rfl) rfl ?_
      refine sw_aload_n O (xx_dt dd_X7_withLastRound 17 rfl) rfl ?_
      refine sw_get (v := .ref 1001) O (xx_dt dd_X7_withLastRound 18 rfl) cl_X7 fl_X7_12 (ly_1000 σ h) (by decide) rfl ?_
      refine sw_get (v := .int (nI R)) O (xx_dt dd_X7_withLastRound 19 rfl) cl_X6 fl_X7_69 (ly_1001 σ h) (by decide) (congrArg Value.int hR) ?_
      refine sw_icmp_ge (tgt := 66) O (xx_dt dd_X7_withLastRound 20 rfl) (by decide) (fun q2 => ?_) (fun q2 => ?_)
      · exact absurd q2 (nI_ge (b := R) hi28 (by omega))
      · refine sw_lload O (xx_dt dd_X7_withLastRound 21 rfl) rfl ?_
        refine sw_aload_n O (xx_dt dd_X7_withLastRound 22 rfl) rfl ?_
        refine sw_get (v := .ref 2000) O (xx_dt dd_X7_withLastRound 23 rfl) cl_X7 fl_X7_19 (ly_1000 σ h) (by decide) rfl ?_
        refine sw_get (v := .ref (2000 + 100)) O (xx_dt dd_X7_withLastRound 24 rfl) cl_X1 fl_X7_258 (lk_0 σ h (.inl rfl)) (by decide) rfl ?_
        refine sw_iload_n O (xx_dt dd_X7_withLastRound 25 rfl) rfl ?_
        refine sw_aaload (v := .ref (2000 + 101 + K)) O (xx_dt dd_X7_withLastRound 26 rfl) (by omega) (by omega) (lk_100 σ h (.inl rfl)) (pk_in K _ (by omega)) (by rw [nI_clamp (by omega)]; try exact rfl) ?_
        refine sw_iload O (xx_dt dd_X7_withLastRound 27 rfl) rfl ?_
        refine sw_iaload (v := .int (σ (2000 + 101 + K) i28)) O (xx_dt dd_X7_withLastRound 28 rfl) (lkr_100 σ h (.inl rfl) (k := K) (by omega)) (pk_in i28 _ (by omega)) (by rw [nI_clamp (by omega)]; try exact rfl) ?_
        refine sw_i2l O (xx_dt dd_X7_withLastRound 29 rfl) ?_
        refine sw_callSx (as := [.long s28, .long (Int32.toInt64 (σ (2000 + 101 + K) i28))]) (st := []) (st2 := [.long (f_mixed s28 (Int32.toInt64 (σ (2000 + 101 + K) i28)))]) O (ct_X7_mixed hl (a := s28) (v := Int32.toInt64 (σ (2000 + 101 + K) i28))) ce_X7_mixed ml_X7_348 st_X7_mixed (xx_dt dd_X7_withLastRound 30 rfl) (by first | decide | omega) rfl rfl (Nat.le_of_ble_eq_true rfl) rfl ?_
        refine sw_lstore (ls2 := [.ref 1000, .long a, xx_d, .int (nI K), .long (f_mixed s28 (Int32.toInt64 (σ (2000 + 101 + K) i28))), xx_d, .int (nI i28)]) O (xx_dt dd_X7_withLastRound 31 rfl) (by decide) rfl ?_
        refine sw_iinc (y := nI (i28 + 1)) (ls2 := [.ref 1000, .long a, xx_d, .int (nI K), .long (f_mixed s28 (Int32.toInt64 (σ (2000 + 101 + K) i28))), xx_d, .int (nI (i28 + 1))]) O (xx_dt dd_X7_withLastRound 32 rfl) rfl (nI_1 _) (by decide) rfl ?_
        refine sw_goto (tgt := 28) O (xx_dt dd_X7_withLastRound 33 rfl) (by decide) ?_
        exact kk28
    · show SW Y _ _ (setC σ h) 28 [.ref 1000, .long a, xx_d, .int (nI K), .long (x_withLast1_28 σ a R B K a), xx_d, .int (nI R)] []
      refine sw_iload O (xx_dt dd_X7_withLastRound 16 rfl) rfl ?_
      refine sw_aload_n O (xx_dt dd_X7_withLastRound 17 rfl) rfl ?_
      refine sw_get (v := .ref 1001) O (xx_dt dd_X7_withLastRound 18 rfl) cl_X7 fl_X7_12 (ly_1000 σ h) (by decide) rfl ?_
      refine sw_get (v := .int (nI R)) O (xx_dt dd_X7_withLastRound 19 rfl) cl_X6 fl_X7_69 (ly_1001 σ h) (by decide) (congrArg Value.int hR) ?_
      refine sw_icmp_ge (tgt := 66) O (xx_dt dd_X7_withLastRound 20 rfl) (by decide) (fun q2 => ?_) (fun q2 => ?_)
      · refine sw_iconst (x := 0) O (xx_dt dd_X7_withLastRound 34 rfl) (by decide) ?_
        refine sw_istore (ls2 := [.ref 1000, .long a, xx_d, .int (nI K), .long (x_withLast1_28 σ a R B K a), xx_d, .int 0]) O (xx_dt dd_X7_withLastRound 35 rfl) (by decide) rfl ?_
        refine sw_for (fun i69 s69 => f_mixed s69 (Int32.toInt64 (σ (2000 + 201 + K) i69))) (fun _ _ => True) (hp := fun _ => setC σ h) (hd := 69) (lc := fun i69 s69 => [.ref 1000, .long a, xx_d, .int (nI K), .long s69, xx_d, .int (nI i69)]) (N := B) (fun i69 s69 hi69 hP69 => ⟨trivial, fun kk69 => ?_⟩) B 0 (x_withLast1_28 σ a R B K a) (by omega) (trivial) (fun hP69 => ?_)
        · refine sw_iload O (xx_dt dd_X7_withLastRound 36 rfl) rfl ?_
          refine sw_aload_n O (xx_dt dd_X7_withLastRound 37 rfl) rfl ?_
          refine sw_get (v := .ref 1001) O (xx_dt dd_X7_withLastRound 38 rfl) cl_X7 fl_X7_12 (ly_1000 σ h) (by decide) rfl ?_
          refine sw_get (v := .int (nI B)) O (xx_dt dd_X7_withLastRound 39 rfl) cl_X6 fl_X7_100 (ly_1001 σ h) (by decide) (congrArg Value.int hB) ?_
          refine sw_icmp_ge (tgt := 107) O (xx_dt dd_X7_withLastRound 40 rfl) (by decide) (fun q3 => ?_) (fun q3 => ?_)
          · exact absurd q3 (nI_ge (b := B) hi69 (by omega))
          · refine sw_lload O (xx_dt dd_X7_withLastRound 41 rfl) rfl ?_
            refine sw_aload_n O (xx_dt dd_X7_withLastRound 42 rfl) rfl ?_
            refine sw_get (v := .ref 2000) O (xx_dt dd_X7_withLastRound 43 rfl) cl_X7 fl_X7_19 (ly_1000 σ h) (by decide) rfl ?_
            refine sw_get (v := .ref (2000 + 200)) O (xx_dt dd_X7_withLastRound 44 rfl) cl_X1 fl_X7_265 (lk_0 σ h (.inl rfl)) (by decide) rfl ?_
            refine sw_iload_n O (xx_dt dd_X7_withLastRound 45 rfl) rfl ?_
            refine sw_aaload (v := .ref (2000 + 201 + K)) O (xx_dt dd_X7_withLastRound 46 rfl) (by omega) (by omega) (lk_200 σ h (.inl rfl)) (pk_in K _ (by omega)) (by rw [nI_clamp (by omega)]; try exact rfl) ?_
            refine sw_iload O (xx_dt dd_X7_withLastRound 47 rfl) rfl ?_
            refine sw_iaload (v := .int (σ (2000 + 201 + K) i69)) O (xx_dt dd_X7_withLastRound 48 rfl) (lkr_200 σ h (.inl rfl) (k := K) (by omega)) (pk_in i69 _ (by omega)) (by rw [nI_clamp (by omega)]; try exact rfl) ?_
            refine sw_i2l O (xx_dt dd_X7_withLastRound 49 rfl) ?_
            refine sw_callSx (as := [.long s69, .long (Int32.toInt64 (σ (2000 + 201 + K) i69))]) (st := []) (st2 := [.long (f_mixed s69 (Int32.toInt64 (σ (2000 + 201 + K) i69)))]) O (ct_X7_mixed hl (a := s69) (v := Int32.toInt64 (σ (2000 + 201 + K) i69))) ce_X7_mixed ml_X7_348 st_X7_mixed (xx_dt dd_X7_withLastRound 50 rfl) (by first | decide | omega) rfl rfl (Nat.le_of_ble_eq_true rfl) rfl ?_
            refine sw_lstore (ls2 := [.ref 1000, .long a, xx_d, .int (nI K), .long (f_mixed s69 (Int32.toInt64 (σ (2000 + 201 + K) i69))), xx_d, .int (nI i69)]) O (xx_dt dd_X7_withLastRound 51 rfl) (by decide) rfl ?_
            refine sw_iinc (y := nI (i69 + 1)) (ls2 := [.ref 1000, .long a, xx_d, .int (nI K), .long (f_mixed s69 (Int32.toInt64 (σ (2000 + 201 + K) i69))), xx_d, .int (nI (i69 + 1))]) O (xx_dt dd_X7_withLastRound 52 rfl) rfl (nI_1 _) (by decide) rfl ?_
            refine sw_goto (tgt := 69) O (xx_dt dd_X7_withLastRound 53 rfl) (by decide) ?_
            exact kk69
        · show SW Y _ _ (setC σ h) 69 [.ref 1000, .long a, xx_d, .int (nI K), .long (x_withLast1_69 σ a R B K (x_withLast1_28 σ a R B K a)), xx_d, .int (nI B)] []
          refine sw_iload O (xx_dt dd_X7_withLastRound 36 rfl) rfl ?_
          refine sw_aload_n O (xx_dt dd_X7_withLastRound 37 rfl) rfl ?_
          refine sw_get (v := .ref 1001) O (xx_dt dd_X7_withLastRound 38 rfl) cl_X7 fl_X7_12 (ly_1000 σ h) (by decide) rfl ?_
          refine sw_get (v := .int (nI B)) O (xx_dt dd_X7_withLastRound 39 rfl) cl_X6 fl_X7_100 (ly_1001 σ h) (by decide) (congrArg Value.int hB) ?_
          refine sw_icmp_ge (tgt := 107) O (xx_dt dd_X7_withLastRound 40 rfl) (by decide) (fun q3 => ?_) (fun q3 => ?_)
          · refine sw_lload O (xx_dt dd_X7_withLastRound 54 rfl) rfl ?_
            exact sw_lret O (xx_dt dd_X7_withLastRound 55 rfl) rfl (by rw [hQ]; exact ⟨by unfold f_withLast1; rfl, rfl⟩)
          · exact absurd (Int32.le_refl _) q3
      · exact absurd (Int32.le_refl _) q2
  · exact absurd q1 (fun e => absurd (congrArg cn e) (by rw [cn_nI (by omega)]; exact Nat.succ_ne_zero _))
def f_withLast0 (σ : XS9) (a : Int64) : Int64 := a
theorem ct_withLast0 {l : Launch} {h : XH} (hl : l.stackTraces = false) {σ : XS9} (hK : σ 2000 9 = 0) {a : Int64} : XEx l m_X7_withLastRound 1 0 0 [.ref 1000, .long a] (setC σ h) (some (.long (f_withLast0 σ a))) (setC σ h) := by
  refine XMet.of hl rfl rfl (Nat.le_of_ble_eq_true rfl) (fun Y O hh hQ => ?_)
  show SW Y 0 0 (setC σ h) 0 [.ref 1000, .long a, xx_d, xx_d, xx_d, xx_d, xx_d] []
  refine sw_aload_n O (xx_dt dd_X7_withLastRound 0 rfl) rfl ?_
  refine sw_get (v := .ref 2000) O (xx_dt dd_X7_withLastRound 1 rfl) cl_X7 fl_X7_19 (ly_1000 σ h) (by decide) rfl ?_
  refine sw_get (v := .int (nI 0)) O (xx_dt dd_X7_withLastRound 2 rfl) cl_X1 fl_X7_379 (lk_0 σ h (.inl rfl)) (by decide) (congrArg Value.int hK) ?_
  refine sw_if_ne (tgt := 12) O (xx_dt dd_X7_withLastRound 3 rfl) (by decide) (fun q1 => ?_) (fun q1 => ?_)
  · exact absurd q1 (fun e => e rfl)
  · refine sw_lload_n O (xx_dt dd_X7_withLastRound 4 rfl) rfl ?_
    exact sw_lret O (xx_dt dd_X7_withLastRound 5 rfl) rfl (by rw [hQ]; exact ⟨by unfold f_withLast0; rfl, rfl⟩)
def f_withLastRound (σ : XS9) (a : Int64) (R B K : Nat) : Int64 := match K with | 0 => f_withLast0 σ a | K + 1 => f_withLast1 σ a R B K
theorem ct_X7_withLastRound {l : Launch} {h : XH} (hl : l.stackTraces = false) {σ : XS9} {R : Nat} (hR : σ 1001 4 = nI R) (hR5 : R ≤ 5) {B : Nat} (hB : σ 1001 9 = nI B) (hB6 : B ≤ 6) {K : Nat} (hK : σ 2000 9 = nI K) (hK60 : K ≤ 60) {a : Int64} : XEx l m_X7_withLastRound 1 0 0 [.ref 1000, .long a] (setC σ h) (some (.long (f_withLastRound σ a R B K))) (setC σ h) := by
  cases K with
  | zero => exact ct_withLast0 hl hK
  | succ K => exact ct_withLast1 hl hR hR5 hB hB6 hK (by omega)
theorem dr_set {l : Launch} {σ : XS9} {h : XH} {c : Nat} {b : Int32} {G : Nat → Value} (hl : l.stackTraces = false) (hc : c ≤ 16) : XEx l m_J4_setLength_d00df 2 0 0 [.ref 4000, .int (nI 0)] (setC σ (hB h c b G)) none (setC σ (hB h 0 (if c = 0 then b else 1) G)) := by
  have t := sb_setLength hl (h := setC σ (hB h c b G)) hB_r hB_v (by omega) (by omega) (by omega) hc
  rw [hB_set] at t
  exact t
def x_withRegion_6 (σ : XS9) (a : Int64) (i C : Nat) (sp : Nat → Nat) (s0 : Int64) : Int64 := xit (fun i6 s6 => f_mixed s6 (Int32.toInt64 (f_regionFact σ C i i6))) 9 0 s0
def x_withRegion_70 (σ : XS9) (a : Int64) (i C : Nat) (sp : Nat → Nat) (s0 : Int64) : Int64 := xit (fun i70 s70 => f_mixed s70 (Int32.toInt64 (σ (1141 + i) i70))) (sp i) 0 s0
def f_withRegion (σ : XS9) (a : Int64) (i C : Nat) (sp : Nat → Nat) : Int64 := (x_withRegion_70 σ a i C sp (f_mixed (x_withRegion_6 σ a i C sp a) (Int32.toInt64 (nI (2 * sp i - 1)))))
theorem ct_X7_withRegion {l : Launch} {h : XH} (hl : l.stackTraces = false) {σ : XS9} {R : Nat} (hR : σ 1001 4 = nI R) (hR5 : R ≤ 5) {C : Nat} (hC : σ 1006 1 = nI C) (hC10 : C ≤ 10) {sp : Nat → Nat} (hsp : ∀ r, r < 5 → σ 1010 r = nI (sp r) ∧ sp r ≤ 5) (hho : ∀ r, r < R → ∀ k, k < sp r → σ (1141 + r) k = -1 ∨ ∃ x, x < 10 ∧ σ (1141 + r) k = nI x) (hdg : xx_dig h) {c : Nat} {b : Int32} {G : Nat → Value} (hc : c ≤ 16) {a : Int64} {i : Nat} (hi : i < R) : XEx l m_X7_withRegion 4 0 0 [.ref 1000, .long a, .int (nI i), .ref 4000] (setC σ (hB h c b G)) (some (.long (f_withRegion σ a i C sp))) (setC σ (hB h (2 * sp i - 1) (if c = 0 then b else 1) (gD (σ (1141 + i)) G (sp i)))) := by
  refine XMet.of hl rfl rfl (Nat.le_of_ble_eq_true rfl) (fun Y O hh hQ => ?_)
  show SW Y 0 0 (setC σ (hB h c b G)) 0 [.ref 1000, .long a, xx_d, .int (nI i), .ref 4000, xx_d, xx_d, xx_d] []
  refine sw_lload_n O (xx_dt dd_X7_withRegion 0 rfl) rfl ?_
  refine sw_lstore (ls2 := [.ref 1000, .long a, xx_d, .int (nI i), .ref 4000, .long a, xx_d, xx_d]) O (xx_dt dd_X7_withRegion 1 rfl) (by decide) rfl ?_
  refine sw_iconst (x := 0) O (xx_dt dd_X7_withRegion 2 rfl) (by decide) ?_
  refine sw_istore (ls2 := [.ref 1000, .long a, xx_d, .int (nI i), .ref 4000, .long a, xx_d, .int 0]) O (xx_dt dd_X7_withRegion 3 rfl) (by decide) rfl ?_
  refine sw_for (fun i6 s6 => f_mixed s6 (Int32.toInt64 (f_regionFact σ C i i6))) (fun _ _ => True) (hp := fun _ => setC σ (hB h c b G)) (hd := 6) (lc := fun i6 s6 => [.ref 1000, .long a, xx_d, .int (nI i), .ref 4000, .long s6, xx_d, .int (nI i6)]) (N := 9) (fun i6 s6 hi6 hP6 => ⟨trivial, fun kk6 => ?_⟩) 9 0 a (by omega) (trivial) (fun hP6 => ?_)
  · refine sw_iload O (xx_dt dd_X7_withRegion 4 rfl) rfl ?_
    refine sw_bipush (x := 9) O (xx_dt dd_X7_withRegion 5 rfl) (by decide) ?_
    refine sw_icmp_ge (tgt := 34) O (xx_dt dd_X7_withRegion 6 rfl) (by decide) (fun q1 => ?_) (fun q1 => ?_)
    · exact absurd q1 (nI_ge (b := 9) hi6 (by omega))
    · refine sw_lload O (xx_dt dd_X7_withRegion 7 rfl) rfl ?_
      refine sw_aload_n O (xx_dt dd_X7_withRegion 8 rfl) rfl ?_
      refine sw_iload_n O (xx_dt dd_X7_withRegion 9 rfl) rfl ?_
      refine sw_iload O (xx_dt dd_X7_withRegion 10 rfl) rfl ?_
      refine sw_callVx (as := [.int (nI i), .int (nI i6)]) (st := [.long s6]) (st2 := [.int (f_regionFact σ C i i6), .long s6]) O (ct_X7_regionFact hl (σ := σ) (C := C) hC (by omega) (r := i) (by omega) (v := i6) (by omega)) ce_X7_regionFact ml_X7_243 iv_X7_regionFact cl_X7 rfl (ly_1000 σ (hB h c b G)) (xx_dt dd_X7_withRegion 11 rfl) (by first | decide | omega) rfl rfl (Nat.le_of_ble_eq_true rfl) rfl ?_
      refine sw_i2l O (xx_dt dd_X7_withRegion 12 rfl) ?_
      refine sw_callSx (as := [.long s6, .long (Int32.toInt64 (f_regionFact σ C i i6))]) (st := []) (st2 := [.long (f_mixed s6 (Int32.toInt64 (f_regionFact σ C i i6)))]) O (ct_X7_mixed hl (a := s6) (v := Int32.toInt64 (f_regionFact σ C i i6))) ce_X7_mixed ml_X7_348 st_X7_mixed (xx_dt dd_X7_withRegion 13 rfl) (by first | decide | omega) rfl rfl (Nat.le_of_ble_eq_true rfl) rfl ?_
      refine sw_lstore (ls2 := [.ref 1000, .long a, xx_d, .int (nI i), .ref 4000, .long (f_mixed s6 (Int32.toInt64 (f_regionFact σ C i i6))), xx_d, .int (nI i6)]) O (xx_dt dd_X7_withRegion 14 rfl) (by decide) rfl ?_
      refine sw_iinc (y := nI (i6 + 1)) (ls2 := [.ref 1000, .long a, xx_d, .int (nI i), .ref 4000, .long (f_mixed s6 (Int32.toInt64 (f_regionFact σ C i i6))), xx_d, .int (nI (i6 + 1))]) O (xx_dt dd_X7_withRegion 15 rfl) rfl (nI_1 _) (by decide) rfl ?_
      refine sw_goto (tgt := 6) O (xx_dt dd_X7_withRegion 16 rfl) (by decide) ?_
      exact kk6
  · show SW Y _ _ (setC σ (hB h c b G)) 6 [.ref 1000, .long a, xx_d, .int (nI i), .ref 4000, .long (x_withRegion_6 σ a i C sp a), xx_d, .int (nI 9)] []
    refine sw_iload O (xx_dt dd_X7_withRegion 4 rfl) rfl ?_
    refine sw_bipush (x := 9) O (xx_dt dd_X7_withRegion 5 rfl) (by decide) ?_
    refine sw_icmp_ge (tgt := 34) O (xx_dt dd_X7_withRegion 6 rfl) (by decide) (fun q1 => ?_) (fun q1 => ?_)
    · refine sw_aload O (xx_dt dd_X7_withRegion 17 rfl) rfl ?_
      refine sw_iconst (x := nI 0) O (xx_dt dd_X7_withRegion 18 rfl) (by decide) ?_
      refine sw_callVx (as := [.int (nI 0)]) (st := []) (st2 := []) O (dr_set hl (σ := σ) (c := c) (b := b) (G := G) (by omega)) ce_J4_setLength_d00df ml_X7_447 iv_J4_setLength_d00df cl_J4 rfl (hB_r) (xx_dt dd_X7_withRegion 19 rfl) (by first | decide | omega) rfl rfl (Nat.le_of_ble_eq_true rfl) rfl ?_
      refine sw_aload_n O (xx_dt dd_X7_withRegion 20 rfl) rfl ?_
      refine sw_get (v := .ref 1005) O (xx_dt dd_X7_withRegion 21 rfl) cl_X7 fl_X7_43 (ly_1000 σ (hB h 0 (if c = 0 then b else 1) G)) (by decide) rfl ?_
      refine sw_aload_n O (xx_dt dd_X7_withRegion 22 rfl) rfl ?_
      refine sw_get (v := .ref 1001) O (xx_dt dd_X7_withRegion 23 rfl) cl_X7 fl_X7_12 (ly_1000 σ (hB h 0 (if c = 0 then b else 1) G)) (by decide) rfl ?_
      refine sw_iload_n O (xx_dt dd_X7_withRegion 24 rfl) rfl ?_
      refine sw_aload O (xx_dt dd_X7_withRegion 25 rfl) rfl ?_
      refine sw_callVx (as := [.ref 1001, .int (nI i), .ref 4000]) (st := []) (st2 := []) O (ct_X3_draw hl (rg := i) (sp := sp i) (by omega) (hsp i (by omega)).1 (hsp i (by omega)).2 hdg (hho i (by omega))) ce_X3_draw ml_X7_296 iv_X3_draw cl_X3 rfl (ly_1005 σ (hB h (2 * sp i - 1) (if c = 0 then b else 1) (gD (σ (1141 + i)) G (sp i)))) (xx_dt dd_X7_withRegion 26 rfl) (by first | decide | omega) rfl rfl (Nat.le_of_ble_eq_true rfl) rfl ?_
      refine sw_lload O (xx_dt dd_X7_withRegion 27 rfl) rfl ?_
      refine sw_aload O (xx_dt dd_X7_withRegion 28 rfl) rfl ?_
      refine sw_callVx (as := []) (st := [.long (x_withRegion_6 σ a i C sp a)]) (st2 := [.int (nI (2 * sp i - 1)), .long (x_withRegion_6 σ a i C sp a)]) O (sb_length hl hB_r) ce_J4_length_8abf5 ml_X7_450 iv_J4_length_8abf5 cl_J4 rfl (hB_r) (xx_dt dd_X7_withRegion 29 rfl) (by first | decide | omega) rfl rfl (Nat.le_of_ble_eq_true rfl) rfl ?_
      refine sw_i2l O (xx_dt dd_X7_withRegion 30 rfl) ?_
      refine sw_callSx (as := [.long (x_withRegion_6 σ a i C sp a), .long (Int32.toInt64 (nI (2 * sp i - 1)))]) (st := []) (st2 := [.long (f_mixed (x_withRegion_6 σ a i C sp a) (Int32.toInt64 (nI (2 * sp i - 1))))]) O (ct_X7_mixed hl (a := (x_withRegion_6 σ a i C sp a)) (v := Int32.toInt64 (nI (2 * sp i - 1)))) ce_X7_mixed ml_X7_348 st_X7_mixed (xx_dt dd_X7_withRegion 31 rfl) (by first | decide | omega) rfl rfl (Nat.le_of_ble_eq_true rfl) rfl ?_
      refine sw_lstore (ls2 := [.ref 1000, .long a, xx_d, .int (nI i), .ref 4000, .long (f_mixed (x_withRegion_6 σ a i C sp a) (Int32.toInt64 (nI (2 * sp i - 1)))), xx_d, .int (nI 9)]) O (xx_dt dd_X7_withRegion 32 rfl) (by decide) rfl ?_
      refine sw_iconst (x := 0) O (xx_dt dd_X7_withRegion 33 rfl) (by decide) ?_
      refine sw_istore (ls2 := [.ref 1000, .long a, xx_d, .int (nI i), .ref 4000, .long (f_mixed (x_withRegion_6 σ a i C sp a) (Int32.toInt64 (nI (2 * sp i - 1)))), xx_d, .int 0]) O (xx_dt dd_X7_withRegion 34 rfl) (by decide) rfl ?_
      refine sw_for (fun i70 s70 => f_mixed s70 (Int32.toInt64 (σ (1141 + i) i70))) (fun _ _ => True) (hp := fun _ => setC σ (hB h (2 * sp i - 1) (if c = 0 then b else 1) (gD (σ (1141 + i)) G (sp i)))) (hd := 70) (lc := fun i70 s70 => [.ref 1000, .long a, xx_d, .int (nI i), .ref 4000, .long s70, xx_d, .int (nI i70)]) (N := (sp i)) (fun i70 s70 hi70 hP70 => ⟨trivial, fun kk70 => ?_⟩) (sp i) 0 (f_mixed (x_withRegion_6 σ a i C sp a) (Int32.toInt64 (nI (2 * sp i - 1)))) (by omega) (trivial) (fun hP70 => ?_)
      · refine sw_iload O (xx_dt dd_X7_withRegion 35 rfl) rfl ?_
        refine sw_aload_n O (xx_dt dd_X7_withRegion 36 rfl) rfl ?_
        refine sw_get (v := .ref 1001) O (xx_dt dd_X7_withRegion 37 rfl) cl_X7 fl_X7_12 (ly_1000 σ (hB h (2 * sp i - 1) (if c = 0 then b else 1) (gD (σ (1141 + i)) G (sp i)))) (by decide) rfl ?_
        refine sw_get (v := .ref 1010) O (xx_dt dd_X7_withRegion 38 rfl) cl_X6 fl_X7_285 (ly_1001 σ (hB h (2 * sp i - 1) (if c = 0 then b else 1) (gD (σ (1141 + i)) G (sp i)))) (by decide) rfl ?_
        refine sw_iload_n O (xx_dt dd_X7_withRegion 39 rfl) rfl ?_
        have hz80 := (hsp i (by omega)).2
        refine sw_iaload (v := .int (nI (sp i))) O (xx_dt dd_X7_withRegion 40 rfl) (ly_1010 σ (hB h (2 * sp i - 1) (if c = 0 then b else 1) (gD (σ (1141 + i)) G (sp i)))) (pk_in i _ (by omega)) (by rw [nI_clamp (by omega)]; exact (congrArg Value.int (hsp i (by omega)).1)) ?_
        refine sw_icmp_ge (tgt := 110) O (xx_dt dd_X7_withRegion 41 rfl) (by decide) (fun q2 => ?_) (fun q2 => ?_)
        · exact absurd q2 (nI_ge (b := (sp i)) hi70 (by omega))
        · refine sw_lload O (xx_dt dd_X7_withRegion 42 rfl) rfl ?_
          refine sw_aload_n O (xx_dt dd_X7_withRegion 43 rfl) rfl ?_
          refine sw_get (v := .ref 1005) O (xx_dt dd_X7_withRegion 44 rfl) cl_X7 fl_X7_43 (ly_1000 σ (hB h (2 * sp i - 1) (if c = 0 then b else 1) (gD (σ (1141 + i)) G (sp i)))) (by decide) rfl ?_
          refine sw_get (v := .ref 1140) O (xx_dt dd_X7_withRegion 45 rfl) cl_X3 fl_X7_290 (ly_1005 σ (hB h (2 * sp i - 1) (if c = 0 then b else 1) (gD (σ (1141 + i)) G (sp i)))) (by decide) rfl ?_
          refine sw_iload_n O (xx_dt dd_X7_withRegion 46 rfl) rfl ?_
          refine sw_aaload (v := .ref (1141 + i)) O (xx_dt dd_X7_withRegion 47 rfl) (by omega) (by omega) (ly_1140 σ (hB h (2 * sp i - 1) (if c = 0 then b else 1) (gD (σ (1141 + i)) G (sp i)))) (pk_in i _ (by omega)) (by rw [nI_clamp (by omega)]; try exact rfl) ?_
          refine sw_iload O (xx_dt dd_X7_withRegion 48 rfl) rfl ?_
          refine sw_iaload (v := .int (σ (1141 + i) i70)) O (xx_dt dd_X7_withRegion 49 rfl) (lr_1140 σ (hB h (2 * sp i - 1) (if c = 0 then b else 1) (gD (σ (1141 + i)) G (sp i))) (k := i) (by omega)) (pk_in i70 _ (by omega)) (by rw [nI_clamp (by omega)]; try exact rfl) ?_
          refine sw_i2l O (xx_dt dd_X7_withRegion 50 rfl) ?_
          refine sw_callSx (as := [.long s70, .long (Int32.toInt64 (σ (1141 + i) i70))]) (st := []) (st2 := [.long (f_mixed s70 (Int32.toInt64 (σ (1141 + i) i70)))]) O (ct_X7_mixed hl (a := s70) (v := Int32.toInt64 (σ (1141 + i) i70))) ce_X7_mixed ml_X7_348 st_X7_mixed (xx_dt dd_X7_withRegion 51 rfl) (by first | decide | omega) rfl rfl (Nat.le_of_ble_eq_true rfl) rfl ?_
          refine sw_lstore (ls2 := [.ref 1000, .long a, xx_d, .int (nI i), .ref 4000, .long (f_mixed s70 (Int32.toInt64 (σ (1141 + i) i70))), xx_d, .int (nI i70)]) O (xx_dt dd_X7_withRegion 52 rfl) (by decide) rfl ?_
          refine sw_iinc (y := nI (i70 + 1)) (ls2 := [.ref 1000, .long a, xx_d, .int (nI i), .ref 4000, .long (f_mixed s70 (Int32.toInt64 (σ (1141 + i) i70))), xx_d, .int (nI (i70 + 1))]) O (xx_dt dd_X7_withRegion 53 rfl) rfl (nI_1 _) (by decide) rfl ?_
          refine sw_goto (tgt := 70) O (xx_dt dd_X7_withRegion 54 rfl) (by decide) ?_
          exact kk70
      · show SW Y _ _ (setC σ (hB h (2 * sp i - 1) (if c = 0 then b else 1) (gD (σ (1141 + i)) G (sp i)))) 70 [.ref 1000, .long a, xx_d, .int (nI i), .ref 4000, .long (x_withRegion_70 σ a i C sp (f_mixed (x_withRegion_6 σ a i C sp a) (Int32.toInt64 (nI (2 * sp i - 1))))), xx_d, .int (nI ((sp i)))] []
        refine sw_iload O (xx_dt dd_X7_withRegion 35 rfl) rfl ?_
        refine sw_aload_n O (xx_dt dd_X7_withRegion 36 rfl) rfl ?_
        refine sw_get (v := .ref 1001) O (xx_dt dd_X7_withRegion 37 rfl) cl_X7 fl_X7_12 (ly_1000 σ (hB h (2 * sp i - 1) (if c = 0 then b else 1) (gD (σ (1141 + i)) G (sp i)))) (by decide) rfl ?_
        refine sw_get (v := .ref 1010) O (xx_dt dd_X7_withRegion 38 rfl) cl_X6 fl_X7_285 (ly_1001 σ (hB h (2 * sp i - 1) (if c = 0 then b else 1) (gD (σ (1141 + i)) G (sp i)))) (by decide) rfl ?_
        refine sw_iload_n O (xx_dt dd_X7_withRegion 39 rfl) rfl ?_
        have hz80 := (hsp i (by omega)).2
        refine sw_iaload (v := .int (nI (sp i))) O (xx_dt dd_X7_withRegion 40 rfl) (ly_1010 σ (hB h (2 * sp i - 1) (if c = 0 then b else 1) (gD (σ (1141 + i)) G (sp i)))) (pk_in i _ (by omega)) (by rw [nI_clamp (by omega)]; exact (congrArg Value.int (hsp i (by omega)).1)) ?_
        refine sw_icmp_ge (tgt := 110) O (xx_dt dd_X7_withRegion 41 rfl) (by decide) (fun q2 => ?_) (fun q2 => ?_)
        · refine sw_lload O (xx_dt dd_X7_withRegion 55 rfl) rfl ?_
          exact sw_lret O (xx_dt dd_X7_withRegion 56 rfl) rfl (by rw [hQ]; exact ⟨by unfold f_withRegion; rfl, rfl⟩)
        · exact absurd (Int32.le_refl _) q2
    · exact absurd (Int32.le_refl _) q1
