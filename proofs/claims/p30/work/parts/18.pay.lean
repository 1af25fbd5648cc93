/-! ===== Payments, the rest ===== -/
def f_harmOf (σ : XS9) (i : Nat) : Int32 := (if (σ 1040 i) = (-1) then 0 else (σ 1041 (bsub 63 i)) - ((σ 1041 63) - (f_amountWon σ i)))
theorem ct_X4_harmOf {l : Launch} {h : XH} (hl : l.stackTraces = false) {σ : XS9} {i : Nat} (hi : i < 6) : XEx l m_X4_harmOf 1 0 0 [.ref 1003, .int (nI i)] (setC σ h) (some (.int (f_harmOf σ i))) (setC σ h) := by
  refine XMet.of hl rfl rfl (Nat.le_of_ble_eq_true rfl) (fun Y O hh hQ => ?_)
  show SW Y 0 0 (setC σ h) 0 [.ref 1003, .int (nI i), xx_d] []
  refine sw_aload_n O (xx_dt dd_X4_harmOf 0 rfl) rfl ?_
  refine sw_get (v := .ref 1040) O (xx_dt dd_X4_harmOf 1 rfl) cl_X2 fl_X4_38 (ly_1003 σ h) (by decide) rfl ?_
  refine sw_iload_n O (xx_dt dd_X4_harmOf 2 rfl) rfl ?_
  refine sw_iaload (v := .int (σ 1040 i)) O (xx_dt dd_X4_harmOf 3 rfl) (ly_1040 σ h) (pk_in i _ (by omega)) (by rw [nI_clamp (by omega)]; try exact rfl) ?_
  refine sw_iconst (x := (-1)) O (xx_dt dd_X4_harmOf 4 rfl) (by decide) ?_
  refine sw_icmp_ne (tgt := 12) O (xx_dt dd_X4_harmOf 5 rfl) (by decide) (fun q1 => ?_) (fun q1 => ?_)
  · refine sw_aload_n O (xx_dt dd_X4_harmOf 8 rfl) rfl ?_
    refine sw_get (v := .ref 1041) O (xx_dt dd_X4_harmOf 9 rfl) cl_X2 fl_X4_42 (ly_1003 σ h) (by decide) rfl ?_
    refine sw_bipush (x := 63) O (xx_dt dd_X4_harmOf 10 rfl) (by decide) ?_
    refine sw_iaload (v := .int (σ 1041 63)) O (xx_dt dd_X4_harmOf 11 rfl) (ly_1041 σ h) (by unfold vp_in; decide) rfl ?_
    refine sw_aload_n O (xx_dt dd_X4_harmOf 12 rfl) rfl ?_
    refine sw_iload_n O (xx_dt dd_X4_harmOf 13 rfl) rfl ?_
    refine sw_callVx (as := [.int (nI i)]) (st := [.int (σ 1041 63)]) (st2 := [.int (f_amountWon σ i), .int (σ 1041 63)]) O (ct_X2_amountWon hl (σ := σ) (i := i) (by omega)) ce_X2_amountWon ml_X4_20 iv_X2_amountWon cl_X2 rfl (ly_1003 σ h) (xx_dt dd_X4_harmOf 14 rfl) (by decide) rfl rfl (Nat.le_of_ble_eq_true rfl) rfl ?_
    refine sw_isub O (xx_dt dd_X4_harmOf 15 rfl) ?_
    refine sw_istore_n (ls2 := [.ref 1003, .int (nI i), .int ((σ 1041 63) - (f_amountWon σ i))]) O (xx_dt dd_X4_harmOf 16 rfl) (by decide) rfl ?_
    refine sw_aload_n O (xx_dt dd_X4_harmOf 17 rfl) rfl ?_
    refine sw_get (v := .ref 1041) O (xx_dt dd_X4_harmOf 18 rfl) cl_X2 fl_X4_42 (ly_1003 σ h) (by decide) rfl ?_
    refine sw_bipush (x := 63) O (xx_dt dd_X4_harmOf 19 rfl) (by decide) ?_
    refine sw_iconst (x := 1) O (xx_dt dd_X4_harmOf 20 rfl) (by decide) ?_
    refine sw_iload_n O (xx_dt dd_X4_harmOf 21 rfl) rfl ?_
    refine sw_ishl O (xx_dt dd_X4_harmOf 22 rfl) ?_
    refine sw_isub O (xx_dt dd_X4_harmOf 23 rfl) ?_
    have hx35 := bsub_lt (S := 63) i (by omega)
    rw [bit_sub63 (i := i) (by omega)]
    refine sw_iaload (v := .int (σ 1041 (bsub 63 i))) O (xx_dt dd_X4_harmOf 24 rfl) (ly_1041 σ h) (pk_in (bsub 63 i) _ (by omega)) (by rw [nI_clamp (by omega)]; try exact rfl) ?_
    refine sw_iload_n O (xx_dt dd_X4_harmOf 25 rfl) rfl ?_
    refine sw_isub O (xx_dt dd_X4_harmOf 26 rfl) ?_
    exact sw_iret O (xx_dt dd_X4_harmOf 27 rfl) rfl rfl (by rw [hQ]; exact ⟨by unfold f_harmOf; simp only [if_neg q1], rfl⟩)
  · refine sw_iconst (x := 0) O (xx_dt dd_X4_harmOf 6 rfl) (by decide) ?_
    exact sw_iret O (xx_dt dd_X4_harmOf 7 rfl) rfl rfl (by rw [hQ]; exact ⟨by unfold f_harmOf; simp only [if_pos q1], rfl⟩)
theorem ct_X4_objection' {l : Launch} {h : XH} (hl : l.stackTraces = false) {σ : XS9} {x : Int32} {S w : Nat} (hx : x = nI S) (hS : S < 64) (hw : w < 3) : XEx l m_X4_objection 0 0 0 [.ref 1004, .ref 1003, .int x, .int (nI w)] (setC σ h) (some (.int (f_objection σ S w))) (setC σ h) := by
  subst hx
  exact ct_X4_objection hl hS hw
def cn (x : Int32) : Nat := x.toNatClampNeg
def x_strongest_7 (σ : XS9)  (s0 : Int32 × Int32) : Int32 × Int32 := xit (fun i7 s7 => (if (f_objection σ i7 2) ≤ s7.2 then (s7.1, s7.2) else (nI i7, f_objection σ i7 2))) 64 0 s0
def f_strongest (σ : XS9)  : Int32 := (x_strongest_7 σ ((-1), 0)).1
theorem ct_X4_strongest {l : Launch} {h : XH} (hl : l.stackTraces = false) {σ : XS9}  : XEx l m_X4_strongest 1 0 0 [.ref 1004, .ref 1003] (setC σ h) (some (.int (f_strongest σ))) (setC σ h) := by
  refine XMet.of hl rfl rfl (Nat.le_of_ble_eq_true rfl) (fun Y O hh hQ => ?_)
  show SW Y 0 0 (setC σ h) 0 [.ref 1004, .ref 1003, xx_d, xx_d, xx_d, xx_d] []
  refine sw_iconst (x := (-1)) O (xx_dt dd_X4_strongest 0 rfl) (by decide) ?_
  refine sw_istore_n (ls2 := [.ref 1004, .ref 1003, .int (-1), xx_d, xx_d, xx_d]) O (xx_dt dd_X4_strongest 1 rfl) (by decide) rfl ?_
  refine sw_iconst (x := 0) O (xx_dt dd_X4_strongest 2 rfl) (by decide) ?_
  refine sw_istore_n (ls2 := [.ref 1004, .ref 1003, .int (-1), .int 0, xx_d, xx_d]) O (xx_dt dd_X4_strongest 3 rfl) (by decide) rfl ?_
  refine sw_iconst (x := 0) O (xx_dt dd_X4_strongest 4 rfl) (by decide) ?_
  refine sw_istore (ls2 := [.ref 1004, .ref 1003, .int (-1), .int 0, .int 0, xx_d]) O (xx_dt dd_X4_strongest 5 rfl) (by decide) rfl ?_
  refine sw_for (fun i7 s7 => (if (f_objection σ i7 2) ≤ s7.2 then (s7.1, s7.2) else (nI i7, f_objection σ i7 2))) (fun _ _ => True) (hp := fun _ => setC σ h) (hd := 7) (lc := fun i7 s7 => [.ref 1004, .ref 1003, .int s7.1, .int s7.2, .int (nI i7), xx_d]) (N := 64) (fun i7 s7 hi7 hP7 => ⟨trivial, fun kk7 => ?_⟩) 64 0 ((-1), 0) (by omega) (trivial) (fun hP7 => ?_)
  · refine sw_iload O (xx_dt dd_X4_strongest 6 rfl) rfl ?_
    refine sw_bipush (x := 64) O (xx_dt dd_X4_strongest 7 rfl) (by decide) ?_
    refine sw_icmp_ge (tgt := 42) O (xx_dt dd_X4_strongest 8 rfl) (by decide) (fun q1 => ?_) (fun q1 => ?_)
    · exact absurd q1 (nI_ge (b := 64) hi7 (by omega))
    · refine sw_aload_n O (xx_dt dd_X4_strongest 9 rfl) rfl ?_
      refine sw_aload_n O (xx_dt dd_X4_strongest 10 rfl) rfl ?_
      refine sw_iload O (xx_dt dd_X4_strongest 11 rfl) rfl ?_
      refine sw_iconst (x := 2) O (xx_dt dd_X4_strongest 12 rfl) (by decide) ?_
      refine sw_callVx (as := [.ref 1003, .int (nI i7), .int 2]) (st := []) (st2 := [.int (f_objection σ i7 2)]) O (ct_X4_objection' hl (σ := σ) (x := nI i7) (S := i7) (w := 2) rfl (by omega) (by omega)) ce_X4_objection ml_X4_30 iv_X4_objection cl_X4 rfl (ly_1004 σ h) (xx_dt dd_X4_strongest 13 rfl) (by decide) rfl rfl (Nat.le_of_ble_eq_true rfl) rfl ?_
      refine sw_istore (ls2 := [.ref 1004, .ref 1003, .int s7.1, .int s7.2, .int (nI i7), .int (f_objection σ i7 2)]) O (xx_dt dd_X4_strongest 14 rfl) (by decide) rfl ?_
      refine sw_iload O (xx_dt dd_X4_strongest 15 rfl) rfl ?_
      refine sw_iload_n O (xx_dt dd_X4_strongest 16 rfl) rfl ?_
      refine sw_icmp_le (tgt := 36) O (xx_dt dd_X4_strongest 17 rfl) (by decide) (fun q2 => ?_) (fun q2 => ?_)
      · refine sw_iinc (y := nI (i7 + 1)) (ls2 := [.ref 1004, .ref 1003, .int s7.1, .int s7.2, .int (nI (i7 + 1)), .int (f_objection σ i7 2)]) O (xx_dt dd_X4_strongest 22 rfl) rfl (nI_1 _) (by decide) rfl ?_
        refine sw_goto (tgt := 7) O (xx_dt dd_X4_strongest 23 rfl) (by decide) ?_
        refine sw_dum (ls2 := [.ref 1004, .ref 1003, .int s7.1, .int s7.2, .int (nI (i7 + 1)), xx_d]) ⟨.inr rfl, .inr rfl, .inr rfl, .inr rfl, .inr rfl, .inl rfl, trivial⟩ ?_
        simp only [if_pos q2] at kk7
        exact kk7
      · refine sw_iload O (xx_dt dd_X4_strongest 18 rfl) rfl ?_
        refine sw_istore_n (ls2 := [.ref 1004, .ref 1003, .int (nI i7), .int s7.2, .int (nI i7), .int (f_objection σ i7 2)]) O (xx_dt dd_X4_strongest 19 rfl) (by decide) rfl ?_
        refine sw_iload O (xx_dt dd_X4_strongest 20 rfl) rfl ?_
        refine sw_istore_n (ls2 := [.ref 1004, .ref 1003, .int (nI i7), .int (f_objection σ i7 2), .int (nI i7), .int (f_objection σ i7 2)]) O (xx_dt dd_X4_strongest 21 rfl) (by decide) rfl ?_
        refine sw_iinc (y := nI (i7 + 1)) (ls2 := [.ref 1004, .ref 1003, .int (nI i7), .int (f_objection σ i7 2), .int (nI (i7 + 1)), .int (f_objection σ i7 2)]) O (xx_dt dd_X4_strongest 22 rfl) rfl (nI_1 _) (by decide) rfl ?_
        refine sw_goto (tgt := 7) O (xx_dt dd_X4_strongest 23 rfl) (by decide) ?_
        refine sw_dum (ls2 := [.ref 1004, .ref 1003, .int (nI i7), .int (f_objection σ i7 2), .int (nI (i7 + 1)), xx_d]) ⟨.inr rfl, .inr rfl, .inr rfl, .inr rfl, .inr rfl, .inl rfl, trivial⟩ ?_
        simp only [if_neg q2] at kk7
        exact kk7
  · show SW Y _ _ (setC σ h) 7 [.ref 1004, .ref 1003, .int ((x_strongest_7 σ ((-1), 0)).1), .int ((x_strongest_7 σ ((-1), 0)).2), .int (nI 64), xx_d] []
    refine sw_iload O (xx_dt dd_X4_strongest 6 rfl) rfl ?_
    refine sw_bipush (x := 64) O (xx_dt dd_X4_strongest 7 rfl) (by decide) ?_
    refine sw_icmp_ge (tgt := 42) O (xx_dt dd_X4_strongest 8 rfl) (by decide) (fun q1 => ?_) (fun q1 => ?_)
    · refine sw_iload_n O (xx_dt dd_X4_strongest 24 rfl) rfl ?_
      exact sw_iret O (xx_dt dd_X4_strongest 25 rfl) rfl rfl (by rw [hQ]; exact ⟨by unfold f_strongest; rfl, rfl⟩)
    · exact absurd (Int32.le_refl _) q1
def x_raiseOutside_21 (σ : XS9) (x y : Int32) (s5 : XS9 × Int32) (s0 : Int32 × Int32) : Int32 × Int32 := xit (fun i21 s21 => (if (f_roomOutside s5.1 x i21) ≤ 0 then (s21.1, s21.2) else (s21.1 + 1, if (f_roomOutside s5.1 x i21) < s21.2 then (f_roomOutside s5.1 x i21) else s21.2))) 6 0 s0
def x_raiseOutside_5 (σ : XS9) (x y : Int32) (s0 : XS9 × Int32) : XS9 × Int32 := xitB (fun i5 s5 => (if ((x_raiseOutside_21 σ x y s5 (0, s5.2)).1) = 0 then .inr (s5.1, s5.2) else (if ((x_raiseOutside_21 σ x y s5 (0, s5.2)).1) ≤ s5.2 then .inl (g_raiseEach s5.1 x (if (s5.2 / ((x_raiseOutside_21 σ x y s5 (0, s5.2)).1)) < ((x_raiseOutside_21 σ x y s5 (0, s5.2)).2) then (s5.2 / ((x_raiseOutside_21 σ x y s5 (0, s5.2)).1)) else ((x_raiseOutside_21 σ x y s5 (0, s5.2)).2)) s5.2, s5.2 - (f_raiseEach s5.1 x (if (s5.2 / ((x_raiseOutside_21 σ x y s5 (0, s5.2)).1)) < ((x_raiseOutside_21 σ x y s5 (0, s5.2)).2) then (s5.2 / ((x_raiseOutside_21 σ x y s5 (0, s5.2)).1)) else ((x_raiseOutside_21 σ x y s5 (0, s5.2)).2)) s5.2)) else .inr (s5.1, s5.2)))) 7 0 s0
def g_raiseOutside (σ : XS9) (x y : Int32) : XS9 := g_raiseEach ((x_raiseOutside_5 σ x y (σ, y)).1) x 1 ((x_raiseOutside_5 σ x y (σ, y)).2)
theorem ct_X4_raiseOutside {l : Launch} {h : XH} (hl : l.stackTraces = false) {σ : XS9} {x y : Int32} : XEx l m_X4_raiseOutside 2 0 0 [.ref 1004, .int x, .int y] (setC σ h) (none) (setC (g_raiseOutside σ x y) h) := by
  refine XMet.of hl rfl rfl (Nat.le_of_ble_eq_true rfl) (fun Y O hh hQ => ?_)
  show SW Y 0 0 (setC σ h) 0 [.ref 1004, .int x, .int y, xx_d, xx_d, xx_d, xx_d, xx_d, xx_d] []
  refine sw_iload_n O (xx_dt dd_X4_raiseOutside 0 rfl) rfl ?_
  refine sw_istore_n (ls2 := [.ref 1004, .int x, .int y, .int y, xx_d, xx_d, xx_d, xx_d, xx_d]) O (xx_dt dd_X4_raiseOutside 1 rfl) (by decide) rfl ?_
  refine sw_iconst (x := 0) O (xx_dt dd_X4_raiseOutside 2 rfl) (by decide) ?_
  refine sw_istore (ls2 := [.ref 1004, .int x, .int y, .int y, .int 0, xx_d, xx_d, xx_d, xx_d]) O (xx_dt dd_X4_raiseOutside 3 rfl) (by decide) rfl ?_
  refine sw_forB (fun i5 s5 => (if ((x_raiseOutside_21 σ x y s5 (0, s5.2)).1) = 0 then .inr (s5.1, s5.2) else (if ((x_raiseOutside_21 σ x y s5 (0, s5.2)).1) ≤ s5.2 then .inl (g_raiseEach s5.1 x (if (s5.2 / ((x_raiseOutside_21 σ x y s5 (0, s5.2)).1)) < ((x_raiseOutside_21 σ x y s5 (0, s5.2)).2) then (s5.2 / ((x_raiseOutside_21 σ x y s5 (0, s5.2)).1)) else ((x_raiseOutside_21 σ x y s5 (0, s5.2)).2)) s5.2, s5.2 - (f_raiseEach s5.1 x (if (s5.2 / ((x_raiseOutside_21 σ x y s5 (0, s5.2)).1)) < ((x_raiseOutside_21 σ x y s5 (0, s5.2)).2) then (s5.2 / ((x_raiseOutside_21 σ x y s5 (0, s5.2)).1)) else ((x_raiseOutside_21 σ x y s5 (0, s5.2)).2)) s5.2)) else .inr (s5.1, s5.2)))) (fun _ _ => True) (fun _ => True) (hp := fun s5 => setC s5.1 h) (hd := 5) (lc := fun i5 s5 => [.ref 1004, .int x, .int y, .int s5.2, .int (nI i5), xx_d, xx_d, xx_d, xx_d]) (ex := 98) (lx := fun s5 => [.ref 1004, .int x, .int y, .int s5.2, xx_d, xx_d, xx_d, xx_d, xx_d]) (N := 7) (fun i5 s5 hi5 hP5 => ⟨⟨(fun _ _ => trivial), (fun _ _ => trivial)⟩, fun kk5 kb5 => ?_⟩) (fun s5 hP5 => ⟨hP5, fun kx5 => ?_⟩) 7 0 (σ, y) (by omega) (trivial) (fun hP5 => ?_)
  · refine sw_iload O (xx_dt dd_X4_raiseOutside 4 rfl) rfl ?_
    refine sw_bipush (x := 6) O (xx_dt dd_X4_raiseOutside 5 rfl) (by decide) ?_
    refine sw_icmp_gt (tgt := 98) O (xx_dt dd_X4_raiseOutside 6 rfl) (by decide) (fun q1 => ?_) (fun q1 => ?_)
    · exact absurd ((nI_ltI (a := 6) (b := i5) (by omega) (by omega)).mp q1) (by omega)
    · refine sw_iconst (x := 0) O (xx_dt dd_X4_raiseOutside 7 rfl) (by decide) ?_
      refine sw_istore (ls2 := [.ref 1004, .int x, .int y, .int s5.2, .int (nI i5), .int 0, xx_d, xx_d, xx_d]) O (xx_dt dd_X4_raiseOutside 8 rfl) (by decide) rfl ?_
      refine sw_iload_n O (xx_dt dd_X4_raiseOutside 9 rfl) rfl ?_
      refine sw_istore (ls2 := [.ref 1004, .int x, .int y, .int s5.2, .int (nI i5), .int 0, .int s5.2, xx_d, xx_d]) O (xx_dt dd_X4_raiseOutside 10 rfl) (by decide) rfl ?_
      refine sw_iconst (x := 0) O (xx_dt dd_X4_raiseOutside 11 rfl) (by decide) ?_
      refine sw_istore (ls2 := [.ref 1004, .int x, .int y, .int s5.2, .int (nI i5), .int 0, .int s5.2, .int 0, xx_d]) O (xx_dt dd_X4_raiseOutside 12 rfl) (by decide) rfl ?_
      refine sw_for (fun i21 s21 => (if (f_roomOutside s5.1 x i21) ≤ 0 then (s21.1, s21.2) else (s21.1 + 1, if (f_roomOutside s5.1 x i21) < s21.2 then (f_roomOutside s5.1 x i21) else s21.2))) (fun _ _ => True) (hp := fun _ => setC s5.1 h) (hd := 21) (lc := fun i21 s21 => [.ref 1004, .int x, .int y, .int s5.2, .int (nI i5), .int s21.1, .int s21.2, .int (nI i21), xx_d]) (N := 6) (fun i21 s21 hi21 hP21 => ⟨trivial, fun kk21 => ?_⟩) 6 0 (0, s5.2) (by omega) (trivial) (fun hP21 => ?_)
      · refine sw_iload O (xx_dt dd_X4_raiseOutside 13 rfl) rfl ?_
        refine sw_bipush (x := 6) O (xx_dt dd_X4_raiseOutside 14 rfl) (by decide) ?_
        refine sw_icmp_ge (tgt := 60) O (xx_dt dd_X4_raiseOutside 15 rfl) (by decide) (fun q2 => ?_) (fun q2 => ?_)
        · exact absurd q2 (nI_ge (b := 6) hi21 (by omega))
        · refine sw_aload_n O (xx_dt dd_X4_raiseOutside 16 rfl) rfl ?_
          refine sw_iload_n O (xx_dt dd_X4_raiseOutside 17 rfl) rfl ?_
          refine sw_iload O (xx_dt dd_X4_raiseOutside 18 rfl) rfl ?_
          refine sw_callVx (as := [.int x, .int (nI i21)]) (st := []) (st2 := [.int (f_roomOutside s5.1 x i21)]) O (ct_X4_roomOutside hl (σ := s5.1) (x := x) (i := i21) (by omega)) ce_X4_roomOutside ml_X4_45 iv_X4_roomOutside cl_X4 rfl (ly_1004 s5.1 h) (xx_dt dd_X4_raiseOutside 19 rfl) (by decide) rfl rfl (Nat.le_of_ble_eq_true rfl) rfl ?_
          refine sw_istore (ls2 := [.ref 1004, .int x, .int y, .int s5.2, .int (nI i5), .int s21.1, .int s21.2, .int (nI i21), .int (f_roomOutside s5.1 x i21)]) O (xx_dt dd_X4_raiseOutside 20 rfl) (by decide) rfl ?_
          refine sw_iload O (xx_dt dd_X4_raiseOutside 21 rfl) rfl ?_
          refine sw_if_le (tgt := 54) O (xx_dt dd_X4_raiseOutside 22 rfl) (by decide) (fun q3 => ?_) (fun q3 => ?_)
          · refine sw_iinc (y := nI (i21 + 1)) (ls2 := [.ref 1004, .int x, .int y, .int s5.2, .int (nI i5), .int s21.1, .int s21.2, .int (nI (i21 + 1)), .int (f_roomOutside s5.1 x i21)]) O (xx_dt dd_X4_raiseOutside 28 rfl) rfl (nI_1 _) (by decide) rfl ?_
            refine sw_goto (tgt := 21) O (xx_dt dd_X4_raiseOutside 29 rfl) (by decide) ?_
            refine sw_dum (ls2 := [.ref 1004, .int x, .int y, .int s5.2, .int (nI i5), .int s21.1, .int s21.2, .int (nI (i21 + 1)), xx_d]) ⟨.inr rfl, .inr rfl, .inr rfl, .inr rfl, .inr rfl, .inr rfl, .inr rfl, .inr rfl, .inl rfl, trivial⟩ ?_
            simp only [if_pos q3] at kk21
            exact kk21
          · refine sw_iinc (y := s21.1 + 1) (ls2 := [.ref 1004, .int x, .int y, .int s5.2, .int (nI i5), .int (s21.1 + 1), .int s21.2, .int (nI i21), .int (f_roomOutside s5.1 x i21)]) O (xx_dt dd_X4_raiseOutside 23 rfl) rfl rfl (by decide) rfl ?_
            refine sw_iload O (xx_dt dd_X4_raiseOutside 24 rfl) rfl ?_
            refine sw_iload O (xx_dt dd_X4_raiseOutside 25 rfl) rfl ?_
            refine sw_min O mm_X4_49 (xx_dt dd_X4_raiseOutside 26 rfl) (by omega) (Nat.le_of_ble_eq_true rfl) ?_
            refine sw_istore (ls2 := [.ref 1004, .int x, .int y, .int s5.2, .int (nI i5), .int (s21.1 + 1), .int (if (f_roomOutside s5.1 x i21) < s21.2 then (f_roomOutside s5.1 x i21) else s21.2), .int (nI i21), .int (f_roomOutside s5.1 x i21)]) O (xx_dt dd_X4_raiseOutside 27 rfl) (by decide) rfl ?_
            refine sw_iinc (y := nI (i21 + 1)) (ls2 := [.ref 1004, .int x, .int y, .int s5.2, .int (nI i5), .int (s21.1 + 1), .int (if (f_roomOutside s5.1 x i21) < s21.2 then (f_roomOutside s5.1 x i21) else s21.2), .int (nI (i21 + 1)), .int (f_roomOutside s5.1 x i21)]) O (xx_dt dd_X4_raiseOutside 28 rfl) rfl (nI_1 _) (by decide) rfl ?_
            refine sw_goto (tgt := 21) O (xx_dt dd_X4_raiseOutside 29 rfl) (by decide) ?_
            refine sw_dum (ls2 := [.ref 1004, .int x, .int y, .int s5.2, .int (nI i5), .int (s21.1 + 1), .int (if (f_roomOutside s5.1 x i21) < s21.2 then (f_roomOutside s5.1 x i21) else s21.2), .int (nI (i21 + 1)), xx_d]) ⟨.inr rfl, .inr rfl, .inr rfl, .inr rfl, .inr rfl, .inr rfl, .inr rfl, .inr rfl, .inl rfl, trivial⟩ ?_
            simp only [if_neg q3] at kk21
            exact kk21
      · show SW Y _ _ (setC s5.1 h) 21 [.ref 1004, .int x, .int y, .int s5.2, .int (nI i5), .int ((x_raiseOutside_21 σ x y s5 (0, s5.2)).1), .int ((x_raiseOutside_21 σ x y s5 (0, s5.2)).2), .int (nI 6), xx_d] []
        refine sw_iload O (xx_dt dd_X4_raiseOutside 13 rfl) rfl ?_
        refine sw_bipush (x := 6) O (xx_dt dd_X4_raiseOutside 14 rfl) (by decide) ?_
        refine sw_icmp_ge (tgt := 60) O (xx_dt dd_X4_raiseOutside 15 rfl) (by decide) (fun q2 => ?_) (fun q2 => ?_)
        · refine sw_iload O (xx_dt dd_X4_raiseOutside 30 rfl) rfl ?_
          refine sw_if_eq (tgt := 98) O (xx_dt dd_X4_raiseOutside 31 rfl) (by decide) (fun q4 => ?_) (fun q4 => ?_)
          · refine sw_dum (ls2 := [.ref 1004, .int x, .int y, .int s5.2, xx_d, xx_d, xx_d, xx_d, xx_d]) ⟨.inr rfl, .inr rfl, .inr rfl, .inr rfl, .inl rfl, .inl rfl, .inl rfl, .inl rfl, .inr rfl, trivial⟩ ?_
            exact kb5 (s5.1, s5.2) (by simp only [if_pos q4])
          · refine sw_iload_n O (xx_dt dd_X4_raiseOutside 32 rfl) rfl ?_
            refine sw_iload O (xx_dt dd_X4_raiseOutside 33 rfl) rfl ?_
            refine sw_icmp_ge (tgt := 74) O (xx_dt dd_X4_raiseOutside 34 rfl) (by decide) (fun q5 => ?_) (fun q5 => ?_)
            · refine sw_iload_n O (xx_dt dd_X4_raiseOutside 36 rfl) rfl ?_
              refine sw_aload_n O (xx_dt dd_X4_raiseOutside 37 rfl) rfl ?_
              refine sw_iload_n O (xx_dt dd_X4_raiseOutside 38 rfl) rfl ?_
              refine sw_iload O (xx_dt dd_X4_raiseOutside 39 rfl) rfl ?_
              refine sw_iload_n O (xx_dt dd_X4_raiseOutside 40 rfl) rfl ?_
              refine sw_iload O (xx_dt dd_X4_raiseOutside 41 rfl) rfl ?_
              refine sw_idiv O (xx_dt dd_X4_raiseOutside 42 rfl) (by first | decide | assumption) ?_
              refine sw_min O mm_X4_49 (xx_dt dd_X4_raiseOutside 43 rfl) (by omega) (Nat.le_of_ble_eq_true rfl) ?_
              refine sw_iload_n O (xx_dt dd_X4_raiseOutside 44 rfl) rfl ?_
              refine sw_callVx (as := [.int x, .int (if (s5.2 / ((x_raiseOutside_21 σ x y s5 (0, s5.2)).1)) < ((x_raiseOutside_21 σ x y s5 (0, s5.2)).2) then (s5.2 / ((x_raiseOutside_21 σ x y s5 (0, s5.2)).1)) else ((x_raiseOutside_21 σ x y s5 (0, s5.2)).2)), .int s5.2]) (st := [.int s5.2]) (st2 := [.int (f_raiseEach s5.1 x (if (s5.2 / ((x_raiseOutside_21 σ x y s5 (0, s5.2)).1)) < ((x_raiseOutside_21 σ x y s5 (0, s5.2)).2) then (s5.2 / ((x_raiseOutside_21 σ x y s5 (0, s5.2)).1)) else ((x_raiseOutside_21 σ x y s5 (0, s5.2)).2)) s5.2), .int s5.2]) O (ct_X4_raiseEach hl (σ := s5.1) (x := x) (y := if (s5.2 / ((x_raiseOutside_21 σ x y s5 (0, s5.2)).1)) < ((x_raiseOutside_21 σ x y s5 (0, s5.2)).2) then (s5.2 / ((x_raiseOutside_21 σ x y s5 (0, s5.2)).1)) else ((x_raiseOutside_21 σ x y s5 (0, s5.2)).2)) (z := s5.2)) ce_X4_raiseEach ml_X4_54 iv_X4_raiseEach cl_X4 rfl (ly_1004 s5.1 h) (xx_dt dd_X4_raiseOutside 45 rfl) (by decide) rfl rfl (Nat.le_of_ble_eq_true rfl) rfl ?_
              refine sw_isub O (xx_dt dd_X4_raiseOutside 46 rfl) ?_
              refine sw_istore_n (ls2 := [.ref 1004, .int x, .int y, .int (s5.2 - (f_raiseEach s5.1 x (if (s5.2 / ((x_raiseOutside_21 σ x y s5 (0, s5.2)).1)) < ((x_raiseOutside_21 σ x y s5 (0, s5.2)).2) then (s5.2 / ((x_raiseOutside_21 σ x y s5 (0, s5.2)).1)) else ((x_raiseOutside_21 σ x y s5 (0, s5.2)).2)) s5.2)), .int (nI i5), .int ((x_raiseOutside_21 σ x y s5 (0, s5.2)).1), .int ((x_raiseOutside_21 σ x y s5 (0, s5.2)).2), .int (nI 6), xx_d]) O (xx_dt dd_X4_raiseOutside 47 rfl) (by decide) rfl ?_
              refine sw_iinc (y := nI (i5 + 1)) (ls2 := [.ref 1004, .int x, .int y, .int (s5.2 - (f_raiseEach s5.1 x (if (s5.2 / ((x_raiseOutside_21 σ x y s5 (0, s5.2)).1)) < ((x_raiseOutside_21 σ x y s5 (0, s5.2)).2) then (s5.2 / ((x_raiseOutside_21 σ x y s5 (0, s5.2)).1)) else ((x_raiseOutside_21 σ x y s5 (0, s5.2)).2)) s5.2)), .int (nI (i5 + 1)), .int ((x_raiseOutside_21 σ x y s5 (0, s5.2)).1), .int ((x_raiseOutside_21 σ x y s5 (0, s5.2)).2), .int (nI 6), xx_d]) O (xx_dt dd_X4_raiseOutside 48 rfl) rfl (nI_1 _) (by decide) rfl ?_
              refine sw_goto (tgt := 5) O (xx_dt dd_X4_raiseOutside 49 rfl) (by decide) ?_
              refine sw_dum (ls2 := [.ref 1004, .int x, .int y, .int (s5.2 - (f_raiseEach s5.1 x (if (s5.2 / ((x_raiseOutside_21 σ x y s5 (0, s5.2)).1)) < ((x_raiseOutside_21 σ x y s5 (0, s5.2)).2) then (s5.2 / ((x_raiseOutside_21 σ x y s5 (0, s5.2)).1)) else ((x_raiseOutside_21 σ x y s5 (0, s5.2)).2)) s5.2)), .int (nI (i5 + 1)), xx_d, xx_d, xx_d, xx_d]) ⟨.inr rfl, .inr rfl, .inr rfl, .inr rfl, .inr rfl, .inl rfl, .inl rfl, .inl rfl, .inr rfl, trivial⟩ ?_
              exact kk5 (g_raiseEach s5.1 x (if (s5.2 / ((x_raiseOutside_21 σ x y s5 (0, s5.2)).1)) < ((x_raiseOutside_21 σ x y s5 (0, s5.2)).2) then (s5.2 / ((x_raiseOutside_21 σ x y s5 (0, s5.2)).1)) else ((x_raiseOutside_21 σ x y s5 (0, s5.2)).2)) s5.2, s5.2 - (f_raiseEach s5.1 x (if (s5.2 / ((x_raiseOutside_21 σ x y s5 (0, s5.2)).1)) < ((x_raiseOutside_21 σ x y s5 (0, s5.2)).2) then (s5.2 / ((x_raiseOutside_21 σ x y s5 (0, s5.2)).1)) else ((x_raiseOutside_21 σ x y s5 (0, s5.2)).2)) s5.2)) (by simp only [if_neg q4, if_pos q5])
            · refine sw_goto (tgt := 98) O (xx_dt dd_X4_raiseOutside 35 rfl) (by decide) ?_
              refine sw_dum (ls2 := [.ref 1004, .int x, .int y, .int s5.2, xx_d, xx_d, xx_d, xx_d, xx_d]) ⟨.inr rfl, .inr rfl, .inr rfl, .inr rfl, .inl rfl, .inl rfl, .inl rfl, .inl rfl, .inr rfl, trivial⟩ ?_
              exact kb5 (s5.1, s5.2) (by simp only [if_neg q4, if_neg q5])
        · exact absurd (Int32.le_refl _) q2
  · show SW Y _ _ (setC s5.1 h) 5 [.ref 1004, .int x, .int y, .int s5.2, .int (nI 7), xx_d, xx_d, xx_d, xx_d] []
    refine sw_iload O (xx_dt dd_X4_raiseOutside 4 rfl) rfl ?_
    refine sw_bipush (x := 6) O (xx_dt dd_X4_raiseOutside 5 rfl) (by decide) ?_
    refine sw_icmp_gt (tgt := 98) O (xx_dt dd_X4_raiseOutside 6 rfl) (by decide) (fun q1 => ?_) (fun q1 => ?_)
    · refine sw_dum (ls2 := [.ref 1004, .int x, .int y, .int s5.2, xx_d, xx_d, xx_d, xx_d, xx_d]) ⟨.inr rfl, .inr rfl, .inr rfl, .inr rfl, .inl rfl, .inr rfl, .inr rfl, .inr rfl, .inr rfl, trivial⟩ ?_
      exact kx5
    · exact absurd (nI_lt (a := 6) (b := 7) (by omega) (by omega)) q1
  · show SW Y _ _ (setC ((x_raiseOutside_5 σ x y (σ, y)).1) h) 98 [.ref 1004, .int x, .int y, .int ((x_raiseOutside_5 σ x y (σ, y)).2), xx_d, xx_d, xx_d, xx_d, xx_d] []
    refine sw_aload_n O (xx_dt dd_X4_raiseOutside 50 rfl) rfl ?_
    refine sw_iload_n O (xx_dt dd_X4_raiseOutside 51 rfl) rfl ?_
    refine sw_iconst (x := 1) O (xx_dt dd_X4_raiseOutside 52 rfl) (by decide) ?_
    refine sw_iload_n O (xx_dt dd_X4_raiseOutside 53 rfl) rfl ?_
    refine sw_callVx (as := [.int x, .int 1, .int ((x_raiseOutside_5 σ x y (σ, y)).2)]) (st := []) (st2 := [.int (f_raiseEach ((x_raiseOutside_5 σ x y (σ, y)).1) x 1 ((x_raiseOutside_5 σ x y (σ, y)).2))]) O (ct_X4_raiseEach hl (σ := (x_raiseOutside_5 σ x y (σ, y)).1) (x := x) (y := 1) (z := (x_raiseOutside_5 σ x y (σ, y)).2)) ce_X4_raiseEach ml_X4_54 iv_X4_raiseEach cl_X4 rfl (ly_1004 ((x_raiseOutside_5 σ x y (σ, y)).1) h) (xx_dt dd_X4_raiseOutside 54 rfl) (by decide) rfl rfl (Nat.le_of_ble_eq_true rfl) rfl ?_
    refine sw_pop O (xx_dt dd_X4_raiseOutside 55 rfl) rfl ?_
    exact sw_ret O (xx_dt dd_X4_raiseOutside 56 rfl) rfl (by rw [hQ]; exact ⟨rfl, by unfold g_raiseOutside; rfl⟩)
theorem strongest_nat (σ : XS9) (h : ¬ f_strongest σ = -1) : f_strongest σ = nI (cn (f_strongest σ)) ∧ cn (f_strongest σ) < 64 := by
  have h1 : f_strongest σ = -1 ∨ ∃ S, S < 64 ∧ f_strongest σ = nI S := by
    unfold f_strongest x_strongest_7
    refine xit_inv (fun s : Int32 × Int32 => s.1 = -1 ∨ ∃ S, S < 64 ∧ s.1 = nI S) (N := 64) (fun i s hi hP => ?_) 64 0 _ rfl (.inl rfl)
    try dsimp only
    split
    · first | exact hP | exact .inr ⟨i, hi, rfl⟩
    · first | exact hP | exact .inr ⟨i, hi, rfl⟩
  rcases h1 with h1 | ⟨S, hS, h1⟩
  · exact absurd h1 h
  · rw [h1]
    have e : cn (nI S) = S := nI_clamp (by omega)
    rw [e]
    exact ⟨rfl, hS⟩
def x_find_2 (σ : XS9)  (s0 : XS9) : XS9 := xit (fun i2 s2 => u2 (u2 (u2 s2 (1131 + 0) i2 (f_amountWon s2 i2)) (1131 + 1) i2 (f_harmOf s2 i2)) (1131 + 2) i2 (f_harmOf s2 i2)) 6 0 s0
def x_find_53 (σ : XS9)  (s0 : XS9) : XS9 ⊕ XS9 := xitR (fun i53 s53 => (if (f_strongest s53) = (-1) then .inr s53 else .inl (g_raiseOutside s53 (f_strongest s53) (f_objection s53 (cn (f_strongest s53)) 2)))) 64 0 s0
def g_find (σ : XS9)  : XS9 := (match (x_find_53 σ (x_find_2 σ σ)) with | .inl s53 => s53 | .inr r53 => r53)
theorem ct_X4_find {l : Launch} {h : XH} (hl : l.stackTraces = false) {σ : XS9}  : XEx l m_X4_find 3 0 0 [.ref 1004, .ref 1003] (setC σ h) (none) (setC (g_find σ) h) := by
  refine XMet.of hl rfl rfl (Nat.le_of_ble_eq_true rfl) (fun Y O hh hQ => ?_)
  show SW Y 0 0 (setC σ h) 0 [.ref 1004, .ref 1003, xx_d, xx_d] []
  refine sw_iconst (x := 0) O (xx_dt dd_X4_find 0 rfl) (by decide) ?_
  refine sw_istore_n (ls2 := [.ref 1004, .ref 1003, .int 0, xx_d]) O (xx_dt dd_X4_find 1 rfl) (by decide) rfl ?_
  refine sw_for (fun i2 s2 => u2 (u2 (u2 s2 (1131 + 0) i2 (f_amountWon s2 i2)) (1131 + 1) i2 (f_harmOf s2 i2)) (1131 + 2) i2 (f_harmOf s2 i2)) (fun _ _ => True) (hp := fun s2 => setC s2 h) (hd := 2) (lc := fun i2 s2 => [.ref 1004, .ref 1003, .int (nI i2), xx_d]) (N := 6) (fun i2 s2 hi2 hP2 => ⟨trivial, fun kk2 => ?_⟩) 6 0 σ (by omega) (trivial) (fun hP2 => ?_)
  · refine sw_iload_n O (xx_dt dd_X4_find 2 rfl) rfl ?_
    refine sw_bipush (x := 6) O (xx_dt dd_X4_find 3 rfl) (by decide) ?_
    refine sw_icmp_ge (tgt := 51) O (xx_dt dd_X4_find 4 rfl) (by decide) (fun q1 => ?_) (fun q1 => ?_)
    · exact absurd q1 (nI_ge (b := 6) hi2 (by omega))
    · refine sw_aload_n O (xx_dt dd_X4_find 5 rfl) rfl ?_
      refine sw_iload_n O (xx_dt dd_X4_find 6 rfl) rfl ?_
      refine sw_callSx (as := [.ref 1003, .int (nI i2)]) (st := []) (st2 := [.int (f_harmOf s2 i2)]) O (ct_X4_harmOf hl (σ := s2) (i := i2) (by omega)) ce_X4_harmOf ml_X4_16 st_X4_harmOf (xx_dt dd_X4_find 7 rfl) (by decide) rfl rfl (Nat.le_of_ble_eq_true rfl) rfl ?_
      refine sw_istore_n (ls2 := [.ref 1004, .ref 1003, .int (nI i2), .int (f_harmOf s2 i2)]) O (xx_dt dd_X4_find 8 rfl) (by decide) rfl ?_
      refine sw_aload_n O (xx_dt dd_X4_find 9 rfl) rfl ?_
      refine sw_get (v := .ref 1130) O (xx_dt dd_X4_find 10 rfl) cl_X4 fl_X4_11 (ly_1004 s2 h) (by decide) rfl ?_
      refine sw_iconst (x := 0) O (xx_dt dd_X4_find 11 rfl) (by decide) ?_
      refine sw_aaload (v := .ref (1131 + 0)) O (xx_dt dd_X4_find 12 rfl) (by omega) (by omega) (ly_1130 s2 h) (by unfold vp_in; decide) rfl ?_
      refine sw_iload_n O (xx_dt dd_X4_find 13 rfl) rfl ?_
      refine sw_aload_n O (xx_dt dd_X4_find 14 rfl) rfl ?_
      refine sw_iload_n O (xx_dt dd_X4_find 15 rfl) rfl ?_
      refine sw_callVx (as := [.int (nI i2)]) (st := [.int (nI i2), .ref (1131 + 0)]) (st2 := [.int (f_amountWon s2 i2), .int (nI i2), .ref (1131 + 0)]) O (ct_X2_amountWon hl (σ := s2) (i := i2) (by omega)) ce_X2_amountWon ml_X4_20 iv_X2_amountWon cl_X2 rfl (ly_1003 s2 h) (xx_dt dd_X4_find 16 rfl) (by decide) rfl rfl (Nat.le_of_ble_eq_true rfl) rfl ?_
      refine sw_iastore (h2 := setC (u2 s2 (1131 + 0) i2 (f_amountWon s2 i2)) h) O (xx_dt dd_X4_find 17 rfl) (lr_1130 s2 h (k := 0) (by omega)) (pk_in i2 _ (by omega)) (by omega) (by rw [nI_clamp (by omega)]; exact (pr_1130 (by omega))) ?_
      refine sw_aload_n O (xx_dt dd_X4_find 18 rfl) rfl ?_
      refine sw_get (v := .ref 1130) O (xx_dt dd_X4_find 19 rfl) cl_X4 fl_X4_11 (ly_1004 (u2 s2 (1131 + 0) i2 (f_amountWon s2 i2)) h) (by decide) rfl ?_
      refine sw_iconst (x := 1) O (xx_dt dd_X4_find 20 rfl) (by decide) ?_
      refine sw_aaload (v := .ref (1131 + 1)) O (xx_dt dd_X4_find 21 rfl) (by omega) (by omega) (ly_1130 (u2 s2 (1131 + 0) i2 (f_amountWon s2 i2)) h) (by unfold vp_in; decide) rfl ?_
      refine sw_iload_n O (xx_dt dd_X4_find 22 rfl) rfl ?_
      refine sw_iload_n O (xx_dt dd_X4_find 23 rfl) rfl ?_
      refine sw_iastore (h2 := setC (u2 (u2 s2 (1131 + 0) i2 (f_amountWon s2 i2)) (1131 + 1) i2 (f_harmOf s2 i2)) h) O (xx_dt dd_X4_find 24 rfl) (lr_1130 (u2 s2 (1131 + 0) i2 (f_amountWon s2 i2)) h (k := 1) (by omega)) (pk_in i2 _ (by omega)) (by omega) (by rw [nI_clamp (by omega)]; exact (pr_1130 (by omega))) ?_
      refine sw_aload_n O (xx_dt dd_X4_find 25 rfl) rfl ?_
      refine sw_get (v := .ref 1130) O (xx_dt dd_X4_find 26 rfl) cl_X4 fl_X4_11 (ly_1004 (u2 (u2 s2 (1131 + 0) i2 (f_amountWon s2 i2)) (1131 + 1) i2 (f_harmOf s2 i2)) h) (by decide) rfl ?_
      refine sw_iconst (x := 2) O (xx_dt dd_X4_find 27 rfl) (by decide) ?_
      refine sw_aaload (v := .ref (1131 + 2)) O (xx_dt dd_X4_find 28 rfl) (by omega) (by omega) (ly_1130 (u2 (u2 s2 (1131 + 0) i2 (f_amountWon s2 i2)) (1131 + 1) i2 (f_harmOf s2 i2)) h) (by unfold vp_in; decide) rfl ?_
      refine sw_iload_n O (xx_dt dd_X4_find 29 rfl) rfl ?_
      refine sw_iload_n O (xx_dt dd_X4_find 30 rfl) rfl ?_
      refine sw_iastore (h2 := setC (u2 (u2 (u2 s2 (1131 + 0) i2 (f_amountWon s2 i2)) (1131 + 1) i2 (f_harmOf s2 i2)) (1131 + 2) i2 (f_harmOf s2 i2)) h) O (xx_dt dd_X4_find 31 rfl) (lr_1130 (u2 (u2 s2 (1131 + 0) i2 (f_amountWon s2 i2)) (1131 + 1) i2 (f_harmOf s2 i2)) h (k := 2) (by omega)) (pk_in i2 _ (by omega)) (by omega) (by rw [nI_clamp (by omega)]; exact (pr_1130 (by omega))) ?_
      refine sw_iinc (y := nI (i2 + 1)) (ls2 := [.ref 1004, .ref 1003, .int (nI (i2 + 1)), .int (f_harmOf s2 i2)]) O (xx_dt dd_X4_find 32 rfl) rfl (nI_1 _) (by decide) rfl ?_
      refine sw_goto (tgt := 2) O (xx_dt dd_X4_find 33 rfl) (by decide) ?_
      refine sw_dum (ls2 := [.ref 1004, .ref 1003, .int (nI (i2 + 1)), xx_d]) ⟨.inr rfl, .inr rfl, .inr rfl, .inl rfl, trivial⟩ ?_
      exact kk2
  · show SW Y _ _ (setC (x_find_2 σ σ) h) 2 [.ref 1004, .ref 1003, .int (nI 6), xx_d] []
    refine sw_iload_n O (xx_dt dd_X4_find 2 rfl) rfl ?_
    refine sw_bipush (x := 6) O (xx_dt dd_X4_find 3 rfl) (by decide) ?_
    refine sw_icmp_ge (tgt := 51) O (xx_dt dd_X4_find 4 rfl) (by decide) (fun q1 => ?_) (fun q1 => ?_)
    · refine sw_iconst (x := 0) O (xx_dt dd_X4_find 34 rfl) (by decide) ?_
      refine sw_istore_n (ls2 := [.ref 1004, .ref 1003, .int 0, xx_d]) O (xx_dt dd_X4_find 35 rfl) (by decide) rfl ?_
      refine sw_forR (R := XS9) (fun i53 s53 => (if (f_strongest s53) = (-1) then .inr s53 else .inl (g_raiseOutside s53 (f_strongest s53) (f_objection s53 (cn (f_strongest s53)) 2)))) (fun _ _ => True) (FR := fun r => g_find σ = r) (hp := fun s53 => setC s53 h) (hd := 53) (lc := fun i53 s53 => [.ref 1004, .ref 1003, .int (nI i53), xx_d]) (N := 64) (fun i53 s53 hi53 hP53 => ⟨fun _ _ => trivial, fun kk53 kr53 => ?_⟩) 64 0 (x_find_2 σ σ) (by omega) (trivial) (fun sN53 eN53 hP53 => ?_) (fun r53 eN53 => ?_)
      · refine sw_iload_n O (xx_dt dd_X4_find 36 rfl) rfl ?_
        refine sw_bipush (x := 64) O (xx_dt dd_X4_find 37 rfl) (by decide) ?_
        refine sw_icmp_ge (tgt := 89) O (xx_dt dd_X4_find 38 rfl) (by decide) (fun q2 => ?_) (fun q2 => ?_)
        · exact absurd q2 (nI_ge (b := 64) hi53 (by omega))
        · refine sw_aload_n O (xx_dt dd_X4_find 39 rfl) rfl ?_
          refine sw_aload_n O (xx_dt dd_X4_find 40 rfl) rfl ?_
          refine sw_callVx (as := [.ref 1003]) (st := []) (st2 := [.int (f_strongest s53)]) O (ct_X4_strongest hl (σ := s53)) ce_X4_strongest ml_X4_26 iv_X4_strongest cl_X4 rfl (ly_1004 s53 h) (xx_dt dd_X4_find 41 rfl) (by decide) rfl rfl (Nat.le_of_ble_eq_true rfl) rfl ?_
          refine sw_istore_n (ls2 := [.ref 1004, .ref 1003, .int (nI i53), .int (f_strongest s53)]) O (xx_dt dd_X4_find 42 rfl) (by decide) rfl ?_
          refine sw_iload_n O (xx_dt dd_X4_find 43 rfl) rfl ?_
          refine sw_iconst (x := (-1)) O (xx_dt dd_X4_find 44 rfl) (by decide) ?_
          refine sw_icmp_ne (tgt := 71) O (xx_dt dd_X4_find 45 rfl) (by decide) (fun q3 => ?_) (fun q3 => ?_)
          · refine sw_aload_n O (xx_dt dd_X4_find 47 rfl) rfl ?_
            refine sw_iload_n O (xx_dt dd_X4_find 48 rfl) rfl ?_
            refine sw_aload_n O (xx_dt dd_X4_find 49 rfl) rfl ?_
            refine sw_aload_n O (xx_dt dd_X4_find 50 rfl) rfl ?_
            refine sw_iload_n O (xx_dt dd_X4_find 51 rfl) rfl ?_
            refine sw_iconst (x := 2) O (xx_dt dd_X4_find 52 rfl) (by decide) ?_
            refine sw_callVx (as := [.ref 1003, .int (f_strongest s53), .int 2]) (st := [.int (f_strongest s53), .ref 1004]) (st2 := [.int (f_objection s53 (cn (f_strongest s53)) 2), .int (f_strongest s53), .ref 1004]) O (ct_X4_objection' hl (σ := s53) (x := f_strongest s53) (S := cn (f_strongest s53)) (w := 2) (strongest_nat _ (by assumption)).1 (strongest_nat _ (by assumption)).2 (by omega)) ce_X4_objection ml_X4_30 iv_X4_objection cl_X4 rfl (ly_1004 s53 h) (xx_dt dd_X4_find 53 rfl) (by decide) rfl rfl (Nat.le_of_ble_eq_true rfl) rfl ?_
            refine sw_callVx (as := [.int (f_strongest s53), .int (f_objection s53 (cn (f_strongest s53)) 2)]) (st := []) (st2 := []) O (ct_X4_raiseOutside hl (σ := s53) (x := f_strongest s53) (y := f_objection s53 (cn (f_strongest s53)) 2)) ce_X4_raiseOutside ml_X4_34 iv_X4_raiseOutside cl_X4 rfl (ly_1004 s53 h) (xx_dt dd_X4_find 54 rfl) (by decide) rfl rfl (Nat.le_of_ble_eq_true rfl) rfl ?_
            refine sw_iinc (y := nI (i53 + 1)) (ls2 := [.ref 1004, .ref 1003, .int (nI (i53 + 1)), .int (f_strongest s53)]) O (xx_dt dd_X4_find 55 rfl) rfl (nI_1 _) (by decide) rfl ?_
            refine sw_goto (tgt := 53) O (xx_dt dd_X4_find 56 rfl) (by decide) ?_
            refine sw_dum (ls2 := [.ref 1004, .ref 1003, .int (nI (i53 + 1)), xx_d]) ⟨.inr rfl, .inr rfl, .inr rfl, .inl rfl, trivial⟩ ?_
            exact kk53 (g_raiseOutside s53 (f_strongest s53) (f_objection s53 (cn (f_strongest s53)) 2)) (by simp only [if_neg q3])
          · exact sw_ret O (xx_dt dd_X4_find 46 rfl) rfl (by rw [hQ, kr53 s53 (by simp only [if_pos q3])]; exact ⟨rfl, rfl⟩)
      · show SW Y _ _ (setC sN53 h) 53 [.ref 1004, .ref 1003, .int (nI 64), xx_d] []
        refine sw_iload_n O (xx_dt dd_X4_find 36 rfl) rfl ?_
        refine sw_bipush (x := 64) O (xx_dt dd_X4_find 37 rfl) (by decide) ?_
        refine sw_icmp_ge (tgt := 89) O (xx_dt dd_X4_find 38 rfl) (by decide) (fun q2 => ?_) (fun q2 => ?_)
        · exact sw_ret O (xx_dt dd_X4_find 57 rfl) rfl (by rw [hQ]; exact ⟨rfl, by unfold g_find; simp only [x_find_53, eN53]⟩)
        · exact absurd (Int32.le_refl _) q2
      · unfold g_find; simp only [x_find_53, eN53]
    · exact absurd (Int32.le_refl _) q1
