section
/-! ===== Payments, the rest ===== -/
def f_harmOf (σ : XS9) (i : Nat) : Int32 := (if (σ 1040 i) = (-1) then 0 else (σ 1041 (bsub 63 i)) - ((σ 1041 63) - (f_amountWon σ i)))
theorem ct_X4_harmOf {l : Launch} {h : XH} (hl : l.stackTraces = false) {σ : XS9} {i : Nat} (hi : i < 6) : XEx l m_X4_harmOf 1 0 0 [.ref 1003, .int (nI i)] (setC σ h) (some (.int (f_harmOf σ i))) (setC σ h) := by
  refine XMet.of hl rfl rfl (Nat.le_of_ble_eq_true rfl) (fun Y O hh hQ => ?_)
  show SW Y 0 0 (setC σ h) 0 [.ref 1003, .int (nI i), xx_d] []
  refine sw_aload_n O (xx_dt dd_X4_harmOf 0 rfl) rfl ?_
  refine sw_get (v := .ref 1040) O (xx_dt dd_X4_harmOf 1 rfl) cl_X2 fl_X4_38 (ly_1003 σ h) (by decide) rfl ?_
  refine sw_iload_n O (xx_dt dd_X4_harmOf 2 rfl) rfl ?_
  refine sw_iaload (v := .int (σ 1040 i)) O (xx_dt dd_X4_harmOf 3 rfl) (ly_1040 σ h) (pk_in i _ (by omega)) (by rw [nI_clamp (by omega)]; try exact rfl) ?_
  refine sw_iconst (x := (-1)) O (xx_dt dd_X4_harmOf 4 rfl) (by decide) ?_
  refine sw_icmp_ne (tgt := 12) O (xx_dt dd_X4_harmOf 5 rfl) (by decide) (fun q1 => ?_) (fun q1 => ?_)
  · refine sw_aload_n O (xx_dt dd_X4_harmOf 8 rfl) rfl ?_
    refine sw_get (v := .ref 1041) O (xx_dt dd_X4_harmOf 9 rfl) cl_X2 fl_X4_42 (ly_1003 σ h) (by decide) rfl ?_
    refine sw_bipush (x := 63) O (xx_dt dd_X4_harmOf 10 rfl) (by decide) ?_
    refine sw_iaload (v := .int (σ 1041 63)) O (xx_dt dd_X4_harmOf 11 rfl) (ly_1041 σ h) (by unfold vp_in; decide) rfl ?_
    refine sw_aload_n O (xx_dt dd_X4_harmOf 12 rfl) rfl ?_
    refine sw_iload_n O (xx_dt dd_X4_harmOf 13 rfl) rfl ?_
    refine sw_callVx (as := [.int (nI i)]) (st := [.int (σ 1041 63)]) (st2 := [.int (f_amountWon σ i), .int (σ 1041 63)]) O (ct_X2_amountWon hl (σ := σ) (i := i) (by omega)) ce_X2_amountWon ml_X4_20 iv_X2_amountWon cl_X2 rfl (ly_1003 σ h) (xx_dt dd_X4_harmOf 14 rfl) (by decide) rfl rfl (Nat.le_of_ble_eq_true rfl) rfl ?_
    refine sw_isub O (xx_dt dd_X4_harmOf 15 rfl) ?_
    refine sw_istore_n (ls2 := [.ref 1003, .int (nI i), .int ((σ 1041 63) - (f_amountWon σ i))]) O (xx_dt dd_X4_harmOf 16 rfl) (by decide) rfl ?_
    refine sw_aload_n O (xx_dt dd_X4_harmOf 17 rfl) rfl ?_
    refine sw_get (v := .ref 1041) O (xx_dt dd_X4_harmOf 18 rfl) cl_X2 fl_X4_42 (ly_1003 σ h) (by decide) rfl ?_
    refine sw_bipush (x := 63) O (xx_dt dd_X4_harmOf 19 rfl) (by decide) ?_
    refine sw_iconst (x := 1) O (xx_dt dd_X4_harmOf 20 rfl) (by decide) ?_
    refine sw_iload_n O (xx_dt dd_X4_harmOf 21 rfl) rfl ?_
    refine sw_ishl O (xx_dt dd_X4_harmOf 22 rfl) ?_
    refine sw_isub O (xx_dt dd_X4_harmOf 23 rfl) ?_
    have hx35 := bsub_lt (S := 63) i (by omega)
    rw [bit_sub63 (i := i) (by omega)]
    refine sw_iaload (v := .int (σ 1041 (bsub 63 i))) O (xx_dt dd_X4_harmOf 24 rfl) (ly_1041 σ h) (pk_in (bsub 63 i) _ (by omega)) (by rw [nI_clamp (by omega)]; try exact rfl) ?_
    refine sw_iload_n O (xx_dt dd_X4_harmOf 25 rfl) rfl ?_
    refine sw_isub O (xx_dt dd_X4_harmOf 26 rfl) ?_
    exact sw_iret O (xx_dt dd_X4_harmOf 27 rfl) rfl rfl (by rw [hQ]; exact ⟨by unfold f_harmOf; simp only [if_neg q1], rfl⟩)
  · refine sw_iconst (x := 0) O (xx_dt dd_X4_harmOf 6 rfl) (by decide) ?_
    exact sw_iret O (xx_dt dd_X4_harmOf 7 rfl) rfl rfl (by rw [hQ]; exact ⟨by unfold f_harmOf; simp only [if_pos q1], rfl⟩)
theorem ct_X4_objection' {l : Launch} {h : XH} (hl : l.stackTraces = false) {σ : XS9} {x : Int32} {S w : Nat} (hx : x = nI S) (hS : S < 64) (hw : w < 3) : XEx l m_X4_objection 0 0 0 [.ref 1004, .ref 1003, .int x, .int (nI w)] (setC σ h) (some (.int (f_objection σ S w))) (setC σ h) := by
  subst hx
  exact ct_X4_objection hl hS hw
def cn (x : Int32) : Nat := x.toNatClampNeg
def x_strongest_7 (σ : XS9)  (s0 : Int32 × Int32) : Int32 × Int32 := xit (fun i7 s7 => (if (f_objection σ i7 2) ≤ s7.2 then (s7.1, s7.2) else (nI i7, f_objection σ i7 2))) 64 0 s0
def f_strongest (σ : XS9)  : Int32 := (x_strongest_7 σ ((-1), 0)).1
theorem ct_X4_strongest {l : Launch} {h : XH} (hl : l.stackTraces = false) {σ : XS9}  : XEx l m_X4_strongest 1 0 0 [.ref 1004, .ref 1003] (setC σ h) (some (.int (f_strongest σ))) (setC σ h) := by
  refine XMet.of hl rfl rfl (Nat.le_of_ble_eq_true rfl) (fun Y O hh hQ => ?_)
  show SW Y 0 0 (setC σ h) 0 [.ref 1004, .ref 1003, xx_d, xx_d, xx_d, xx_d] []
  refine sw_iconst (x := (-1)) O (xx_dt dd_X4_strongest 0 rfl) (by decide) ?_
  refine sw_istore_n (ls2 := [.ref 1004, .ref 1003, .int (-1), xx_d, xx_d, xx_d]) O (xx_dt dd_X4_strongest 1 rfl) (by decide) rfl ?_
  refine sw_iconst (x := 0) O (xx_dt dd_X4_strongest 2 rfl) (by decide) ?_
  refine sw_istore_n (ls2 := [.ref 1004, .ref 1003, .int (-1), .int 0, xx_d, xx_d]) O (xx_dt dd_X4_strongest 3 rfl) (by decide) rfl ?_
  refine sw_iconst (x := 0) O (xx_dt dd_X4_strongest 4 rfl) (by decide) ?_
  refine sw_istore (ls2 := [.ref 1004, .ref 1003, .int (-1), .int 0, .int 0, xx_d]) O (xx_dt dd_X4_strongest 5 rfl) (by decide) rfl ?_
  refine sw_for (fun i7 s7 => (if (f_objection σ i7 2) ≤ s7.2 then (s7.1, s7.2) else (nI i7, f_objection σ i7 2))) (fun _ _ => True) (hp := fun _ => setC σ h) (hd := 7) (lc := fun i7 s7 => [.ref 1004, .ref 1003, .int s7.1, .int s7.2, .int (nI i7), xx_d]) (N := 64) (fun i7 s7 hi7 hP7 => ⟨trivial, fun kk7 => ?_⟩) 64 0 ((-1), 0) (by omega) (trivial) (fun hP7 => ?_)
  · refine sw_iload O (xx_dt dd_X4_strongest 6 rfl) rfl ?_
    refine sw_bipush (x := 64) O (xx_dt dd_X4_strongest 7 rfl) (by decide) ?_
    refine sw_icmp_ge (tgt := 42) O (xx_dt dd_X4_strongest 8 rfl) (by decide) (fun q1 => ?_) (fun q1 => ?_)
    · exact absurd q1 (nI_ge (b := 64) hi7 (by omega))
    · refine sw_aload_n O (xx_dt dd_X4_strongest 9 rfl) rfl ?_
      refine sw_aload_n O (xx_dt dd_X4_strongest 10 rfl) rfl ?_
      refine sw_iload O (xx_dt dd_X4_strongest 11 rfl) rfl ?_
      refine sw_iconst (x := 2) O (xx_dt dd_X4_strongest 12 rfl) (by decide) ?_
      refine sw_callVx (as := [.ref 1003, .int (nI i7), .int 2]) (st := []) (st2 := [.int (f_objection σ i7 2)]) O (ct_X4_objection' hl (σ := σ) (x := nI i7) (S := i7) (w := 2) rfl (by omega) (by omega)) ce_X4_objection ml_X4_30 iv_X4_objection cl_X4 rfl (ly_1004 σ h) (xx_dt dd_X4_strongest 13 rfl) (by decide) rfl rfl (Nat.le_of_ble_eq_true rfl) rfl ?_
      refine sw_istore (ls2 := [.ref 1004, .ref 1003, .int s7.1, .int s7.2, .int (nI i7), .int (f_objection σ i7 2)]) O (xx_dt dd_X4_strongest 14 rfl) (by decide) rfl ?_
      refine sw_iload O (xx_dt dd_X4_strongest 15 rfl) rfl ?_
      refine sw_iload_n O (xx_dt dd_X4_strongest 16 rfl) rfl ?_
      refine sw_icmp_le (tgt := 36) O (xx_dt dd_X4_strongest 17 rfl) (by decide) (fun q2 => ?_) (fun q2 => ?_)
      · refine sw_iinc (y := nI (i7 + 1)) (ls2 := [.ref 1004, .ref 1003, .int s7.1, .int s7.2, .int (nI (i7 + 1)), .int (f_objection σ i7 2)]) O (xx_dt dd_X4_strongest 22 rfl) rfl (nI_1 _) (by decide) rfl ?_
        refine sw_goto (tgt := 7) O (xx_dt dd_X4_strongest 23 rfl) (by decide) ?_
        refine sw_dum (ls2 := [.ref 1004, .ref 1003, .int s7.1, .int s7.2, .int (nI (i7 + 1)), xx_d]) ⟨.inr rfl, .inr rfl, .inr rfl, .inr rfl, .inr rfl, .inl rfl, trivial⟩ ?_
        simp only [if_pos q2] at kk7
        exact kk7
      · refine sw_iload O (xx_dt dd_X4_strongest 18 rfl) rfl ?_
        refine sw_istore_n (ls2 := [.ref 1004, .ref 1003, .int (nI i7), .int s7.2, .int (nI i7), .int (f_objection σ i7 2)]) O (xx_dt dd_X4_strongest 19 rfl) (by decide) rfl ?_
        refine sw_iload O (xx_dt dd_X4_strongest 20 rfl) rfl ?_
        refine sw_istore_n (ls2 := [.ref 1004, .ref 1003, .int (nI i7), .int (f_objection σ i7 2), .int (nI i7), .int (f_objection σ i7 2)]) O (xx_dt dd_X4_strongest 21 rfl) (by decide) rfl ?_
        refine sw_iinc (y := nI (i7 + 1)) (ls2 := [.ref 1004, .ref 1003, .int (nI i7), .int (f_objection σ i7 2), .int (nI (i7 + 1)), .int (f_objection σ i7 2)]) O (xx_dt dd_X4_strongest 22 rfl) rfl (nI_1 _) (by decide) rfl ?_
        refine sw_goto (tgt := 7) O (xx_dt dd_X4_strongest 23 rfl) (by decide) ?_
        refine sw_dum (ls2 := [.ref 1004, .ref 1003, .int (nI i7), .int (f_objection σ i7 2), .int (nI (i7 + 1)), xx_d]) ⟨.inr rfl, .inr rfl, .inr rfl, .inr rfl, .inr rfl, .inl rfl, trivial⟩ ?_
        simp only [if_neg q2] at kk7
        exact kk7
  · show SW Y _ _ (setC σ h) 7 [.ref 1004, .ref 1003, .int ((x_strongest_7 σ ((-1), 0)).1), .int ((x_strongest_7 σ ((-1), 0)).2), .int (nI 64), xx_d] []
    refine sw_iload O (xx_dt dd_X4_strongest 6 rfl) rfl ?_
    refine sw_bipush (x := 64) O (xx_dt dd_X4_strongest 7 rfl) (by decide) ?_
    refine sw_icmp_ge (tgt := 42) O (xx_dt dd_X4_strongest 8 rfl) (by decide) (fun q1 => ?_) (fun q1 => ?_)
    · refine sw_iload_n O (xx_dt dd_X4_strongest 24 rfl) rfl ?_
      exact sw_iret O (xx_dt dd_X4_strongest 25 rfl) rfl rfl (by rw [hQ]; exact ⟨by unfold f_strongest; rfl, rfl⟩)
    · exact absurd (Int32.le_refl _) q1
def x_raiseOutside_21 (σ : XS9) (x y : Int32) (s5 : XS9 × Int32) (s0 : Int32 × Int32) : Int32 × Int32 := xit (fun i21 s21 => (if (f_roomOutside s5.1 x i21) ≤ 0 then (s21.1, s21.2) else (s21.1 + 1, if (f_roomOutside s5.1 x i21) < s21.2 then (f_roomOutside s5.1 x i21) else s21.2))) 6 0 s0
def x_raiseOutside_5 (σ : XS9) (x y : Int32) (s0 : XS9 × Int32) : XS9 × Int32 := xitB (fun i5 s5 => (if ((x_raiseOutside_21 σ x y s5 (0, s5.2)).1) = 0 then .inr (s5.1, s5.2) else (if ((x_raiseOutside_21 σ x y s5 (0, s5.2)).1) ≤ s5.2 then .inl (g_raiseEach s5.1 x (if (s5.2 / ((x_raiseOutside_21 σ x y s5 (0, s5.2)).1)) < ((x_raiseOutside_21 σ x y s5 (0, s5.2)).2) then (s5.2 / ((x_raiseOutside_21 σ x y s5 (0, s5.2)).1)) else ((x_raiseOutside_21 σ x y s5 (0, s5.2)).2)) s5.2, s5.2 - (f_raiseEach s5.1 x (if (s5.2 / ((x_raiseOutside_21 σ x y s5 (0, s5.2)).1)) < ((x_raiseOutside_21 σ x y s5 (0, s5.2)).2) then (s5.2 / ((x_raiseOutside_21 σ x y s5 (0, s5.2)).1)) else ((x_raiseOutside_21 σ x y s5 (0, s5.2)).2)) s5.2)) else .inr (s5.1, s5.2)))) 7 0 s0
def g_raiseOutside (σ : XS9) (x y : Int32) : XS9 := g_raiseEach ((x_raiseOutside_5 σ x y (σ, y)).1) x 1 ((x_raiseOutside_5 σ x y (σ, y)).2)
theorem ct_X4_raiseOutside {l : Launch} {h : XH} (hl : l.stackTraces = false) {σ : XS9} {x y : Int32} : XEx l m_X4_raiseOutside 2 0 0 [.ref 1004, .int x, .int y] (setC σ h) (none) (setC (g_raiseOutside σ x y) h) := by
  refine XMet.of hl rfl rfl (Nat.le_of_ble_eq_true rfl) (fun Y O hh hQ => ?_)
  show SW Y 0 0 (setC σ h) 0 [.ref 1004, .int x, .int y, xx_d, xx_d, xx_d, xx_d, xx_d, xx_d] []
  refine sw_iload_n O (xx_dt dd_X4_raiseOutside 0 rfl) rfl ?_
  refine sw_istore_n (ls2 := [.ref 1004, .int x, .int y, .int y, xx_d, xx_d, xx_d, xx_d, xx_d]) O (xx_dt dd_X4_raiseOutside 1 rfl) (by decide) rfl ?_
  refine sw_iconst (x := 0) O (xx_dt dd_X4_raiseOutside 2 rfl) (by decide) ?_
  refine sw_istore (ls2 := [.ref 1004, .int x, .int y, .int y, .int 0, xx_d, xx_d, xx_d, xx_d]) O (xx_dt dd_X4_raiseOutside 3 rfl) (by decide) rfl ?_
  refine sw_forB (fun i5 s5 => (if ((x_raiseOutside_21 σ x y s5 (0, s5.2)).1) = 0 then .inr (s5.1, s5.2) else (if ((x_raiseOutside_21 σ x y s5 (0, s5.2)).1) ≤ s5.2 then .inl (g_raiseEach s5.1 x (if (s5.2 / ((x_raiseOutside_21 σ x y s5 (0, s5.2)).1)) < ((x_raiseOutside_21 σ x y s5 (0, s5.2)).2) then (s5.2 / ((x_raiseOutside_21 σ x y s5 (0, s5.2)).1)) else ((x_raiseOutside_21 σ x y s5 (0, s5.2)).2)) s5.2, s5.2 - (f_raiseEach s5.1 x (if (s5.2 / ((x_raiseOutside_21 σ x y s5 (0, s5.2)).1)) < ((x_raiseOutside_21 σ x y s5 (0, s5.2)).2) then (s5.2 / ((x_raiseOutside_21 σ x y s5 (0, s5.2)).1)) else ((x_raiseOutside_21 σ x y s5 (0, s5.2)).2)) s5.2)) else .inr (s5.1, s5.2)))) (fun _ _ => True) (fun _ => True) (hp := fun s5 => setC s5.1 h) (hd := 5) (lc := fun i5 s5 => [.ref 1004, .int x, .int y, .int s5.2, .int (nI i5), xx_d, xx_d, xx_d, xx_d]) (ex := 98) (lx := fun s5 => [.ref 1004, .int x, .int y, .int s5.2, xx_d, xx_d, xx_d, xx_d, xx_d]) (N := 7) (fun i5 s5 hi5 hP5 => ⟨⟨(fun _ _ => trivial), (fun _ _ => trivial)⟩, fun kk5 kb5 => ?_⟩) (fun s5 hP5 => ⟨hP5, fun kx5 => ?_⟩) 7 0 (σ, y) (by omega) (trivial) (fun hP5 => ?_)
  · refine sw_iload O (xx_dt dd_X4_raiseOutside 4 rfl) rfl ?_
    refine sw_bipush (x := 6) O (xx_dt dd_X4_raiseOutside 5 rfl) (by decide) ?_
    refine sw_icmp_gt (tgt := 98) O (xx_dt dd_X4_raiseOutside 6 rfl) (by decide) (fun q1 => ?_) (fun q1 => ?_)
    · exact absurd ((nI_ltI (a := 6) (b := i5) (by omega) (by omega)).mp q1) (by omega)
    · refine sw_iconst (x := 0) O (xx_dt dd_X4_raiseOutside 7 rfl) (by decide) ?_
      refine sw_istore (ls2 := [.ref 1004, .int x, .int y, .int s5.2, .int (nI i5), .int 0, xx_d, xx_d, xx_d]) O (xx_dt dd_X4_raiseOutside 8 rfl) (by decide) rfl ?_
      refine sw_iload_n O (xx_dt dd_X4_raiseOutside 9 rfl) rfl ?_
      refine sw_istore (ls2 := [.ref 1004, .int x, .int y, .int s5.2, .int (nI i5), .int 0, .int s5.2, xx_d, xx_d]) O (xx_dt dd_X4_raiseOutside 10 rfl) (by decide) rfl ?_
      refine sw_iconst (x := 0) O (xx_dt dd_X4_raiseOutside 11 rfl) (by decide) ?_
      refine sw_istore (ls2 := [.ref 1004, .int x, .int y, .int s5.2, .int (nI i5), .int 0, .int s5.2, .int 0, xx_d]) O (xx_dt dd_X4_raiseOutside 12 rfl) (by decide) rfl ?_
      refine sw_for (fun i21 s21 => (if (f_roomOutside s5.1 x i21) ≤ 0 then (s21.1, s21.2) else (s21.1 + 1, if (f_roomOutside s5.1 x i21) < s21.2 then (f_roomOutside s5.1 x i21) else s21.2))) (fun _ _ => True) (hp := fun _ => setC s5.1 h) (hd := 21) (lc := fun i21 s21 => [.ref 1004, .int x, .int y, .int s5.2, .int (nI i5), .int s21.1, .int s21.2, .int (nI i21), xx_d]) (N := 6) (fun i21 s21 hi21 hP21 => ⟨trivial, fun kk21 => ?_⟩) 6 0 (0, s5.2) (by omega) (trivial) (fun hP21 => ?_)
      · refine sw_iload O (xx_dt dd_X4_raiseOutside 13 rfl) rfl ?_
        refine sw_bipush (x := 6) O (xx_dt dd_X4_raiseOutside 14 rfl) (by decide) ?_
        refine sw_icmp_ge (tgt := 60) O (xx_dt dd_X4_raiseOutside 15 rfl) (by decide) (fun q2 => ?_) (fun q2 => ?_)
        · exact absurd q2 (nI_ge (b := 6) hi21 (by omega))
        · refine sw_aload_n O (xx_dt dd_X4_raiseOutside 16 rfl) rfl ?_
          refine sw_iload_n O (xx_dt dd_X4_raiseOutside 17 rfl) rfl ?_
          refine sw_iload O (xx_dt dd_X4_raiseOutside 18 rfl) rfl ?_
          refine sw_callVx (as := [.int x, .int (nI i21)]) (st := []) (st2 := [.int (f_roomOutside s5.1 x i21)]) O (ct_X4_roomOutside hl (σ := s5.1) (x := x) (i := i21) (by omega)) ce_X4_roomOutside ml_X4_45 iv_X4_roomOutside cl_X4 rfl (ly_1004 s5.1 h) (xx_dt dd_X4_raiseOutside 19 rfl) (by decide) rfl rfl (Nat.le_of_ble_eq_true rfl) rfl ?_
          refine sw_istore (ls2 := [.ref 1004, .int x, .int y, .int s5.2, .int (nI i5), .int s21.1, .int s21.2, .int (nI i21), .int (f_roomOutside s5.1 x i21)]) O (xx_dt dd_X4_raiseOutside 20 rfl) (by decide) rfl ?_
          refine sw_iload O (xx_dt dd_X4_raiseOutside 21 rfl) rfl ?_
          refine sw_if_le (tgt := 54) O (xx_dt dd_X4_raiseOutside 22 rfl) (by decide) (fun q3 => ?_) (fun q3 => ?_)
          · refine sw_iinc (y := nI (i21 + 1)) (ls2 := [.ref 1004, .int x, .int y, .int s5.2, .int (nI i5), .int s21.1, .int s21.2, .int (nI (i21 + 1)), .int (f_roomOutside s5.1 x i21)]) O (xx_dt dd_X4_raiseOutside 28 rfl) rfl (nI_1 _) (by decide) rfl ?_
            refine sw_goto (tgt := 21) O (xx_dt dd_X4_raiseOutside 29 rfl) (by decide) ?_
            refine sw_dum (ls2 := [.ref 1004, .int x, .int y, .int s5.2, .int (nI i5), .int s21.1, .int s21.2, .int (nI (i21 + 1)), xx_d]) ⟨.inr rfl, .inr rfl, .inr rfl, .inr rfl, .inr rfl, .inr rfl, .inr rfl, .inr rfl, .inl rfl, trivial⟩ ?_
            simp only [if_pos q3] at kk21
            exact kk21
          · refine sw_iinc (y := s21.1 + 1) (ls2 := [.ref 1004, .int x, .int y, .int s5.2, .int (nI i5), .int (s21.1 + 1), .int s21.2, .int (nI i21), .int (f_roomOutside s5.1 x i21)]) O (xx_dt dd_X4_raiseOutside 23 rfl) rfl rfl (by decide) rfl ?_
            refine sw_iload O (xx_dt dd_X4_raiseOutside 24 rfl) rfl ?_
            refine sw_iload O (xx_dt dd_X4_raiseOutside 25 rfl) rfl ?_
            refine sw_min O mm_X4_49 (xx_dt dd_X4_raiseOutside 26 rfl) (by omega) (Nat.le_of_ble_eq_true rfl) ?_
            refine sw_istore (ls2 := [.ref 1004, .int x, .int y, .int s5.2, .int (nI i5), .int (s21.1 + 1), .int (if (f_roomOutside s5.1 x i21) < s21.2 then (f_roomOutside s5.1 x i21) else s21.2), .int (nI i21), .int (f_roomOutside s5.1 x i21)]) O (xx_dt dd_X4_raiseOutside 27 rfl) (by decide) rfl ?_
            refine sw_iinc (y := nI (i21 + 1)) (ls2 := [.ref 1004, .int x, .int y, .int s5.2, .int (nI i5), .int (s21.1 + 1), .int (if (f_roomOutside s5.1 x i21) < s21.2 then (f_roomOutside s5.1 x i21) else s21.2), .int (nI (i21 + 1)), .int (f_roomOutside s5.1 x i21)]) O (xx_dt dd_X4_raiseOutside 28 rfl) rfl (nI_1 _) (by decide) rfl ?_
            refine sw_goto (tgt := 21) O (xx_dt dd_X4_raiseOutside 29 rfl) (by decide) ?_
            refine sw_dum (ls2 := [.ref 1004, .int x, .int y, .int s5.2, .int (nI i5), .int (s21.1 + 1), .int (if (f_roomOutside s5.1 x i21) < s21.2 then (f_roomOutside s5.1 x i21) else s21.2), .int (nI (i21 + 1)), xx_d]) ⟨.inr rfl, .inr rfl, .inr rfl, .inr rfl, .inr rfl, .inr rfl, .inr rfl, .inr rfl, .inl rfl, trivial⟩ ?_
            simp only [if_neg q3] at kk21
            exact kk21
      · show SW Y _ _ (setC s5.1 h) 21 [.ref 1004, .int x, .int y, .int s5.2, .int (nI i5), .int ((x_raiseOutside_21 σ x y s5 (0, s5.2)).1), .int ((x_raiseOutside_21 σ x y s5 (0, s5.2)).2), .int (nI 6), xx_d] []
        refine sw_iload O (xx_dt dd_X4_raiseOutside 13 rfl) rfl ?_
        refine sw_bipush (x := 6) O (xx_dt dd_X4_raiseOutside 14 rfl) (by decide) ?_
        refine sw_icmp_ge (tgt := 60) O (xx_dt dd_X4_raiseOutside 15 rfl) (by decide) (fun q2 => ?_) (fun q2 => ?_)
        · refine sw_iload O (xx_dt dd_X4_raiseOutside 30 rfl) rfl ?_
          refine sw_if_eq (tgt := 98) O (xx_dt dd_X4_raiseOutside 31 rfl) (by decide) (fun q4 => ?_) (fun q4 => ?_)
          · refine sw_dum (ls2 := [.ref 1004, .int x, .int y, .int s5.2, xx_d, xx_d, xx_d, xx_d, xx_d]) ⟨.inr rfl, .inr rfl, .inr rfl, .inr rfl, .inl rfl, .inl rfl, .inl rfl, .inl rfl, .inr rfl, trivial⟩ ?_
            exact kb5 (s5.1, s5.2) (by simp only [if_pos q4])
          · refine sw_iload_n O (xx_dt dd_X4_raiseOutside 32 rfl) rfl ?_
            refine sw_iload O (xx_dt dd_X4_raiseOutside 33 rfl) rfl ?_
            refine sw_icmp_ge (tgt := 74) O (xx_dt dd_X4_raiseOutside 34 rfl) (by decide) (fun q5 => ?_) (fun q5 => ?_)
            · refine sw_iload_n O (xx_dt dd_X4_raiseOutside 36 rfl) rfl ?_
              refine sw_aload_n O (xx_dt dd_X4_raiseOutside 37 rfl) rfl ?_
              refine sw_iload_n O (xx_dt dd_X4_raiseOutside 38 rfl) rfl ?_
              refine sw_iload O (xx_dt dd_X4_raiseOutside 39 rfl) rfl ?_
              refine sw_iload_n O (xx_dt dd_X4_raiseOutside 40 rfl) rfl ?_
              refine sw_iload O (xx_dt dd_X4_raiseOutside 41 rfl) rfl ?_
              refine sw_idiv O (xx_dt dd_X4_raiseOutside 42 rfl) (by first | decide | assumption) ?_
              refine sw_min O mm_X4_49 (xx_dt dd_X4_raiseOutside 43 rfl) (by omega) (Nat.le_of_ble_eq_true rfl) ?_
              refine sw_iload_n O (xx_dt dd_X4_raiseOutside 44 rfl) rfl ?_
              refine sw_callVx (as := [.int x, .int (if (s5.2 / ((x_raiseOutside_21 σ x y s5 (0, s5.2)).1)) < ((x_raiseOutside_21 σ x y s5 (0, s5.2)).2) then (s5.2 / ((x_raiseOutside_21 σ x y s5 (0, s5.2)).1)) else ((x_raiseOutside_21 σ x y s5 (0, s5.2)).2)), .int s5.2]) (st := [.int s5.2]) (st2 := [.int (f_raiseEach s5.1 x (if (s5.2 / ((x_raiseOutside_21 σ x y s5 (0, s5.2)).1)) < ((x_raiseOutside_21 σ x y s5 (0, s5.2)).2) then (s5.2 / ((x_raiseOutside_21 σ x y s5 (0, s5.2)).1)) else ((x_raiseOutside_21 σ x y s5 (0, s5.2)).2)) s5.2), .int s5.2]) O (ct_X4_raiseEach hl (σ := s5.1) (x := x) (y := if (s5.2 / ((x_raiseOutside_21 σ x y s5 (0, s5.2)).1)) < ((x_raiseOutside_21 σ x y s5 (0, s5.2)).2) then (s5.2 / ((x_raiseOutside_21 σ x y s5 (0, s5.2)).1)) else ((x_raiseOutside_21 σ x y s5 (0, s5.2)).2)) (z := s5.2)) ce_X4_raiseEach ml_X4_54 iv_X4_raiseEach cl_X4 rfl (ly_1004 s5.1 h) (xx_dt dd_X4_raiseOutside 45 rfl) (by decide) rfl rfl (Nat.le_of_ble_eq_true rfl) rfl ?_
              refine sw_isub O (xx_dt dd_X4_raiseOutside 46 rfl) ?_
              refine sw_istore_n (ls2 := [.ref 1004, .int x, .int y, .int (s5.2 - (f_raiseEach s5.1 x (if (s5.2 / ((x_raiseOutside_21 σ x y s5 (0, s5.2)).1)) < ((x_raiseOutside_21 σ x y s5 (0, s5.2)).2) then (s5.2 / ((x_raiseOutside_21 σ x y s5 (0, s5.2)).1)) else ((x_raiseOutside_21 σ x y s5 (0, s5.2)).2)) s5.2)), .int (nI i5), .int ((x_raiseOutside_21 σ x y s5 (0, s5.2)).1), .int ((x_raiseOutside_21 σ x y s5 (0, s5.2)).2), .int (nI 6), xx_d]) O (xx_dt dd_X4_raiseOutside 47 rfl) (by decide) rfl ?_
              refine sw_iinc (y := nI (i5 + 1)) (ls2 := [.ref 1004, .int x, .int y, .int (s5.2 - (f_raiseEach s5.1 x (if (s5.2 / ((x_raiseOutside_21 σ x y s5 (0, s5.2)).1)) < ((x_raiseOutside_21 σ x y s5 (0, s5.2)).2) then (s5.2 / ((x_raiseOutside_21 σ x y s5 (0, s5.2)).1)) else ((x_raiseOutside_21 σ x y s5 (0, s5.2)).2)) s5.2)), .int (nI (i5 + 1)), .int ((x_raiseOutside_21 σ x y s5 (0, s5.2)).1), .int ((x_raiseOutside_21 σ x y s5 (0, s5.2)).2), .int (nI 6), xx_d]) O (xx_dt dd_X4_raiseOutside 48 rfl) rfl (nI_1 _) (by decide) rfl ?_
              refine sw_goto (tgt := 5) O (xx_dt dd_X4_raiseOutside 49 rfl) (by decide) ?_
              refine sw_dum (ls2 := [.ref 1004, .int x, .int y, .int (s5.2 - (f_raiseEach s5.1 x (if (s5.2 / ((x_raiseOutside_21 σ x y s5 (0, s5.2)).1)) < ((x_raiseOutside_21 σ x y s5 (0, s5.2)).2) then (s5.2 / ((x_raiseOutside_21 σ x y s5 (0, s5.2)).1)) else ((x_raiseOutside_21 σ x y s5 (0, s5.2)).2)) s5.2)), .int (nI (i5 + 1)), xx_d, xx_d, xx_d, xx_d]) ⟨.inr rfl, .inr rfl, .inr rfl, .inr rfl, .inr rfl, .inl rfl, .inl rfl, .inl rfl, .inr rfl, trivial⟩ ?_
              exact kk5 (g_raiseEach s5.1 x (if (s5.2 / ((x_raiseOutside_21 σ x y s5 (0, s5.2)).1)) < ((x_raiseOutside_21 σ x y s5 (0, s5.2)).2) then (s5.2 / ((x_raiseOutside_21 σ x y s5 (0, s5.2)).1)) else ((x_raiseOutside_21 σ x y s5 (0, s5.2)).2)) s5.2, s5.2 - (f_raiseEach s5.1 x (if (s5.2 / ((x_raiseOutside_21 σ x y s5 (0, s5.2)).1)) < ((x_raiseOutside_21 σ x y s5 (0, s5.2)).2) then (s5.2 / ((x_raiseOutside_21 σ x y s5 (0, s5.2)).1)) else ((x_raiseOutside_21 σ x y s5 (0, s5.2)).2)) s5.2)) (by simp only [if_neg q4, if_pos q5])
            · refine sw_goto (tgt := 98) O (xx_dt dd_X4_raiseOutside 35 rfl) (by decide) ?_
              refine sw_dum (ls2 := [.ref 1004, .int x, .int y, .int s5.2, xx_d, xx_d, xx_d, xx_d, xx_d]) ⟨.inr rfl, .inr rfl, .inr rfl, .inr rfl, .inl rfl, .inl rfl, .inl rfl, .inl rfl, .inr rfl, trivial⟩ ?_
              exact kb5 (s5.1, s5.2) (by simp only [if_neg q4, if_neg q5])
        · exact absurd (Int32.le_refl _) q2
  · show SW Y _ _ (setC s5.1 h) 5 [.ref 1004, .int x, .int y, .int s5.2, .int (nI 7), xx_d, xx_d, xx_d, xx_d] []
    refine sw_iload O (xx_dt dd_X4_raiseOutside 4 rfl) rfl ?_
    refine sw_bipush (x := 6) O (xx_dt dd_X4_raiseOutside 5 rfl) (by decide) ?_
    refine sw_icmp_gt (tgt := 98) O (xx_dt dd_X4_raiseOutside 6 rfl) (by decide) (fun q1 => ?_) (fun q1 => ?_)
    · refine sw_dum (ls2 := [.ref 1004, .int x, .int y, .int s5.2, xx_d, xx_d, xx_d, xx_d, xx_d]) ⟨.inr rfl, .inr rfl, .inr rfl, .inr rfl, .inl rfl, .inr rfl, .inr rfl, .inr rfl, .inr rfl, trivial⟩ ?_
      exact kx5
    · exact absurd (nI_lt (a := 6) (b := 7) (by omega) (by omega)) q1
  · show SW Y _ _ (setC ((x_raiseOutside_5 σ x y (σ, y)).1) h) 98 [.ref 1004, .int x, .int y, .int ((x_raiseOutside_5 σ x y (σ, y)).2), xx_d, xx_d, xx_d, xx_d, xx_d] []
    refine sw_aload_n O (xx_dt dd_X4_raiseOutside 50 rfl) rfl ?_
    refine sw_iload_n O (xx_dt dd_X4_raiseOutside 51 rfl) rfl ?_
    refine sw_iconst (x := 1) O (xx_dt dd_X4_raiseOutside 52 rfl) (by decide) ?_
    refine sw_iload_n O (xx_dt dd_X4_raiseOutside 53 rfl) rfl ?_
    refine sw_callVx (as := [.int x, .int 1, .int ((x_raiseOutside_5 σ x y (σ, y)).2)]) (st := []) (st2 := [.int (f_raiseEach ((x_raiseOutside_5 σ x y (σ, y)).1) x 1 ((x_raiseOutside_5 σ x y (σ, y)).2))]) O (ct_X4_raiseEach hl (σ := (x_raiseOutside_5 σ x y (σ, y)).1) (x := x) (y := 1) (z := (x_raiseOutside_5 σ x y (σ, y)).2)) ce_X4_raiseEach ml_X4_54 iv_X4_raiseEach cl_X4 rfl (ly_1004 ((x_raiseOutside_5 σ x y (σ, y)).1) h) (xx_dt dd_X4_raiseOutside 54 rfl) (by decide) rfl rfl (Nat.le_of_ble_eq_true rfl) rfl ?_
    refine sw_pop O (xx_dt dd_X4_raiseOutside 55 rfl) rfl ?_
    exact sw_ret O (xx_dt dd_X4_raiseOutside 56 rfl) rfl (by rw [hQ]; exact ⟨rfl, by unfold g_raiseOutside; rfl⟩)
theorem strongest_nat (σ : XS9) (h : ¬ f_strongest σ = -1) : f_strongest σ = nI (cn (f_strongest σ)) ∧ cn (f_strongest σ) < 64 := by
  have h1 : f_strongest σ = -1 ∨ ∃ S, S < 64 ∧ f_strongest σ = nI S := by
    unfold f_strongest x_strongest_7
    refine xit_inv (fun s : Int32 × Int32 => s.1 = -1 ∨ ∃ S, S < 64 ∧ s.1 = nI S) (N := 64) (fun i s hi hP => ?_) 64 0 _ rfl (.inl rfl)
    try dsimp only
    split
    · first | exact hP | exact .inr ⟨i, hi, rfl⟩
    · first | exact hP | exact .inr ⟨i, hi, rfl⟩
  rcases h1 with h1 | ⟨S, hS, h1⟩
  · exact absurd h1 h
  · rw [h1]
    have e : cn (nI S) = S := nI_clamp (by omega)
    rw [e]
    exact ⟨rfl, hS⟩
def x_find_2 (σ : XS9)  (s0 : XS9) : XS9 := xit (fun i2 s2 => u2 (u2 (u2 s2 (1131 + 0) i2 (f_amountWon s2 i2)) (1131 + 1) i2 (f_harmOf s2 i2)) (1131 + 2) i2 (f_harmOf s2 i2)) 6 0 s0
def x_find_53 (σ : XS9)  (s0 : XS9) : XS9 ⊕ XS9 := xitR (fun i53 s53 => (if (f_strongest s53) = (-1) then .inr s53 else .inl (g_raiseOutside s53 (f_strongest s53) (f_objection s53 (cn (f_strongest s53)) 2)))) 64 0 s0
def g_find (σ : XS9)  : XS9 := (match (x_find_53 σ (x_find_2 σ σ)) with | .inl s53 => s53 | .inr r53 => r53)
theorem ct_X4_find {l : Launch} {h : XH} (hl : l.stackTraces = false) {σ : XS9}  : XEx l m_X4_find 3 0 0 [.ref 1004, .ref 1003] (setC σ h) (none) (setC (g_find σ) h) := by
  refine XMet.of hl rfl rfl (Nat.le_of_ble_eq_true rfl) (fun Y O hh hQ => ?_)
  show SW Y 0 0 (setC σ h) 0 [.ref 1004, .ref 1003, xx_d, xx_d] []
  refine sw_iconst (x := 0) O (xx_dt dd_X4_find 0 rfl) (by decide) ?_
  refine sw_istore_n (ls2 := [.ref 1004, .ref 1003, .int 0, xx_d]) O (xx_dt dd_X4_find 1 rfl) (by decide) rfl ?_
  refine sw_for (fun i2 s2 => u2 (u2 (u2 s2 (1131 + 0) i2 (f_amountWon s2 i2)) (1131 + 1) i2 (f_harmOf s2 i2)) (1131 + 2) i2 (f_harmOf s2 i2)) (fun _ _ => True) (hp := fun s2 => setC s2 h) (hd := 2) (lc := fun i2 s2 => [.ref 1004, .ref 1003, .int (nI i2), xx_d]) (N := 6) (fun i2 s2 hi2 hP2 => ⟨trivial, fun kk2 => ?_⟩) 6 0 σ (by omega) (trivial) (fun hP2 => ?_)
  · refine sw_iload_n O (xx_dt dd_X4_find 2 rfl) rfl ?_
    refine sw_bipush (x := 6) O (xx_dt dd_X4_find 3 rfl) (by decide) ?_
    refine sw_icmp_ge (tgt := 51) O (xx_dt dd_X4_find 4 rfl) (by decide) (fun q1 => ?_) (fun q1 => ?_)
    · exact absurd q1 (nI_ge (b := 6) hi2 (by omega))
    · refine sw_aload_n O (xx_dt dd_X4_find 5 rfl) rfl ?_
      refine sw_iload_n O (xx_dt dd_X4_find 6 rfl) rfl ?_
      refine sw_callSx (as := [.ref 1003, .int (nI i2)]) (st := []) (st2 := [.int (f_harmOf s2 i2)]) O (ct_X4_harmOf hl (σ := s2) (i := i2) (by omega)) ce_X4_harmOf ml_X4_16 st_X4_harmOf (xx_dt dd_X4_find 7 rfl) (by decide) rfl rfl (Nat.le_of_ble_eq_true rfl) rfl ?_
      refine sw_istore_n (ls2 := [.ref 1004, .ref 1003, .int (nI i2), .int (f_harmOf s2 i2)]) O (xx_dt dd_X4_find 8 rfl) (by decide) rfl ?_
      refine sw_aload_n O (xx_dt dd_X4_find 9 rfl) rfl ?_
      refine sw_get (v := .ref 1130) O (xx_dt dd_X4_find 10 rfl) cl_X4 fl_X4_11 (ly_1004 s2 h) (by decide) rfl ?_
      refine sw_iconst (x := 0) O (xx_dt dd_X4_find 11 rfl) (by decide) ?_
      refine sw_aaload (v := .ref (1131 + 0)) O (xx_dt dd_X4_find 12 rfl) (by omega) (by omega) (ly_1130 s2 h) (by unfold vp_in; decide) rfl ?_
      refine sw_iload_n O (xx_dt dd_X4_find 13 rfl) rfl ?_
      refine sw_aload_n O (xx_dt dd_X4_find 14 rfl) rfl ?_
      refine sw_iload_n O (xx_dt dd_X4_find 15 rfl) rfl ?_
      refine sw_callVx (as := [.int (nI i2)]) (st := [.int (nI i2), .ref (1131 + 0)]) (st2 := [.int (f_amountWon s2 i2), .int (nI i2), .ref (1131 + 0)]) O (ct_X2_amountWon hl (σ := s2) (i := i2) (by omega)) ce_X2_amountWon ml_X4_20 iv_X2_amountWon cl_X2 rfl (ly_1003 s2 h) (xx_dt dd_X4_find 16 rfl) (by decide) rfl rfl (Nat.le_of_ble_eq_true rfl) rfl ?_
      refine sw_iastore (h2 := setC (u2 s2 (1131 + 0) i2 (f_amountWon s2 i2)) h) O (xx_dt dd_X4_find 17 rfl) (lr_1130 s2 h (k := 0) (by omega)) (pk_in i2 _ (by omega)) (by omega) (by rw [nI_clamp (by omega)]; exact (pr_1130 (by omega))) ?_
      refine sw_aload_n O (xx_dt dd_X4_find 18 rfl) rfl ?_
      refine sw_get (v := .ref 1130) O (xx_dt dd_X4_find 19 rfl) cl_X4 fl_X4_11 (ly_1004 (u2 s2 (1131 + 0) i2 (f_amountWon s2 i2)) h) (by decide) rfl ?_
      refine sw_iconst (x := 1) O (xx_dt dd_X4_find 20 rfl) (by decide) ?_
      refine sw_aaload (v := .ref (1131 + 1)) O (xx_dt dd_X4_find 21 rfl) (by omega) (by omega) (ly_1130 (u2 s2 (1131 + 0) i2 (f_amountWon s2 i2)) h) (by unfold vp_in; decide) rfl ?_
      refine sw_iload_n O (xx_dt dd_X4_find 22 rfl) rfl ?_
      refine sw_iload_n O (xx_dt dd_X4_find 23 rfl) rfl ?_
      refine sw_iastore (h2 := setC (u2 (u2 s2 (1131 + 0) i2 (f_amountWon s2 i2)) (1131 + 1) i2 (f_harmOf s2 i2)) h) O (xx_dt dd_X4_find 24 rfl) (lr_1130 (u2 s2 (1131 + 0) i2 (f_amountWon s2 i2)) h (k := 1) (by omega)) (pk_in i2 _ (by omega)) (by omega) (by rw [nI_clamp (by omega)]; exact (pr_1130 (by omega))) ?_
      refine sw_aload_n O (xx_dt dd_X4_find 25 rfl) rfl ?_
      refine sw_get (v := .ref 1130) O (xx_dt dd_X4_find 26 rfl) cl_X4 fl_X4_11 (ly_1004 (u2 (u2 s2 (1131 + 0) i2 (f_amountWon s2 i2)) (1131 + 1) i2 (f_harmOf s2 i2)) h) (by decide) rfl ?_
      refine sw_iconst (x := 2) O (xx_dt dd_X4_find 27 rfl) (by decide) ?_
      refine sw_aaload (v := .ref (1131 + 2)) O (xx_dt dd_X4_find 28 rfl) (by omega) (by omega) (ly_1130 (u2 (u2 s2 (1131 + 0) i2 (f_amountWon s2 i2)) (1131 + 1) i2 (f_harmOf s2 i2)) h) (by unfold vp_in; decide) rfl ?_
      refine sw_iload_n O (xx_dt dd_X4_find 29 rfl) rfl ?_
      refine sw_iload_n O (xx_dt dd_X4_find 30 rfl) rfl ?_
      refine sw_iastore (h2 := setC (u2 (u2 (u2 s2 (1131 + 0) i2 (f_amountWon s2 i2)) (1131 + 1) i2 (f_harmOf s2 i2)) (1131 + 2) i2 (f_harmOf s2 i2)) h) O (xx_dt dd_X4_find 31 rfl) (lr_1130 (u2 (u2 s2 (1131 + 0) i2 (f_amountWon s2 i2)) (1131 + 1) i2 (f_harmOf s2 i2)) h (k := 2) (by omega)) (pk_in i2 _ (by omega)) (by omega) (by rw [nI_clamp (by omega)]; exact (pr_1130 (by omega))) ?_
      refine sw_iinc (y := nI (i2 + 1)) (ls2 := [.ref 1004, .ref 1003, .int (nI (i2 + 1)), .int (f_harmOf s2 i2)]) O (xx_dt dd_X4_find 32 rfl) rfl (nI_1 _) (by decide) rfl ?_
      refine sw_goto (tgt := 2) O (xx_dt dd_X4_find 33 rfl) (by decide) ?_
      refine sw_dum (ls2 := [.ref 1004, .ref 1003, .int (nI (i2 + 1)), xx_d]) ⟨.inr rfl, .inr rfl, .inr rfl, .inl rfl, trivial⟩ ?_
      exact kk2
  · show SW Y _ _ (setC (x_find_2 σ σ) h) 2 [.ref 1004, .ref 1003, .int (nI 6), xx_d] []
    refine sw_iload_n O (xx_dt dd_X4_find 2 rfl) rfl ?_
    refine sw_bipush (x := 6) O (xx_dt dd_X4_find 3 rfl) (by decide) ?_
    refine sw_icmp_ge (tgt := 51) O (xx_dt dd_X4_find 4 rfl) (by decide) (fun q1 => ?_) (fun q1 => ?_)
    · refine sw_iconst (x := 0) O (xx_dt dd_X4_find 34 rfl) (by decide) ?_
      refine sw_istore_n (ls2 := [.ref 1004, .ref 1003, .int 0, xx_d]) O (xx_dt dd_X4_find 35 rfl) (by decide) rfl ?_
      refine sw_forR (R := XS9) (fun i53 s53 => (if (f_strongest s53) = (-1) then .inr s53 else .inl (g_raiseOutside s53 (f_strongest s53) (f_objection s53 (cn (f_strongest s53)) 2)))) (fun _ _ => True) (FR := fun r => g_find σ = r) (hp := fun s53 => setC s53 h) (hd := 53) (lc := fun i53 s53 => [.ref 1004, .ref 1003, .int (nI i53), xx_d]) (N := 64) (fun i53 s53 hi53 hP53 => ⟨fun _ _ => trivial, fun kk53 kr53 => ?_⟩) 64 0 (x_find_2 σ σ) (by omega) (trivial) (fun sN53 eN53 hP53 => ?_) (fun r53 eN53 => ?_)
      · refine sw_iload_n O (xx_dt dd_X4_find 36 rfl) rfl ?_
        refine sw_bipush (x := 64) O (xx_dt dd_X4_find 37 rfl) (by decide) ?_
        refine sw_icmp_ge (tgt := 89) O (xx_dt dd_X4_find 38 rfl) (by decide) (fun q2 => ?_) (fun q2 => ?_)
        · exact absurd q2 (nI_ge (b := 64) hi53 (by omega))
        · refine sw_aload_n O (xx_dt dd_X4_find 39 rfl) rfl ?_
          refine sw_aload_n O (xx_dt dd_X4_find 40 rfl) rfl ?_
          refine sw_callVx (as := [.ref 1003]) (st := []) (st2 := [.int (f_strongest s53)]) O (ct_X4_strongest hl (σ := s53)) ce_X4_strongest ml_X4_26 iv_X4_strongest cl_X4 rfl (ly_1004 s53 h) (xx_dt dd_X4_find 41 rfl) (by decide) rfl rfl (Nat.le_of_ble_eq_true rfl) rfl ?_
          refine sw_istore_n (ls2 := [.ref 1004, .ref 1003, .int (nI i53), .int (f_strongest s53)]) O (xx_dt dd_X4_find 42 rfl) (by decide) rfl ?_
          refine sw_iload_n O (xx_dt dd_X4_find 43 rfl) rfl ?_
          refine sw_iconst (x := (-1)) O (xx_dt dd_X4_find 44 rfl) (by decide) ?_
          refine sw_icmp_ne (tgt := 71) O (xx_dt dd_X4_find 45 rfl) (by decide) (fun q3 => ?_) (fun q3 => ?_)
          · refine sw_aload_n O (xx_dt dd_X4_find 47 rfl) rfl ?_
            refine sw_iload_n O (xx_dt dd_X4_find 48 rfl) rfl ?_
            refine sw_aload_n O (xx_dt dd_X4_find 49 rfl) rfl ?_
            refine sw_aload_n O (xx_dt dd_X4_find 50 rfl) rfl ?_
            refine sw_iload_n O (xx_dt dd_X4_find 51 rfl) rfl ?_
            refine sw_iconst (x := 2) O (xx_dt dd_X4_find 52 rfl) (by decide) ?_
            refine sw_callVx (as := [.ref 1003, .int (f_strongest s53), .int 2]) (st := [.int (f_strongest s53), .ref 1004]) (st2 := [.int (f_objection s53 (cn (f_strongest s53)) 2), .int (f_strongest s53), .ref 1004]) O (ct_X4_objection' hl (σ := s53) (x := f_strongest s53) (S := cn (f_strongest s53)) (w := 2) (strongest_nat _ (by assumption)).1 (strongest_nat _ (by assumption)).2 (by omega)) ce_X4_objection ml_X4_30 iv_X4_objection cl_X4 rfl (ly_1004 s53 h) (xx_dt dd_X4_find 53 rfl) (by decide) rfl rfl (Nat.le_of_ble_eq_true rfl) rfl ?_
            refine sw_callVx (as := [.int (f_strongest s53), .int (f_objection s53 (cn (f_strongest s53)) 2)]) (st := []) (st2 := []) O (ct_X4_raiseOutside hl (σ := s53) (x := f_strongest s53) (y := f_objection s53 (cn (f_strongest s53)) 2)) ce_X4_raiseOutside ml_X4_34 iv_X4_raiseOutside cl_X4 rfl (ly_1004 s53 h) (xx_dt dd_X4_find 54 rfl) (by decide) rfl rfl (Nat.le_of_ble_eq_true rfl) rfl ?_
            refine sw_iinc (y := nI (i53 + 1)) (ls2 := [.ref 1004, .ref 1003, .int (nI (i53 + 1)), .int (f_strongest s53)]) O (xx_dt dd_X4_find 55 rfl) rfl (nI_1 _) (by decide) rfl ?_
            refine sw_goto (tgt := 53) O (xx_dt dd_X4_find 56 rfl) (by decide) ?_
            refine sw_dum (ls2 := [.ref 1004, .ref 1003, .int (nI (i53 + 1)), xx_d]) ⟨.inr rfl, .inr rfl, .inr rfl, .inl rfl, trivial⟩ ?_
            exact kk53 (g_raiseOutside s53 (f_strongest s53) (f_objection s53 (cn (f_strongest s53)) 2)) (by simp only [if_neg q3])
          · exact sw_ret O (xx_dt dd_X4_find 46 rfl) rfl (by rw [hQ, kr53 s53 (by simp only [if_pos q3])]; exact ⟨rfl, rfl⟩)
      · show SW Y _ _ (setC sN53 h) 53 [.ref 1004, .ref 1003, .int (nI 64), xx_d] []
        refine sw_iload_n O (xx_dt dd_X4_find 36 rfl) rfl ?_
        refine sw_bipush (x := 64) O (xx_dt dd_X4_find 37 rfl) (by decide) ?_
        refine sw_icmp_ge (tgt := 89) O (xx_dt dd_X4_find 38 rfl) (by decide) (fun q2 => ?_) (fun q2 => ?_)
        · exact sw_ret O (xx_dt dd_X4_find 57 rfl) rfl (by rw [hQ]; exact ⟨rfl, by unfold g_find; simp only [x_find_53, eN53]⟩)
        · exact absurd (Int32.le_refl _) q2
      · unfold g_find; simp only [x_find_53, eN53]
    · exact absurd (Int32.le_refl _) q1
end
section
/-! ===== Stations: who disturbs whom ===== -/
def x_findDisturbed_19 (σ : XS9) (C : Nat) (rg : Nat → Nat) (i2 : Nat) (s0 : XS9) : XS9 := xit (fun i19 s19 => (if (nI (rg i2)) = (nI (rg i19)) then (if (nI i2) = (nI i19) then s19 else u2 s19 1152 i2 ((s19 1152 i2) ||| (1 <<< ((nI i19) &&& 31)))) else (if (f_areNeighbours s19 (rg i2) (rg i19)) = 0 then s19 else (if (nI i2) = (nI i19) then s19 else u2 s19 1152 i2 ((s19 1152 i2) ||| (1 <<< ((nI i19) &&& 31))))))) C 0 s0
def x_findDisturbed_2 (σ : XS9) (C : Nat) (rg : Nat → Nat) (s0 : XS9) : XS9 := xit (fun i2 s2 => (x_findDisturbed_19 σ C rg i2 (u2 s2 1152 i2 0))) C 0 s0
theorem fx_findDisturbed_19 {σ : XS9} {C : Nat} {rg : Nat → Nat} {i2 : Nat} {s0 : XS9} {q : Nat} (h : q ≠ 1152) : x_findDisturbed_19 σ C rg i2 s0 q = s0 q := xit_keep (fun s : XS9 => s q) (fun i s => by (try dsimp only); (repeat' split) <;> first | rfl | simp (disch := omega) only [u2_ne, uR_ne, fr_fill, fr_useWaiver, fr_undoContradictions, fr_lowerEligible, fr_moveHeld, fr_raisePrices, fr_begin, fr_closeRound, fr_moveTaken]) _ _ _
def g_findDisturbed (σ : XS9) (C : Nat) (rg : Nat → Nat) : XS9 := (x_findDisturbed_2 σ C rg σ)
theorem ct_X5_findDisturbed {l : Launch} {h : XH} (hl : l.stackTraces = false) {σ : XS9} {C : Nat} (hC : σ 1006 1 = nI C) (hC10 : C ≤ 10) {rg : Nat → Nat} (hrg : ∀ i, i < C → σ 1151 i = nI (rg i) ∧ rg i < 5)  : XEx l m_X5_findDisturbed 1 0 0 [.ref 1006, .ref 1001] (setC σ h) (none) (setC (g_findDisturbed σ C rg) h) := by
  refine XMet.of hl rfl rfl (Nat.le_of_ble_eq_true rfl) (fun Y O hh hQ => ?_)
  show SW Y 0 0 (setC σ h) 0 [.ref 1006, .ref 1001, xx_d, xx_d, xx_d] []
  refine sw_iconst (x := 0) O (xx_dt dd_X5_findDisturbed 0 rfl) (by decide) ?_
  refine sw_istore_n (ls2 := [.ref 1006, .ref 1001, .int 0, xx_d, xx_d]) O (xx_dt dd_X5_findDisturbed 1 rfl) (by decide) rfl ?_
  refine sw_for (fun i2 s2 => (x_findDisturbed_19 σ C rg i2 (u2 s2 1152 i2 0))) (fun _ s2 => s2 1006 1 = nI C ∧ s2 1151 = σ 1151) (hp := fun s2 => setC s2 h) (hd := 2) (lc := fun i2 s2 => [.ref 1006, .ref 1001, .int (nI i2), xx_d, xx_d]) (N := C) (fun i2 s2 hi2 hP2 => ⟨(by (try dsimp only); (repeat' split) <;> (refine ⟨?_, ?_⟩ <;> (first | exact hP2.1 | exact hP2.2 | exact hi2 | exact .inl rfl | exact .inr rfl | (simp (disch := omega) only [u2_ne, uR_ne, fr_fill, fr_useWaiver, fr_undoContradictions, fr_lowerEligible, fr_moveHeld, fr_raisePrices, fr_begin, fr_closeRound, fr_moveTaken, fx_findDisturbed_19]; first | exact hP2.1 | exact hP2.2)))), fun kk2 => ?_⟩) C 0 σ (by omega) (⟨hC, rfl⟩) (fun hP2 => ?_)
  · refine sw_iload_n O (xx_dt dd_X5_findDisturbed 2 rfl) rfl ?_
    refine sw_aload_n O (xx_dt dd_X5_findDisturbed 3 rfl) rfl ?_
    refine sw_get (v := .int (nI C)) O (xx_dt dd_X5_findDisturbed 4 rfl) cl_X5 fl_X5_24 (ly_1006 s2 h) (by decide) (congrArg Value.int hP2.1) ?_
    refine sw_icmp_ge (tgt := 102) O (xx_dt dd_X5_findDisturbed 5 rfl) (by decide) (fun q1 => ?_) (fun q1 => ?_)
    · exact absurd q1 (nI_ge (b := C) hi2 (by omega))
    · refine sw_aload_n O (xx_dt dd_X5_findDisturbed 6 rfl) rfl ?_
      refine sw_get (v := .ref 1152) O (xx_dt dd_X5_findDisturbed 7 rfl) cl_X5 fl_X5_18 (ly_1006 s2 h) (by decide) rfl ?_
      refine sw_iload_n O (xx_dt dd_X5_findDisturbed 8 rfl) rfl ?_
      refine sw_iconst (x := 0) O (xx_dt dd_X5_findDisturbed 9 rfl) (by decide) ?_
      refine sw_iastore (h2 := setC (u2 s2 1152 i2 0) h) O (xx_dt dd_X5_findDisturbed 10 rfl) (ly_1152 s2 h) (pk_in i2 _ (by omega)) (by decide) (by rw [nI_clamp (by omega)]; exact pa_1152) ?_
      refine sw_iconst (x := 0) O (xx_dt dd_X5_findDisturbed 11 rfl) (by decide) ?_
      refine sw_istore_n (ls2 := [.ref 1006, .ref 1001, .int (nI i2), .int 0, xx_d]) O (xx_dt dd_X5_findDisturbed 12 rfl) (by decide) rfl ?_
      refine sw_for (fun i19 s19 => (if (nI (rg i2)) = (nI (rg i19)) then (if (nI i2) = (nI i19) then s19 else u2 s19 1152 i2 ((s19 1152 i2) ||| (1 <<< ((nI i19) &&& 31)))) else (if (f_areNeighbours s19 (rg i2) (rg i19)) = 0 then s19 else (if (nI i2) = (nI i19) then s19 else u2 s19 1152 i2 ((s19 1152 i2) ||| (1 <<< ((nI i19) &&& 31))))))) (fun _ s19 => s19 1006 1 = nI C ∧ s19 1151 = σ 1151) (hp := fun s19 => setC s19 h) (hd := 19) (lc := fun i19 s19 => [.ref 1006, .ref 1001, .int (nI i2), .int (nI i19), xx_d]) (N := C) (fun i19 s19 hi19 hP19 => ⟨(by (try dsimp only); (repeat' split) <;> (refine ⟨?_, ?_⟩ <;> (first | exact hP19.1 | exact hP19.2 | exact hi19 | exact .inl rfl | exact .inr rfl | (simp (disch := omega) only [u2_ne, uR_ne, fr_fill, fr_useWaiver, fr_undoContradictions, fr_lowerEligible, fr_moveHeld, fr_raisePrices, fr_begin, fr_closeRound, fr_moveTaken, fx_findDisturbed_19]; first | exact hP19.1 | exact hP19.2)))), fun kk19 => ?_⟩) C 0 (u2 s2 1152 i2 0) (by omega) (⟨hP2.1, hP2.2⟩) (fun hP19 => ?_)
      · refine sw_iload_n O (xx_dt dd_X5_findDisturbed 13 rfl) rfl ?_
        refine sw_aload_n O (xx_dt dd_X5_findDisturbed 14 rfl) rfl ?_
        refine sw_get (v := .int (nI C)) O (xx_dt dd_X5_findDisturbed 15 rfl) cl_X5 fl_X5_24 (ly_1006 s19 h) (by decide) (congrArg Value.int hP19.1) ?_
        refine sw_icmp_ge (tgt := 96) O (xx_dt dd_X5_findDisturbed 16 rfl) (by decide) (fun q2 => ?_) (fun q2 => ?_)
        · exact absurd q2 (nI_ge (b := C) hi19 (by omega))
        · refine sw_aload_n O (xx_dt dd_X5_findDisturbed 17 rfl) rfl ?_
          refine sw_get (v := .ref 1151) O (xx_dt dd_X5_findDisturbed 18 rfl) cl_X5 fl_X5_15 (ly_1006 s19 h) (by decide) rfl ?_
          refine sw_iload_n O (xx_dt dd_X5_findDisturbed 19 rfl) rfl ?_
          have hz32 := (hrg i2 (by omega)).2
          refine sw_iaload (v := .int (nI (rg i2))) O (xx_dt dd_X5_findDisturbed 20 rfl) (ly_1151 s19 h) (pk_in i2 _ (by omega)) (by rw [nI_clamp (by omega)]; exact (congrArg Value.int ((congrFun hP19.2 i2).trans (hrg i2 (by omega)).1))) ?_
          refine sw_aload_n O (xx_dt dd_X5_findDisturbed 21 rfl) rfl ?_
          refine sw_get (v := .ref 1151) O (xx_dt dd_X5_findDisturbed 22 rfl) cl_X5 fl_X5_15 (ly_1006 s19 h) (by decide) rfl ?_
          refine sw_iload_n O (xx_dt dd_X5_findDisturbed 23 rfl) rfl ?_
          have hz38 := (hrg i19 (by omega)).2
          refine sw_iaload (v := .int (nI (rg i19))) O (xx_dt dd_X5_findDisturbed 24 rfl) (ly_1151 s19 h) (pk_in i19 _ (by omega)) (by rw [nI_clamp (by omega)]; exact (congrArg Value.int ((congrFun hP19.2 i19).trans (hrg i19 (by omega)).1))) ?_
          refine sw_icmp_eq (tgt := 61) O (xx_dt dd_X5_findDisturbed 25 rfl) (by decide) (fun q3 => ?_) (fun q3 => ?_)
          · refine sw_iconst (x := 1) O (xx_dt dd_X5_findDisturbed 37 rfl) (by decide) ?_
            refine sw_goto (tgt := 66) O (xx_dt dd_X5_findDisturbed 38 rfl) (by decide) ?_
            refine sw_istore (ls2 := [.ref 1006, .ref 1001, .int (nI i2), .int (nI i19), .int 1]) O (xx_dt dd_X5_findDisturbed 40 rfl) (by decide) rfl ?_
            refine sw_iload_n O (xx_dt dd_X5_findDisturbed 41 rfl) rfl ?_
            refine sw_iload_n O (xx_dt dd_X5_findDisturbed 42 rfl) rfl ?_
            refine sw_icmp_eq (tgt := 90) O (xx_dt dd_X5_findDisturbed 43 rfl) (by decide) (fun q4 => ?_) (fun q4 => ?_)
            · refine sw_iinc (y := nI (i19 + 1)) (ls2 := [.ref 1006, .ref 1001, .int (nI i2), .int (nI (i19 + 1)), .int 1]) O (xx_dt dd_X5_findDisturbed 56 rfl) rfl (nI_1 _) (by decide) rfl ?_
              refine sw_goto (tgt := 19) O (xx_dt dd_X5_findDisturbed 57 rfl) (by decide) ?_
              refine sw_dum (ls2 := [.ref 1006, .ref 1001, .int (nI i2), .int (nI (i19 + 1)), xx_d]) ⟨.inr rfl, .inr rfl, .inr rfl, .inr rfl, .inl rfl, trivial⟩ ?_
              simp only [if_pos q3, if_pos q4] at kk19
              exact kk19
            · refine sw_iload O (xx_dt dd_X5_findDisturbed 44 rfl) rfl ?_
              refine sw_if_eq (tgt := 90) O (xx_dt dd_X5_findDisturbed 45 rfl) (by decide) (fun q5 => ?_) (fun q5 => ?_)
              · exact absurd q5 (by decide)
              · refine sw_aload_n O (xx_dt dd_X5_findDisturbed 46 rfl) rfl ?_
                refine sw_get (v := .ref 1152) O (xx_dt dd_X5_findDisturbed 47 rfl) cl_X5 fl_X5_18 (ly_1006 s19 h) (by decide) rfl ?_
                refine sw_iload_n O (xx_dt dd_X5_findDisturbed 48 rfl) rfl ?_
                refine sw_dup2 O (xx_dt dd_X5_findDisturbed 49 rfl) rfl rfl ?_
                refine sw_iaload (v := .int (s19 1152 i2)) O (xx_dt dd_X5_findDisturbed 50 rfl) (ly_1152 s19 h) (pk_in i2 _ (by omega)) (by rw [nI_clamp (by omega)]; try exact rfl) ?_
                refine sw_iconst (x := 1) O (xx_dt dd_X5_findDisturbed 51 rfl) (by decide) ?_
                refine sw_iload_n O (xx_dt dd_X5_findDisturbed 52 rfl) rfl ?_
                refine sw_ishl O (xx_dt dd_X5_findDisturbed 53 rfl) ?_
                refine sw_ior O (xx_dt dd_X5_findDisturbed 54 rfl) ?_
                refine sw_iastore (h2 := setC (u2 s19 1152 i2 ((s19 1152 i2) ||| (1 <<< ((nI i19) &&& 31)))) h) O (xx_dt dd_X5_findDisturbed 55 rfl) (ly_1152 s19 h) (pk_in i2 _ (by omega)) (by decide) (by rw [nI_clamp (by omega)]; exact pa_1152) ?_
                refine sw_iinc (y := nI (i19 + 1)) (ls2 := [.ref 1006, .ref 1001, .int (nI i2), .int (nI (i19 + 1)), .int 1]) O (xx_dt dd_X5_findDisturbed 56 rfl) rfl (nI_1 _) (by decide) rfl ?_
                refine sw_goto (tgt := 19) O (xx_dt dd_X5_findDisturbed 57 rfl) (by decide) ?_
                refine sw_dum (ls2 := [.ref 1006, .ref 1001, .int (nI i2), .int (nI (i19 + 1)), xx_d]) ⟨.inr rfl, .inr rfl, .inr rfl, .inr rfl, .inl rfl, trivial⟩ ?_
                simp only [if_pos q3, if_neg q4] at kk19
                exact kk19
          · refine sw_aload_n O (xx_dt dd_X5_findDisturbed 26 rfl) rfl ?_
            refine sw_aload_n O (xx_dt dd_X5_findDisturbed 27 rfl) rfl ?_
            refine sw_get (v := .ref 1151) O (xx_dt dd_X5_findDisturbed 28 rfl) cl_X5 fl_X5_15 (ly_1006 s19 h) (by decide) rfl ?_
            refine sw_iload_n O (xx_dt dd_X5_findDisturbed 29 rfl) rfl ?_
            have hz48 := (hrg i2 (by omega)).2
            refine sw_iaload (v := .int (nI (rg i2))) O (xx_dt dd_X5_findDisturbed 30 rfl) (ly_1151 s19 h) (pk_in i2 _ (by omega)) (by rw [nI_clamp (by omega)]; exact (congrArg Value.int ((congrFun hP19.2 i2).trans (hrg i2 (by omega)).1))) ?_
            refine sw_aload_n O (xx_dt dd_X5_findDisturbed 31 rfl) rfl ?_
            refine sw_get (v := .ref 1151) O (xx_dt dd_X5_findDisturbed 32 rfl) cl_X5 fl_X5_15 (ly_1006 s19 h) (by decide) rfl ?_
            refine sw_iload_n O (xx_dt dd_X5_findDisturbed 33 rfl) rfl ?_
            have hz54 := (hrg i19 (by omega)).2
            refine sw_iaload (v := .int (nI (rg i19))) O (xx_dt dd_X5_findDisturbed 34 rfl) (ly_1151 s19 h) (pk_in i19 _ (by omega)) (by rw [nI_clamp (by omega)]; exact (congrArg Value.int ((congrFun hP19.2 i19).trans (hrg i19 (by omega)).1))) ?_
            refine sw_callVx (as := [.int (nI (rg i2)), .int (nI (rg i19))]) (st := []) (st2 := [.int (f_areNeighbours s19 (rg i2) (rg i19))]) O (ct_X6_areNeighbours hl (σ := s19) (i := rg i2) (j := rg i19) (by omega)) ce_X6_areNeighbours ml_X5_40 iv_X6_areNeighbours cl_X6 rfl (ly_1001 s19 h) (xx_dt dd_X5_findDisturbed 35 rfl) (by decide) rfl rfl (Nat.le_of_ble_eq_true rfl) rfl ?_
            refine sw_if_eq (tgt := 65) O (xx_dt dd_X5_findDisturbed 36 rfl) (by decide) (fun q6 => ?_) (fun q6 => ?_)
            · refine sw_iconst (x := 0) O (xx_dt dd_X5_findDisturbed 39 rfl) (by decide) ?_
              refine sw_istore (ls2 := [.ref 1006, .ref 1001, .int (nI i2), .int (nI i19), .int 0]) O (xx_dt dd_X5_findDisturbed 40 rfl) (by decide) rfl ?_
              refine sw_iload_n O (xx_dt dd_X5_findDisturbed 41 rfl) rfl ?_
              refine sw_iload_n O (xx_dt dd_X5_findDisturbed 42 rfl) rfl ?_
              refine sw_icmp_eq (tgt := 90) O (xx_dt dd_X5_findDisturbed 43 rfl) (by decide) (fun q7 => ?_) (fun q7 => ?_)
              · refine sw_iinc (y := nI (i19 + 1)) (ls2 := [.ref 1006, .ref 1001, .int (nI i2), .int (nI (i19 + 1)), .int 0]) O (xx_dt dd_X5_findDisturbed 56 rfl) rfl (nI_1 _) (by decide) rfl ?_
                refine sw_goto (tgt := 19) O (xx_dt dd_X5_findDisturbed 57 rfl) (by decide) ?_
                refine sw_dum (ls2 := [.ref 1006, .ref 1001, .int (nI i2), .int (nI (i19 + 1)), xx_d]) ⟨.inr rfl, .inr rfl, .inr rfl, .inr rfl, .inl rfl, trivial⟩ ?_
                simp only [if_neg q3, if_pos q6, if_pos q7] at kk19
                exact kk19
              · refine sw_iload O (xx_dt dd_X5_findDisturbed 44 rfl) rfl ?_
                refine sw_if_eq (tgt := 90) O (xx_dt dd_X5_findDisturbed 45 rfl) (by decide) (fun q8 => ?_) (fun q8 => ?_)
                · refine sw_iinc (y := nI (i19 + 1)) (ls2 := [.ref 1006, .ref 1001, .int (nI i2), .int (nI (i19 + 1)), .int 0]) O (xx_dt dd_X5_findDisturbed 56 rfl) rfl (nI_1 _) (by decide) rfl ?_
                  refine sw_goto (tgt := 19) O (xx_dt dd_X5_findDisturbed 57 rfl) (by decide) ?_
                  refine sw_dum (ls2 := [.ref 1006, .ref 1001, .int (nI i2), .int (nI (i19 + 1)), xx_d]) ⟨.inr rfl, .inr rfl, .inr rfl, .inr rfl, .inl rfl, trivial⟩ ?_
                  simp only [if_neg q3, if_pos q6, if_neg q7] at kk19
                  exact kk19
                · exact absurd q8 (by decide)
            · refine sw_iconst (x := 1) O (xx_dt dd_X5_findDisturbed 37 rfl) (by decide) ?_
              refine sw_goto (tgt := 66) O (xx_dt dd_X5_findDisturbed 38 rfl) (by decide) ?_
              refine sw_istore (ls2 := [.ref 1006, .ref 1001, .int (nI i2), .int (nI i19), .int 1]) O (xx_dt dd_X5_findDisturbed 40 rfl) (by decide) rfl ?_
              refine sw_iload_n O (xx_dt dd_X5_findDisturbed 41 rfl) rfl ?_
              refine sw_iload_n O (xx_dt dd_X5_findDisturbed 42 rfl) rfl ?_
              refine sw_icmp_eq (tgt := 90) O (xx_dt dd_X5_findDisturbed 43 rfl) (by decide) (fun q9 => ?_) (fun q9 => ?_)
              · refine sw_iinc (y := nI (i19 + 1)) (ls2 := [.ref 1006, .ref 1001, .int (nI i2), .int (nI (i19 + 1)), .int 1]) O (xx_dt dd_X5_findDisturbed 56 rfl) rfl (nI_1 _) (by decide) rfl ?_
                refine sw_goto (tgt := 19) O (xx_dt dd_X5_findDisturbed 57 rfl) (by decide) ?_
                refine sw_dum (ls2 := [.ref 1006, .ref 1001, .int (nI i2), .int (nI (i19 + 1)), xx_d]) ⟨.inr rfl, .inr rfl, .inr rfl, .inr rfl, .inl rfl, trivial⟩ ?_
                simp only [if_neg q3, if_neg q6, if_pos q9] at kk19
                exact kk19
              · refine sw_iload O (xx_dt dd_X5_findDisturbed 44 rfl) rfl ?_
                refine sw_if_eq (tgt := 90) O (xx_dt dd_X5_findDisturbed 45 rfl) (by decide) (fun q10 => ?_) (fun q10 => ?_)
                · exact absurd q10 (by decide)
                · refine sw_aload_n O (xx_dt dd_X5_findDisturbed 46 rfl) rfl ?_
                  refine sw_get (v := .ref 1152) O (xx_dt dd_X5_findDisturbed 47 rfl) cl_X5 fl_X5_18 (ly_1006 s19 h) (by decide) rfl ?_
                  refine sw_iload_n O (xx_dt dd_X5_findDisturbed 48 rfl) rfl ?_
                  refine sw_dup2 O (xx_dt dd_X5_findDisturbed 49 rfl) rfl rfl ?_
                  refine sw_iaload (v := .int (s19 1152 i2)) O (xx_dt dd_X5_findDisturbed 50 rfl) (ly_1152 s19 h) (pk_in i2 _ (by omega)) (by rw [nI_clamp (by omega)]; try exact rfl) ?_
                  refine sw_iconst (x := 1) O (xx_dt dd_X5_findDisturbed 51 rfl) (by decide) ?_
                  refine sw_iload_n O (xx_dt dd_X5_findDisturbed 52 rfl) rfl ?_
                  refine sw_ishl O (xx_dt dd_X5_findDisturbed 53 rfl) ?_
                  refine sw_ior O (xx_dt dd_X5_findDisturbed 54 rfl) ?_
                  refine sw_iastore (h2 := setC (u2 s19 1152 i2 ((s19 1152 i2) ||| (1 <<< ((nI i19) &&& 31)))) h) O (xx_dt dd_X5_findDisturbed 55 rfl) (ly_1152 s19 h) (pk_in i2 _ (by omega)) (by decide) (by rw [nI_clamp (by omega)]; exact pa_1152) ?_
                  refine sw_iinc (y := nI (i19 + 1)) (ls2 := [.ref 1006, .ref 1001, .int (nI i2), .int (nI (i19 + 1)), .int 1]) O (xx_dt dd_X5_findDisturbed 56 rfl) rfl (nI_1 _) (by decide) rfl ?_
                  refine sw_goto (tgt := 19) O (xx_dt dd_X5_findDisturbed 57 rfl) (by decide) ?_
                  refine sw_dum (ls2 := [.ref 1006, .ref 1001, .int (nI i2), .int (nI (i19 + 1)), xx_d]) ⟨.inr rfl, .inr rfl, .inr rfl, .inr rfl, .inl rfl, trivial⟩ ?_
                  simp only [if_neg q3, if_neg q6, if_neg q9] at kk19
                  exact kk19
      · show SW Y _ _ (setC (x_findDisturbed_19 σ C rg i2 (u2 s2 1152 i2 0)) h) 19 [.ref 1006, .ref 1001, .int (nI i2), .int (nI C), xx_d] []
        have hP19 : (x_findDisturbed_19 σ C rg i2 (u2 s2 1152 i2 0)) 1006 1 = nI C ∧ (x_findDisturbed_19 σ C rg i2 (u2 s2 1152 i2 0)) 1151 = σ 1151 := hP19
        refine sw_iload_n O (xx_dt dd_X5_findDisturbed 13 rfl) rfl ?_
        refine sw_aload_n O (xx_dt dd_X5_findDisturbed 14 rfl) rfl ?_
        refine sw_get (v := .int (nI C)) O (xx_dt dd_X5_findDisturbed 15 rfl) cl_X5 fl_X5_24 (ly_1006 (x_findDisturbed_19 σ C rg i2 (u2 s2 1152 i2 0)) h) (by decide) (congrArg Value.int hP19.1) ?_
        refine sw_icmp_ge (tgt := 96) O (xx_dt dd_X5_findDisturbed 16 rfl) (by decide) (fun q2 => ?_) (fun q2 => ?_)
        · refine sw_iinc (y := nI (i2 + 1)) (ls2 := [.ref 1006, .ref 1001, .int (nI (i2 + 1)), .int (nI C), xx_d]) O (xx_dt dd_X5_findDisturbed 58 rfl) rfl (nI_1 _) (by decide) rfl ?_
          refine sw_goto (tgt := 2) O (xx_dt dd_X5_findDisturbed 59 rfl) (by decide) ?_
          refine sw_dum (ls2 := [.ref 1006, .ref 1001, .int (nI (i2 + 1)), xx_d, xx_d]) ⟨.inr rfl, .inr rfl, .inr rfl, .inl rfl, .inr rfl, trivial⟩ ?_
          exact kk2
        · exact absurd (Int32.le_refl _) q2
  · show SW Y _ _ (setC (x_findDisturbed_2 σ C rg σ) h) 2 [.ref 1006, .ref 1001, .int (nI C), xx_d, xx_d] []
    have hP2 : (x_findDisturbed_2 σ C rg σ) 1006 1 = nI C ∧ (x_findDisturbed_2 σ C rg σ) 1151 = σ 1151 := hP2
    refine sw_iload_n O (xx_dt dd_X5_findDisturbed 2 rfl) rfl ?_
    refine sw_aload_n O (xx_dt dd_X5_findDisturbed 3 rfl) rfl ?_
    refine sw_get (v := .int (nI C)) O (xx_dt dd_X5_findDisturbed 4 rfl) cl_X5 fl_X5_24 (ly_1006 (x_findDisturbed_2 σ C rg σ) h) (by decide) (congrArg Value.int hP2.1) ?_
    refine sw_icmp_ge (tgt := 102) O (xx_dt dd_X5_findDisturbed 5 rfl) (by decide) (fun q1 => ?_) (fun q1 => ?_)
    · exact sw_ret O (xx_dt dd_X5_findDisturbed 60 rfl) rfl (by rw [hQ]; exact ⟨rfl, by unfold g_findDisturbed; rfl⟩)
    · exact absurd (Int32.le_refl _) q1
theorem fr_findDisturbed {σ : XS9} {C : Nat} {rg : Nat → Nat} {q : Nat} (h : q ≠ 1152) : g_findDisturbed σ C rg q = σ q := by
  have H0 : ∀ s0, (x_findDisturbed_2 σ C rg s0) q = s0 q := fun s0 => xit_keep (fun s : XS9 => s q) (fun i s => by (try dsimp only); (repeat' split) <;> first | rfl | simp (disch := omega) only [u2_ne, uR_ne, fr_fill, fr_useWaiver, fr_undoContradictions, fr_lowerEligible, fr_moveHeld, fr_raisePrices, fr_begin, fr_closeRound, fr_moveTaken, fx_findDisturbed_19]) _ _ _
  unfold g_findDisturbed
  (repeat' split) <;> first | rfl | simp (disch := omega) only [u2_ne, uR_ne, fr_fill, fr_useWaiver, fr_undoContradictions, fr_lowerEligible, fr_moveHeld, fr_raisePrices, fr_begin, fr_closeRound, fr_moveTaken, fx_findDisturbed_19, H0]
/-! ===== Names ===== -/
def x_clashesBetween_4 (f g : Nat → Int32) (s0 : Int32) : Int32 := xit (fun i4 s4 => (if (f i4) = (-1) then s4 else (if (g i4) = (-1) then s4 else (if (f i4) = (g i4) then s4 else s4 + 1)))) 5 0 s0
def f_clashesBetween (f g : Nat → Int32) : Int32 := (x_clashesBetween_4 f g 0)
theorem ct_X3_clashesBetween {l : Launch} {h : XH} (hl : l.stackTraces = false) {a b : Nat} {f g : Nat → Int32} (ha : h a = some (100, 5, fun k => .int (f k))) (hb : h b = some (100, 5, fun k => .int (g k))) : XEx l m_X3_clashesBetween 0 0 0 [.ref a, .ref b] (h) (some (.int (f_clashesBetween f g))) (h) := by
  refine XMet.of hl rfl rfl (Nat.le_of_ble_eq_true rfl) (fun Y O hh hQ => ?_)
  show SW Y 0 0 (h) 0 [.ref a, .ref b, xx_d, xx_d] []
  refine sw_iconst (x := 0) O (xx_dt dd_X3_clashesBetween 0 rfl) (by decide) ?_
  refine sw_istore_n (ls2 := [.ref a, .ref b, .int 0, xx_d]) O (xx_dt dd_X3_clashesBetween 1 rfl) (by decide) rfl ?_
  refine sw_iconst (x := 0) O (xx_dt dd_X3_clashesBetween 2 rfl) (by decide) ?_
  refine sw_istore_n (ls2 := [.ref a, .ref b, .int 0, .int 0]) O (xx_dt dd_X3_clashesBetween 3 rfl) (by decide) rfl ?_
  refine sw_for (fun i4 s4 => (if (f i4) = (-1) then s4 else (if (g i4) = (-1) then s4 else (if (f i4) = (g i4) then s4 else s4 + 1)))) (fun _ _ => True) (hp := fun _ => h) (hd := 4) (lc := fun i4 s4 => [.ref a, .ref b, .int s4, .int (nI i4)]) (N := 5) (fun i4 s4 hi4 hP4 => ⟨trivial, fun kk4 => ?_⟩) 5 0 0 (by omega) (trivial) (fun hP4 => ?_)
  · refine sw_iload_n O (xx_dt dd_X3_clashesBetween 4 rfl) rfl ?_
    refine sw_iconst (x := 5) O (xx_dt dd_X3_clashesBetween 5 rfl) (by decide) ?_
    refine sw_icmp_ge (tgt := 41) O (xx_dt dd_X3_clashesBetween 6 rfl) (by decide) (fun q1 => ?_) (fun q1 => ?_)
    · exact absurd q1 (nI_ge (b := 5) hi4 (by omega))
    · refine sw_aload_n O (xx_dt dd_X3_clashesBetween 7 rfl) rfl ?_
      refine sw_iload_n O (xx_dt dd_X3_clashesBetween 8 rfl) rfl ?_
      refine sw_iaload (v := .int (f i4)) O (xx_dt dd_X3_clashesBetween 9 rfl) (ha) (pk_in i4 _ (by omega)) (by rw [nI_clamp (by omega)]; try exact rfl) ?_
      refine sw_iconst (x := (-1)) O (xx_dt dd_X3_clashesBetween 10 rfl) (by decide) ?_
      refine sw_icmp_eq (tgt := 35) O (xx_dt dd_X3_clashesBetween 11 rfl) (by decide) (fun q2 => ?_) (fun q2 => ?_)
      · refine sw_iinc (y := nI (i4 + 1)) (ls2 := [.ref a, .ref b, .int s4, .int (nI (i4 + 1))]) O (xx_dt dd_X3_clashesBetween 25 rfl) rfl (nI_1 _) (by decide) rfl ?_
        refine sw_goto (tgt := 4) O (xx_dt dd_X3_clashesBetween 26 rfl) (by decide) ?_
        simp only [if_pos q2] at kk4
        exact kk4
      · refine sw_aload_n O (xx_dt dd_X3_clashesBetween 12 rfl) rfl ?_
        refine sw_iload_n O (xx_dt dd_X3_clashesBetween 13 rfl) rfl ?_
        refine sw_iaload (v := .int (g i4)) O (xx_dt dd_X3_clashesBetween 14 rfl) (hb) (pk_in i4 _ (by omega)) (by rw [nI_clamp (by omega)]; try exact rfl) ?_
        refine sw_iconst (x := (-1)) O (xx_dt dd_X3_clashesBetween 15 rfl) (by decide) ?_
        refine sw_icmp_eq (tgt := 35) O (xx_dt dd_X3_clashesBetween 16 rfl) (by decide) (fun q3 => ?_) (fun q3 => ?_)
        · refine sw_iinc (y := nI (i4 + 1)) (ls2 := [.ref a, .ref b, .int s4, .int (nI (i4 + 1))]) O (xx_dt dd_X3_clashesBetween 25 rfl) rfl (nI_1 _) (by decide) rfl ?_
          refine sw_goto (tgt := 4) O (xx_dt dd_X3_clashesBetween 26 rfl) (by decide) ?_
          simp only [if_neg q2, if_pos q3] at kk4
          exact kk4
        · refine sw_aload_n O (xx_dt dd_X3_clashesBetween 17 rfl) rfl ?_
          refine sw_iload_n O (xx_dt dd_X3_clashesBetween 18 rfl) rfl ?_
          refine sw_iaload (v := .int (f i4)) O (xx_dt dd_X3_clashesBetween 19 rfl) (ha) (pk_in i4 _ (by omega)) (by rw [nI_clamp (by omega)]; try exact rfl) ?_
          refine sw_aload_n O (xx_dt dd_X3_clashesBetween 20 rfl) rfl ?_
          refine sw_iload_n O (xx_dt dd_X3_clashesBetween 21 rfl) rfl ?_
          refine sw_iaload (v := .int (g i4)) O (xx_dt dd_X3_clashesBetween 22 rfl) (hb) (pk_in i4 _ (by omega)) (by rw [nI_clamp (by omega)]; try exact rfl) ?_
          refine sw_icmp_eq (tgt := 35) O (xx_dt dd_X3_clashesBetween 23 rfl) (by decide) (fun q4 => ?_) (fun q4 => ?_)
          · refine sw_iinc (y := nI (i4 + 1)) (ls2 := [.ref a, .ref b, .int s4, .int (nI (i4 + 1))]) O (xx_dt dd_X3_clashesBetween 25 rfl) rfl (nI_1 _) (by decide) rfl ?_
            refine sw_goto (tgt := 4) O (xx_dt dd_X3_clashesBetween 26 rfl) (by decide) ?_
            simp only [if_neg q2, if_neg q3, if_pos q4] at kk4
            exact kk4
          · refine sw_iinc (y := s4 + 1) (ls2 := [.ref a, .ref b, .int (s4 + 1), .int (nI i4)]) O (xx_dt dd_X3_clashesBetween 24 rfl) rfl rfl (by decide) rfl ?_
            refine sw_iinc (y := nI (i4 + 1)) (ls2 := [.ref a, .ref b, .int (s4 + 1), .int (nI (i4 + 1))]) O (xx_dt dd_X3_clashesBetween 25 rfl) rfl (nI_1 _) (by decide) rfl ?_
            refine sw_goto (tgt := 4) O (xx_dt dd_X3_clashesBetween 26 rfl) (by decide) ?_
            simp only [if_neg q2, if_neg q3, if_neg q4] at kk4
            exact kk4
  · show SW Y _ _ (h) 4 [.ref a, .ref b, .int (x_clashesBetween_4 f g 0), .int (nI 5)] []
    refine sw_iload_n O (xx_dt dd_X3_clashesBetween 4 rfl) rfl ?_
    refine sw_iconst (x := 5) O (xx_dt dd_X3_clashesBetween 5 rfl) (by decide) ?_
    refine sw_icmp_ge (tgt := 41) O (xx_dt dd_X3_clashesBetween 6 rfl) (by decide) (fun q1 => ?_) (fun q1 => ?_)
    · refine sw_iload_n O (xx_dt dd_X3_clashesBetween 27 rfl) rfl ?_
      exact sw_iret O (xx_dt dd_X3_clashesBetween 28 rfl) rfl rfl (by rw [hQ]; exact ⟨by unfold f_clashesBetween; rfl, rfl⟩)
    · exact absurd (Int32.le_refl _) q1
def x_clashesOf_5 (σ : XS9) (r : Nat) (s0 : Int32) : Int32 := xit (fun i5 s5 => (if (f_areNeighbours σ r i5) = 0 then s5 else s5 + (f_clashesBetween (σ (1141 + r)) (σ (1141 + i5))))) r 0 s0
def f_clashesOf (σ : XS9) (r : Nat) : Int32 := (x_clashesOf_5 σ r 0)
theorem ct_X3_clashesOf {l : Launch} {h : XH} (hl : l.stackTraces = false) {σ : XS9} {r : Nat} (hr : r < 5) : XEx l m_X3_clashesOf 1 0 0 [.ref 1005, .ref 1001, .int (nI r)] (setC σ h) (some (.int (f_clashesOf σ r))) (setC σ h) := by
  refine XMet.of hl rfl rfl (Nat.le_of_ble_eq_true rfl) (fun Y O hh hQ => ?_)
  show SW Y 0 0 (setC σ h) 0 [.ref 1005, .ref 1001, .int (nI r), xx_d, xx_d] []
  refine sw_iconst (x := 0) O (xx_dt dd_X3_clashesOf 0 rfl) (by decide) ?_
  refine sw_istore_n (ls2 := [.ref 1005, .ref 1001, .int (nI r), .int 0, xx_d]) O (xx_dt dd_X3_clashesOf 1 rfl) (by decide) rfl ?_
  refine sw_iconst (x := 0) O (xx_dt dd_X3_clashesOf 2 rfl) (by decide) ?_
  refine sw_istore (ls2 := [.ref 1005, .ref 1001, .int (nI r), .int 0, .int 0]) O (xx_dt dd_X3_clashesOf 3 rfl) (by decide) rfl ?_
  refine sw_for (fun i5 s5 => (if (f_areNeighbours σ r i5) = 0 then s5 else s5 + (f_clashesBetween (σ (1141 + r)) (σ (1141 + i5))))) (fun _ _ => True) (hp := fun _ => setC σ h) (hd := 5) (lc := fun i5 s5 => [.ref 1005, .ref 1001, .int (nI r), .int s5, .int (nI i5)]) (N := r) (fun i5 s5 hi5 hP5 => ⟨trivial, fun kk5 => ?_⟩) r 0 0 (by omega) (trivial) (fun hP5 => ?_)
  · refine sw_iload O (xx_dt dd_X3_clashesOf 4 rfl) rfl ?_
    refine sw_iload_n O (xx_dt dd_X3_clashesOf 5 rfl) rfl ?_
    refine sw_icmp_ge (tgt := 46) O (xx_dt dd_X3_clashesOf 6 rfl) (by decide) (fun q1 => ?_) (fun q1 => ?_)
    · exact absurd q1 (nI_ge (b := r) hi5 (by omega))
    · refine sw_aload_n O (xx_dt dd_X3_clashesOf 7 rfl) rfl ?_
      refine sw_iload_n O (xx_dt dd_X3_clashesOf 8 rfl) rfl ?_
      refine sw_iload O (xx_dt dd_X3_clashesOf 9 rfl) rfl ?_
      refine sw_callVx (as := [.int (nI r), .int (nI i5)]) (st := []) (st2 := [.int (f_areNeighbours σ r i5)]) O (ct_X6_areNeighbours hl (σ := σ) (i := r) (j := i5) (by omega)) ce_X6_areNeighbours ml_X3_54 iv_X6_areNeighbours cl_X6 rfl (ly_1001 σ h) (xx_dt dd_X3_clashesOf 10 rfl) (by decide) rfl rfl (Nat.le_of_ble_eq_true rfl) rfl ?_
      refine sw_if_eq (tgt := 40) O (xx_dt dd_X3_clashesOf 11 rfl) (by decide) (fun q2 => ?_) (fun q2 => ?_)
      · refine sw_iinc (y := nI (i5 + 1)) (ls2 := [.ref 1005, .ref 1001, .int (nI r), .int s5, .int (nI (i5 + 1))]) O (xx_dt dd_X3_clashesOf 24 rfl) rfl (nI_1 _) (by decide) rfl ?_
        refine sw_goto (tgt := 5) O (xx_dt dd_X3_clashesOf 25 rfl) (by decide) ?_
        simp only [if_pos q2] at kk5
        exact kk5
      · refine sw_iload_n O (xx_dt dd_X3_clashesOf 12 rfl) rfl ?_
        refine sw_aload_n O (xx_dt dd_X3_clashesOf 13 rfl) rfl ?_
        refine sw_get (v := .ref 1140) O (xx_dt dd_X3_clashesOf 14 rfl) cl_X3 fl_X3_11 (ly_1005 σ h) (by decide) rfl ?_
        refine sw_iload_n O (xx_dt dd_X3_clashesOf 15 rfl) rfl ?_
        refine sw_aaload (v := .ref (1141 + r)) O (xx_dt dd_X3_clashesOf 16 rfl) (by omega) (by omega) (ly_1140 σ h) (pk_in r _ (by omega)) (by rw [nI_clamp (by omega)]; try exact rfl) ?_
        refine sw_aload_n O (xx_dt dd_X3_clashesOf 17 rfl) rfl ?_
        refine sw_get (v := .ref 1140) O (xx_dt dd_X3_clashesOf 18 rfl) cl_X3 fl_X3_11 (ly_1005 σ h) (by decide) rfl ?_
        refine sw_iload O (xx_dt dd_X3_clashesOf 19 rfl) rfl ?_
        refine sw_aaload (v := .ref (1141 + i5)) O (xx_dt dd_X3_clashesOf 20 rfl) (by omega) (by omega) (ly_1140 σ h) (pk_in i5 _ (by omega)) (by rw [nI_clamp (by omega)]; try exact rfl) ?_
        refine sw_callSx (as := [.ref (1141 + r), .ref (1141 + i5)]) (st := [.int s5]) (st2 := [.int (f_clashesBetween (σ (1141 + r)) (σ (1141 + i5))), .int s5]) O (ct_X3_clashesBetween hl (f := σ (1141 + r)) (g := σ (1141 + i5)) ((ir_1140 (k := r) (by omega)).getE rfl) ((ir_1140 (k := i5) (by omega)).getE rfl)) ce_X3_clashesBetween ml_X3_58 st_X3_clashesBetween (xx_dt dd_X3_clashesOf 21 rfl) (by decide) rfl rfl (Nat.le_of_ble_eq_true rfl) rfl ?_
        refine sw_iadd O (xx_dt dd_X3_clashesOf 22 rfl) ?_
        refine sw_istore_n (ls2 := [.ref 1005, .ref 1001, .int (nI r), .int (s5 + (f_clashesBetween (σ (1141 + r)) (σ (1141 + i5)))), .int (nI i5)]) O (xx_dt dd_X3_clashesOf 23 rfl) (by decide) rfl ?_
        refine sw_iinc (y := nI (i5 + 1)) (ls2 := [.ref 1005, .ref 1001, .int (nI r), .int (s5 + (f_clashesBetween (σ (1141 + r)) (σ (1141 + i5)))), .int (nI (i5 + 1))]) O (xx_dt dd_X3_clashesOf 24 rfl) rfl (nI_1 _) (by decide) rfl ?_
        refine sw_goto (tgt := 5) O (xx_dt dd_X3_clashesOf 25 rfl) (by decide) ?_
        simp only [if_neg q2] at kk5
        exact kk5
  · show SW Y _ _ (setC σ h) 5 [.ref 1005, .ref 1001, .int (nI r), .int (x_clashesOf_5 σ r 0), .int (nI r)] []
    refine sw_iload O (xx_dt dd_X3_clashesOf 4 rfl) rfl ?_
    refine sw_iload_n O (xx_dt dd_X3_clashesOf 5 rfl) rfl ?_
    refine sw_icmp_ge (tgt := 46) O (xx_dt dd_X3_clashesOf 6 rfl) (by decide) (fun q1 => ?_) (fun q1 => ?_)
    · refine sw_iload_n O (xx_dt dd_X3_clashesOf 26 rfl) rfl ?_
      exact sw_iret O (xx_dt dd_X3_clashesOf 27 rfl) rfl rfl (by rw [hQ]; exact ⟨by unfold f_clashesOf; rfl, rfl⟩)
    · exact absurd (Int32.le_refl _) q1
def x_heldBy_5 (σ : XS9) (x : Int32) (r : Nat) (s0 : Int32) : Int32 := xit (fun i5 s5 => (if (σ (1141 + r) i5) = x then s5 + 1 else s5)) 5 0 s0
def f_heldBy (σ : XS9) (x : Int32) (r : Nat) : Int32 := (x_heldBy_5 σ x r 0)
theorem ct_X3_heldBy {l : Launch} {h : XH} (hl : l.stackTraces = false) {σ : XS9} {x : Int32} {r : Nat} (hr : r < 5) : XEx l m_X3_heldBy 0 0 0 [.ref 1005, .int x, .int (nI r)] (setC σ h) (some (.int (f_heldBy σ x r))) (setC σ h) := by
  refine XMet.of hl rfl rfl (Nat.le_of_ble_eq_true rfl) (fun Y O hh hQ => ?_)
  show SW Y 0 0 (setC σ h) 0 [.ref 1005, .int x, .int (nI r), xx_d, xx_d] []
  refine sw_iconst (x := 0) O (xx_dt dd_X3_heldBy 0 rfl) (by decide) ?_
  refine sw_istore_n (ls2 := [.ref 1005, .int x, .int (nI r), .int 0, xx_d]) O (xx_dt dd_X3_heldBy 1 rfl) (by decide) rfl ?_
  refine sw_iconst (x := 0) O (xx_dt dd_X3_heldBy 2 rfl) (by decide) ?_
  refine sw_istore (ls2 := [.ref 1005, .int x, .int (nI r), .int 0, .int 0]) O (xx_dt dd_X3_heldBy 3 rfl) (by decide) rfl ?_
  refine sw_for (fun i5 s5 => (if (σ (1141 + r) i5) = x then s5 + 1 else s5)) (fun _ _ => True) (hp := fun _ => setC σ h) (hd := 5) (lc := fun i5 s5 => [.ref 1005, .int x, .int (nI r), .int s5, .int (nI i5)]) (N := 5) (fun i5 s5 hi5 hP5 => ⟨trivial, fun kk5 => ?_⟩) 5 0 0 (by omega) (trivial) (fun hP5 => ?_)
  · refine sw_iload O (xx_dt dd_X3_heldBy 4 rfl) rfl ?_
    refine sw_iconst (x := 5) O (xx_dt dd_X3_heldBy 5 rfl) (by decide) ?_
    refine sw_icmp_ge (tgt := 33) O (xx_dt dd_X3_heldBy 6 rfl) (by decide) (fun q1 => ?_) (fun q1 => ?_)
    · exact absurd q1 (nI_ge (b := 5) hi5 (by omega))
    · refine sw_aload_n O (xx_dt dd_X3_heldBy 7 rfl) rfl ?_
      refine sw_get (v := .ref 1140) O (xx_dt dd_X3_heldBy 8 rfl) cl_X3 fl_X3_11 (ly_1005 σ h) (by decide) rfl ?_
      refine sw_iload_n O (xx_dt dd_X3_heldBy 9 rfl) rfl ?_
      refine sw_aaload (v := .ref (1141 + r)) O (xx_dt dd_X3_heldBy 10 rfl) (by omega) (by omega) (ly_1140 σ h) (pk_in r _ (by omega)) (by rw [nI_clamp (by omega)]; try exact rfl) ?_
      refine sw_iload O (xx_dt dd_X3_heldBy 11 rfl) rfl ?_
      refine sw_iaload (v := .int (σ (1141 + r) i5)) O (xx_dt dd_X3_heldBy 12 rfl) (lr_1140 σ h (k := r) (by omega)) (pk_in i5 _ (by omega)) (by rw [nI_clamp (by omega)]; try exact rfl) ?_
      refine sw_iload_n O (xx_dt dd_X3_heldBy 13 rfl) rfl ?_
      refine sw_icmp_ne (tgt := 27) O (xx_dt dd_X3_heldBy 14 rfl) (by decide) (fun q2 => ?_) (fun q2 => ?_)
      · refine sw_iinc (y := nI (i5 + 1)) (ls2 := [.ref 1005, .int x, .int (nI r), .int s5, .int (nI (i5 + 1))]) O (xx_dt dd_X3_heldBy 16 rfl) rfl (nI_1 _) (by decide) rfl ?_
        refine sw_goto (tgt := 5) O (xx_dt dd_X3_heldBy 17 rfl) (by decide) ?_
        simp only [if_neg q2] at kk5
        exact kk5
      · refine sw_iinc (y := s5 + 1) (ls2 := [.ref 1005, .int x, .int (nI r), .int (s5 + 1), .int (nI i5)]) O (xx_dt dd_X3_heldBy 15 rfl) rfl rfl (by decide) rfl ?_
        refine sw_iinc (y := nI (i5 + 1)) (ls2 := [.ref 1005, .int x, .int (nI r), .int (s5 + 1), .int (nI (i5 + 1))]) O (xx_dt dd_X3_heldBy 16 rfl) rfl (nI_1 _) (by decide) rfl ?_
        refine sw_goto (tgt := 5) O (xx_dt dd_X3_heldBy 17 rfl) (by decide) ?_
        simp only [if_pos q2] at kk5
        exact kk5
  · show SW Y _ _ (setC σ h) 5 [.ref 1005, .int x, .int (nI r), .int (x_heldBy_5 σ x r 0), .int (nI 5)] []
    refine sw_iload O (xx_dt dd_X3_heldBy 4 rfl) rfl ?_
    refine sw_iconst (x := 5) O (xx_dt dd_X3_heldBy 5 rfl) (by decide) ?_
    refine sw_icmp_ge (tgt := 33) O (xx_dt dd_X3_heldBy 6 rfl) (by decide) (fun q1 => ?_) (fun q1 => ?_)
    · refine sw_iload_n O (xx_dt dd_X3_heldBy 18 rfl) rfl ?_
      exact sw_iret O (xx_dt dd_X3_heldBy 19 rfl) rfl rfl (by rw [hQ]; exact ⟨by unfold f_heldBy; rfl, rfl⟩)
    · exact absurd (Int32.le_refl _) q1
end
section
/-! ===== the sale ===== -/
def f_paymentOf (σ : XS9) (i w : Nat) : Int32 := (if (σ 1000 7) = 3 then σ (1131 + w) i else 0)
theorem ct_X7_paymentOf {l : Launch} {h : XH} (hl : l.stackTraces = false) {σ : XS9} {w : Nat} (hw : σ 1000 9 = nI w) (hw3 : w < 3) {i : Nat} (hi : i < 6) : XEx l m_X7_paymentOf 0 0 0 [.ref 1000, .int (nI i)] (setC σ h) (some (.int (f_paymentOf σ i w))) (setC σ h) := by
  refine XMet.of hl rfl rfl (Nat.le_of_ble_eq_true rfl) (fun Y O hh hQ => ?_)
  show SW Y 0 0 (setC σ h) 0 [.ref 1000, .int (nI i)] []
  refine sw_aload_n O (xx_dt dd_X7_paymentOf 0 rfl) rfl ?_
  refine sw_get (v := .int (σ 1000 7)) O (xx_dt dd_X7_paymentOf 1 rfl) cl_X7 fl_X7_54 (ly_1000 σ h) (by decide) rfl ?_
  refine sw_iconst (x := 3) O (xx_dt dd_X7_paymentOf 2 rfl) (by decide) ?_
  refine sw_icmp_ne (tgt := 25) O (xx_dt dd_X7_paymentOf 3 rfl) (by decide) (fun q1 => ?_) (fun q1 => ?_)
  · refine sw_iconst (x := 0) O (xx_dt dd_X7_paymentOf 13 rfl) (by decide) ?_
    exact sw_iret O (xx_dt dd_X7_paymentOf 14 rfl) rfl rfl (by rw [hQ]; exact ⟨by unfold f_paymentOf; simp only [if_neg q1], rfl⟩)
  · refine sw_aload_n O (xx_dt dd_X7_paymentOf 4 rfl) rfl ?_
    refine sw_get (v := .ref 1004) O (xx_dt dd_X7_paymentOf 5 rfl) cl_X7 fl_X7_36 (ly_1000 σ h) (by decide) rfl ?_
    refine sw_get (v := .ref 1130) O (xx_dt dd_X7_paymentOf 6 rfl) cl_X4 fl_X7_310 (ly_1004 σ h) (by decide) rfl ?_
    refine sw_aload_n O (xx_dt dd_X7_paymentOf 7 rfl) rfl ?_
    refine sw_get (v := .int (nI w)) O (xx_dt dd_X7_paymentOf 8 rfl) cl_X7 fl_X7_190 (ly_1000 σ h) (by decide) (congrArg Value.int hw) ?_
    refine sw_aaload (v := .ref (1131 + w)) O (xx_dt dd_X7_paymentOf 9 rfl) (by omega) (by omega) (ly_1130 σ h) (pk_in w _ (by omega)) (by rw [nI_clamp (by omega)]; try exact rfl) ?_
    refine sw_iload_n O (xx_dt dd_X7_paymentOf 10 rfl) rfl ?_
    refine sw_iaload (v := .int (σ (1131 + w) i)) O (xx_dt dd_X7_paymentOf 11 rfl) (lr_1130 σ h (k := w) (by omega)) (pk_in i _ (by omega)) (by rw [nI_clamp (by omega)]; try exact rfl) ?_
    refine sw_goto (tgt := 26) O (xx_dt dd_X7_paymentOf 12 rfl) (by decide) ?_
    exact sw_iret O (xx_dt dd_X7_paymentOf 14 rfl) rfl rfl (by rw [hQ]; exact ⟨by unfold f_paymentOf; simp only [if_pos q1], rfl⟩)
def f_dueOf (σ : XS9) (i w : Nat) : Int32 := ((f_paymentOf σ i w) * (100 - (σ 1016 i))) / 100
theorem ct_X7_dueOf {l : Launch} {h : XH} (hl : l.stackTraces = false) {σ : XS9} {w : Nat} (hw : σ 1000 9 = nI w) (hw3 : w < 3) {i : Nat} (hi : i < 6) : XEx l m_X7_dueOf 1 0 0 [.ref 1000, .int (nI i)] (setC σ h) (some (.int (f_dueOf σ i w))) (setC σ h) := by
  refine XMet.of hl rfl rfl (Nat.le_of_ble_eq_true rfl) (fun Y O hh hQ => ?_)
  show SW Y 0 0 (setC σ h) 0 [.ref 1000, .int (nI i)] []
  refine sw_aload_n O (xx_dt dd_X7_dueOf 0 rfl) rfl ?_
  refine sw_iload_n O (xx_dt dd_X7_dueOf 1 rfl) rfl ?_
  refine sw_callVx (as := [.int (nI i)]) (st := []) (st2 := [.int (f_paymentOf σ i w)]) O (ct_X7_paymentOf hl (σ := σ) (w := w) hw (by omega) (i := i) (by omega)) ce_X7_paymentOf ml_X7_282 iv_X7_paymentOf cl_X7 rfl (ly_1000 σ h) (xx_dt dd_X7_dueOf 2 rfl) (by decide) rfl rfl (Nat.le_of_ble_eq_true rfl) rfl ?_
  refine sw_bipush (x := 100) O (xx_dt dd_X7_dueOf 3 rfl) (by decide) ?_
  refine sw_aload_n O (xx_dt dd_X7_dueOf 4 rfl) rfl ?_
  refine sw_get (v := .ref 1001) O (xx_dt dd_X7_dueOf 5 rfl) cl_X7 fl_X7_12 (ly_1000 σ h) (by decide) rfl ?_
  refine sw_get (v := .ref 1016) O (xx_dt dd_X7_dueOf 6 rfl) cl_X6 fl_X7_387 (ly_1001 σ h) (by decide) rfl ?_
  refine sw_iload_n O (xx_dt dd_X7_dueOf 7 rfl) rfl ?_
  refine sw_iaload (v := .int (σ 1016 i)) O (xx_dt dd_X7_dueOf 8 rfl) (ly_1016 σ h) (pk_in i _ (by omega)) (by rw [nI_clamp (by omega)]; try exact rfl) ?_
  refine sw_isub O (xx_dt dd_X7_dueOf 9 rfl) ?_
  refine sw_imul O (xx_dt dd_X7_dueOf 10 rfl) ?_
  refine sw_bipush (x := 100) O (xx_dt dd_X7_dueOf 11 rfl) (by decide) ?_
  refine sw_idiv O (xx_dt dd_X7_dueOf 12 rfl) (by first | decide | assumption) ?_
  exact sw_iret O (xx_dt dd_X7_dueOf 13 rfl) rfl rfl (by rw [hQ]; exact ⟨by unfold f_dueOf; rfl, rfl⟩)
def x_allDue_4 (σ : XS9) (w B : Nat) (s0 : Int32) : Int32 := xit (fun i4 s4 => s4 + (f_dueOf σ i4 w)) B 0 s0
def f_allDue (σ : XS9) (w B : Nat) : Int32 := (x_allDue_4 σ w B 0)
theorem ct_X7_allDue {l : Launch} {h : XH} (hl : l.stackTraces = false) {σ : XS9} {w : Nat} (hw : σ 1000 9 = nI w) (hw3 : w < 3) {B : Nat} (hB : σ 1001 9 = nI B) (hB6 : B ≤ 6)  : XEx l m_X7_allDue 2 0 0 [.ref 1000] (setC σ h) (some (.int (f_allDue σ w B))) (setC σ h) := by
  refine XMet.of hl rfl rfl (Nat.le_of_ble_eq_true rfl) (fun Y O hh hQ => ?_)
  show SW Y 0 0 (setC σ h) 0 [.ref 1000, xx_d, xx_d] []
  refine sw_iconst (x := 0) O (xx_dt dd_X7_allDue 0 rfl) (by decide) ?_
  refine sw_istore_n (ls2 := [.ref 1000, .int 0, xx_d]) O (xx_dt dd_X7_allDue 1 rfl) (by decide) rfl ?_
  refine sw_iconst (x := 0) O (xx_dt dd_X7_allDue 2 rfl) (by decide) ?_
  refine sw_istore_n (ls2 := [.ref 1000, .int 0, .int 0]) O (xx_dt dd_X7_allDue 3 rfl) (by decide) rfl ?_
  refine sw_for (fun i4 s4 => s4 + (f_dueOf σ i4 w)) (fun _ _ => True) (hp := fun _ => setC σ h) (hd := 4) (lc := fun i4 s4 => [.ref 1000, .int s4, .int (nI i4)]) (N := B) (fun i4 s4 hi4 hP4 => ⟨trivial, fun kk4 => ?_⟩) B 0 0 (by omega) (trivial) (fun hP4 => ?_)
  · refine sw_iload_n O (xx_dt dd_X7_allDue 4 rfl) rfl ?_
    refine sw_aload_n O (xx_dt dd_X7_allDue 5 rfl) rfl ?_
    refine sw_get (v := .ref 1001) O (xx_dt dd_X7_allDue 6 rfl) cl_X7 fl_X7_12 (ly_1000 σ h) (by decide) rfl ?_
    refine sw_get (v := .int (nI B)) O (xx_dt dd_X7_allDue 7 rfl) cl_X6 fl_X7_100 (ly_1001 σ h) (by decide) (congrArg Value.int hB) ?_
    refine sw_icmp_ge (tgt := 29) O (xx_dt dd_X7_allDue 8 rfl) (by decide) (fun q1 => ?_) (fun q1 => ?_)
    · exact absurd q1 (nI_ge (b := B) hi4 (by omega))
    · refine sw_iload_n O (xx_dt dd_X7_allDue 9 rfl) rfl ?_
      refine sw_aload_n O (xx_dt dd_X7_allDue 10 rfl) rfl ?_
      refine sw_iload_n O (xx_dt dd_X7_allDue 11 rfl) rfl ?_
      refine sw_callVx (as := [.int (nI i4)]) (st := [.int s4]) (st2 := [.int (f_dueOf σ i4 w), .int s4]) O (ct_X7_dueOf hl (σ := σ) (w := w) hw (by omega) (i := i4) (by omega)) ce_X7_dueOf ml_X7_279 iv_X7_dueOf cl_X7 rfl (ly_1000 σ h) (xx_dt dd_X7_allDue 12 rfl) (by decide) rfl rfl (Nat.le_of_ble_eq_true rfl) rfl ?_
      refine sw_iadd O (xx_dt dd_X7_allDue 13 rfl) ?_
      refine sw_istore_n (ls2 := [.ref 1000, .int (s4 + (f_dueOf σ i4 w)), .int (nI i4)]) O (xx_dt dd_X7_allDue 14 rfl) (by decide) rfl ?_
      refine sw_iinc (y := nI (i4 + 1)) (ls2 := [.ref 1000, .int (s4 + (f_dueOf σ i4 w)), .int (nI (i4 + 1))]) O (xx_dt dd_X7_allDue 15 rfl) rfl (nI_1 _) (by decide) rfl ?_
      refine sw_goto (tgt := 4) O (xx_dt dd_X7_allDue 16 rfl) (by decide) ?_
      exact kk4
  · show SW Y _ _ (setC σ h) 4 [.ref 1000, .int (x_allDue_4 σ w B 0), .int (nI B)] []
    refine sw_iload_n O (xx_dt dd_X7_allDue 4 rfl) rfl ?_
    refine sw_aload_n O (xx_dt dd_X7_allDue 5 rfl) rfl ?_
    refine sw_get (v := .ref 1001) O (xx_dt dd_X7_allDue 6 rfl) cl_X7 fl_X7_12 (ly_1000 σ h) (by decide) rfl ?_
    refine sw_get (v := .int (nI B)) O (xx_dt dd_X7_allDue 7 rfl) cl_X6 fl_X7_100 (ly_1001 σ h) (by decide) (congrArg Value.int hB) ?_
    refine sw_icmp_ge (tgt := 29) O (xx_dt dd_X7_allDue 8 rfl) (by decide) (fun q1 => ?_) (fun q1 => ?_)
    · refine sw_iload_n O (xx_dt dd_X7_allDue 17 rfl) rfl ?_
      exact sw_iret O (xx_dt dd_X7_allDue 18 rfl) rfl rfl (by rw [hQ]; exact ⟨by unfold f_allDue; rfl, rfl⟩)
    · exact absurd (Int32.le_refl _) q1
def f_roundNow (σ : XS9) (K : Nat) : Int32 := (if (σ 1000 7) = 1 then nI (K + 1) else nI K)
theorem ct_X7_roundNow {l : Launch} {h : XH} (hl : l.stackTraces = false) {σ : XS9} {K : Nat} (hK : σ 2000 9 = nI K) (hK60 : K ≤ 60) : XEx l m_X7_roundNow 0 0 0 [.ref 1000] (setC σ h) (some (.int (f_roundNow σ K))) (setC σ h) := by
  refine XMet.of hl rfl rfl (Nat.le_of_ble_eq_true rfl) (fun Y O hh hQ => ?_)
  show SW Y 0 0 (setC σ h) 0 [.ref 1000] []
  refine sw_aload_n O (xx_dt dd_X7_roundNow 0 rfl) rfl ?_
  refine sw_get (v := .int (σ 1000 7)) O (xx_dt dd_X7_roundNow 1 rfl) cl_X7 fl_X7_54 (ly_1000 σ h) (by decide) rfl ?_
  refine sw_iconst (x := 1) O (xx_dt dd_X7_roundNow 2 rfl) (by decide) ?_
  refine sw_icmp_ne (tgt := 20) O (xx_dt dd_X7_roundNow 3 rfl) (by decide) (fun q1 => ?_) (fun q1 => ?_)
  · refine sw_aload_n O (xx_dt dd_X7_roundNow 10 rfl) rfl ?_
    refine sw_get (v := .ref 2000) O (xx_dt dd_X7_roundNow 11 rfl) cl_X7 fl_X7_19 (ly_1000 σ h) (by decide) rfl ?_
    refine sw_get (v := .int (nI K)) O (xx_dt dd_X7_roundNow 12 rfl) cl_X1 fl_X7_379 (lk_0 σ h (.inl rfl)) (by decide) (congrArg Value.int hK) ?_
    exact sw_iret O (xx_dt dd_X7_roundNow 13 rfl) rfl rfl (by rw [hQ]; exact ⟨by unfold f_roundNow; simp only [if_neg q1], rfl⟩)
  · refine sw_aload_n O (xx_dt dd_X7_roundNow 4 rfl) rfl ?_
    refine sw_get (v := .ref 2000) O (xx_dt dd_X7_roundNow 5 rfl) cl_X7 fl_X7_19 (ly_1000 σ h) (by decide) rfl ?_
    refine sw_get (v := .int (nI K)) O (xx_dt dd_X7_roundNow 6 rfl) cl_X1 fl_X7_379 (lk_0 σ h (.inl rfl)) (by decide) (congrArg Value.int hK) ?_
    refine sw_iconst (x := 1) O (xx_dt dd_X7_roundNow 7 rfl) (by decide) ?_
    refine sw_iadd O (xx_dt dd_X7_roundNow 8 rfl) ?_
    rw [nI_a1 K]
    refine sw_goto (tgt := 27) O (xx_dt dd_X7_roundNow 9 rfl) (by decide) ?_
    exact sw_iret O (xx_dt dd_X7_roundNow 13 rfl) rfl rfl (by rw [hQ]; exact ⟨by unfold f_roundNow; simp only [if_pos q1], rfl⟩)
def x_isReplaySame_2 (σ : XS9) (R B : Nat) (s0 : Unit) : Unit ⊕ Int32 := xitR (fun i2 s2 => (if (σ (3000 + 1) i2) = (σ (2000 + 1) i2) then .inl () else .inr 0)) R 0 s0
def x_isReplaySame_44 (σ : XS9) (R B : Nat) (s0 : Unit) : Unit ⊕ Int32 := xitR (fun i44 s44 => (if (σ (3000 + 2) i44) = (σ (2000 + 2) i44) then .inl () else .inr 0)) B 0 s0
def f_isReplaySame (σ : XS9) (R B : Nat) : Int32 := (match (x_isReplaySame_2 σ R B ()) with | .inl s2 => (match (x_isReplaySame_44 σ R B ()) with | .inl s44 => 1 | .inr r44 => r44) | .inr r2 => r2)
theorem ct_X7_isReplaySame {l : Launch} {h : XH} (hl : l.stackTraces = false) {σ : XS9} {R : Nat} (hR : σ 1001 4 = nI R) (hR5 : R ≤ 5) {B : Nat} (hB : σ 1001 9 = nI B) (hB6 : B ≤ 6)  : XEx l m_X7_isReplaySame 0 0 0 [.ref 1000] (setC σ h) (some (.int (f_isReplaySame σ R B))) (setC σ h) := by
  refine XMet.of hl rfl rfl (Nat.le_of_ble_eq_true rfl) (fun Y O hh hQ => ?_)
  show SW Y 0 0 (setC σ h) 0 [.ref 1000, xx_d] []
  refine sw_iconst (x := 0) O (xx_dt dd_X7_isReplaySame 0 rfl) (by decide) ?_
  refine sw_istore_n (ls2 := [.ref 1000, .int 0]) O (xx_dt dd_X7_isReplaySame 1 rfl) (by decide) rfl ?_
  refine sw_forR (R := Int32) (fun i2 s2 => (if (σ (3000 + 1) i2) = (σ (2000 + 1) i2) then .inl () else .inr 0)) (fun _ _ => True) (FR := fun r => f_isReplaySame σ R B = r) (hp := fun _ => setC σ h) (hd := 2) (lc := fun i2 s2 => [.ref 1000, .int (nI i2)]) (N := R) (fun i2 s2 hi2 hP2 => ⟨fun _ _ => trivial, fun kk2 kr2 => ?_⟩) R 0 () (by omega) (trivial) (fun sN2 eN2 hP2 => ?_) (fun r2 eN2 => ?_)
  · refine sw_iload_n O (xx_dt dd_X7_isReplaySame 2 rfl) rfl ?_
    refine sw_aload_n O (xx_dt dd_X7_isReplaySame 3 rfl) rfl ?_
    refine sw_get (v := .ref 1001) O (xx_dt dd_X7_isReplaySame 4 rfl) cl_X7 fl_X7_12 (ly_1000 σ h) (by decide) rfl ?_
    refine sw_get (v := .int (nI R)) O (xx_dt dd_X7_isReplaySame 5 rfl) cl_X6 fl_X7_69 (ly_1001 σ h) (by decide) (congrArg Value.int hR) ?_
    refine sw_icmp_ge (tgt := 42) O (xx_dt dd_X7_isReplaySame 6 rfl) (by decide) (fun q1 => ?_) (fun q1 => ?_)
    · exact absurd q1 (nI_ge (b := R) hi2 (by omega))
    · refine sw_aload_n O (xx_dt dd_X7_isReplaySame 7 rfl) rfl ?_
      refine sw_get (v := .ref 3000) O (xx_dt dd_X7_isReplaySame 8 rfl) cl_X7 fl_X7_23 (ly_1000 σ h) (by decide) rfl ?_
      refine sw_get (v := .ref (3000 + 1)) O (xx_dt dd_X7_isReplaySame 9 rfl) cl_X1 fl_X7_393 (lk_0 σ h (.inr rfl)) (by decide) rfl ?_
      refine sw_iload_n O (xx_dt dd_X7_isReplaySame 10 rfl) rfl ?_
      refine sw_iaload (v := .int (σ (3000 + 1) i2)) O (xx_dt dd_X7_isReplaySame 11 rfl) (lk_1 σ h (.inr rfl)) (pk_in i2 _ (by omega)) (by rw [nI_clamp (by omega)]; try exact rfl) ?_
      refine sw_aload_n O (xx_dt dd_X7_isReplaySame 12 rfl) rfl ?_
      refine sw_get (v := .ref 2000) O (xx_dt dd_X7_isReplaySame 13 rfl) cl_X7 fl_X7_19 (ly_1000 σ h) (by decide) rfl ?_
      refine sw_get (v := .ref (2000 + 1)) O (xx_dt dd_X7_isReplaySame 14 rfl) cl_X1 fl_X7_393 (lk_0 σ h (.inl rfl)) (by decide) rfl ?_
      refine sw_iload_n O (xx_dt dd_X7_isReplaySame 15 rfl) rfl ?_
      refine sw_iaload (v := .int (σ (2000 + 1) i2)) O (xx_dt dd_X7_isReplaySame 16 rfl) (lk_1 σ h (.inl rfl)) (pk_in i2 _ (by omega)) (by rw [nI_clamp (by omega)]; try exact rfl) ?_
      refine sw_icmp_eq (tgt := 36) O (xx_dt dd_X7_isReplaySame 17 rfl) (by decide) (fun q2 => ?_) (fun q2 => ?_)
      · refine sw_iinc (y := nI (i2 + 1)) (ls2 := [.ref 1000, .int (nI (i2 + 1))]) O (xx_dt dd_X7_isReplaySame 20 rfl) rfl (nI_1 _) (by decide) rfl ?_
        refine sw_goto (tgt := 2) O (xx_dt dd_X7_isReplaySame 21 rfl) (by decide) ?_
        exact kk2 () (by simp only [if_pos q2])
      · refine sw_iconst (x := 0) O (xx_dt dd_X7_isReplaySame 18 rfl) (by decide) ?_
        exact sw_iret O (xx_dt dd_X7_isReplaySame 19 rfl) rfl rfl (by rw [hQ, kr2 0 (by simp only [if_neg q2])]; exact ⟨rfl, rfl⟩)
  · show SW Y _ _ (setC σ h) 2 [.ref 1000, .int (nI R)] []
    refine sw_iload_n O (xx_dt dd_X7_isReplaySame 2 rfl) rfl ?_
    refine sw_aload_n O (xx_dt dd_X7_isReplaySame 3 rfl) rfl ?_
    refine sw_get (v := .ref 1001) O (xx_dt dd_X7_isReplaySame 4 rfl) cl_X7 fl_X7_12 (ly_1000 σ h) (by decide) rfl ?_
    refine sw_get (v := .int (nI R)) O (xx_dt dd_X7_isReplaySame 5 rfl) cl_X6 fl_X7_69 (ly_1001 σ h) (by decide) (congrArg Value.int hR) ?_
    refine sw_icmp_ge (tgt := 42) O (xx_dt dd_X7_isReplaySame 6 rfl) (by decide) (fun q1 => ?_) (fun q1 => ?_)
    · refine sw_iconst (x := 0) O (xx_dt dd_X7_isReplaySame 22 rfl) (by decide) ?_
      refine sw_istore_n (ls2 := [.ref 1000, .int 0]) O (xx_dt dd_X7_isReplaySame 23 rfl) (by decide) rfl ?_
      refine sw_forR (R := Int32) (fun i44 s44 => (if (σ (3000 + 2) i44) = (σ (2000 + 2) i44) then .inl () else .inr 0)) (fun _ _ => True) (FR := fun r => f_isReplaySame σ R B = r) (hp := fun _ => setC σ h) (hd := 44) (lc := fun i44 s44 => [.ref 1000, .int (nI i44)]) (N := B) (fun i44 s44 hi44 hP44 => ⟨fun _ _ => trivial, fun kk44 kr44 => ?_⟩) B 0 () (by omega) (trivial) (fun sN44 eN44 hP44 => ?_) (fun r44 eN44 => ?_)
      · refine sw_iload_n O (xx_dt dd_X7_isReplaySame 24 rfl) rfl ?_
        refine sw_aload_n O (xx_dt dd_X7_isReplaySame 25 rfl) rfl ?_
        refine sw_get (v := .ref 1001) O (xx_dt dd_X7_isReplaySame 26 rfl) cl_X7 fl_X7_12 (ly_1000 σ h) (by decide) rfl ?_
        refine sw_get (v := .int (nI B)) O (xx_dt dd_X7_isReplaySame 27 rfl) cl_X6 fl_X7_100 (ly_1001 σ h) (by decide) (congrArg Value.int hB) ?_
        refine sw_icmp_ge (tgt := 84) O (xx_dt dd_X7_isReplaySame 28 rfl) (by decide) (fun q3 => ?_) (fun q3 => ?_)
        · exact absurd q3 (nI_ge (b := B) hi44 (by omega))
        · refine sw_aload_n O (xx_dt dd_X7_isReplaySame 29 rfl) rfl ?_
          refine sw_get (v := .ref 3000) O (xx_dt dd_X7_isReplaySame 30 rfl) cl_X7 fl_X7_23 (ly_1000 σ h) (by decide) rfl ?_
          refine sw_get (v := .ref (3000 + 2)) O (xx_dt dd_X7_isReplaySame 31 rfl) cl_X1 fl_X7_249 (lk_0 σ h (.inr rfl)) (by decide) rfl ?_
          refine sw_iload_n O (xx_dt dd_X7_isReplaySame 32 rfl) rfl ?_
          refine sw_iaload (v := .int (σ (3000 + 2) i44)) O (xx_dt dd_X7_isReplaySame 33 rfl) (lk_2 σ h (.inr rfl)) (pk_in i44 _ (by omega)) (by rw [nI_clamp (by omega)]; try exact rfl) ?_
          refine sw_aload_n O (xx_dt dd_X7_isReplaySame 34 rfl) rfl ?_
          refine sw_get (v := .ref 2000) O (xx_dt dd_X7_isReplaySame 35 rfl) cl_X7 fl_X7_19 (ly_1000 σ h) (by decide) rfl ?_
          refine sw_get (v := .ref (2000 + 2)) O (xx_dt dd_X7_isReplaySame 36 rfl) cl_X1 fl_X7_249 (lk_0 σ h (.inl rfl)) (by decide) rfl ?_
          refine sw_iload_n O (xx_dt dd_X7_isReplaySame 37 rfl) rfl ?_
          refine sw_iaload (v := .int (σ (2000 + 2) i44)) O (xx_dt dd_X7_isReplaySame 38 rfl) (lk_2 σ h (.inl rfl)) (pk_in i44 _ (by omega)) (by rw [nI_clamp (by omega)]; try exact rfl) ?_
          refine sw_icmp_eq (tgt := 78) O (xx_dt dd_X7_isReplaySame 39 rfl) (by decide) (fun q4 => ?_) (fun q4 => ?_)
          · refine sw_iinc (y := nI (i44 + 1)) (ls2 := [.ref 1000, .int (nI (i44 + 1))]) O (xx_dt dd_X7_isReplaySame 42 rfl) rfl (nI_1 _) (by decide) rfl ?_
            refine sw_goto (tgt := 44) O (xx_dt dd_X7_isReplaySame 43 rfl) (by decide) ?_
            exact kk44 () (by simp only [if_pos q4])
          · refine sw_iconst (x := 0) O (xx_dt dd_X7_isReplaySame 40 rfl) (by decide) ?_
            exact sw_iret O (xx_dt dd_X7_isReplaySame 41 rfl) rfl rfl (by rw [hQ, kr44 0 (by simp only [if_neg q4])]; exact ⟨rfl, rfl⟩)
      · show SW Y _ _ (setC σ h) 44 [.ref 1000, .int (nI B)] []
        refine sw_iload_n O (xx_dt dd_X7_isReplaySame 24 rfl) rfl ?_
        refine sw_aload_n O (xx_dt dd_X7_isReplaySame 25 rfl) rfl ?_
        refine sw_get (v := .ref 1001) O (xx_dt dd_X7_isReplaySame 26 rfl) cl_X7 fl_X7_12 (ly_1000 σ h) (by decide) rfl ?_
        refine sw_get (v := .int (nI B)) O (xx_dt dd_X7_isReplaySame 27 rfl) cl_X6 fl_X7_100 (ly_1001 σ h) (by decide) (congrArg Value.int hB) ?_
        refine sw_icmp_ge (tgt := 84) O (xx_dt dd_X7_isReplaySame 28 rfl) (by decide) (fun q3 => ?_) (fun q3 => ?_)
        · refine sw_iconst (x := 1) O (xx_dt dd_X7_isReplaySame 44 rfl) (by decide) ?_
          exact sw_iret O (xx_dt dd_X7_isReplaySame 45 rfl) rfl rfl (by rw [hQ]; exact ⟨by unfold f_isReplaySame; simp only [x_isReplaySame_2, eN2, x_isReplaySame_44, eN44], rfl⟩)
        · exact absurd (Int32.le_refl _) q3
      · unfold f_isReplaySame; simp only [x_isReplaySame_44, x_isReplaySame_2, eN2, eN44]
    · exact absurd (Int32.le_refl _) q1
  · unfold f_isReplaySame; simp only [x_isReplaySame_2, eN2]
def x_isClockSound_2 (σ : XS9) (R B : Nat) (s0 : Unit) : Unit ⊕ Int32 := xitR (fun i2 s2 => (if (σ 1012 i2) ≤ (σ (2000 + 1) i2) then .inl () else .inr 0)) R 0 s0
def x_isClockSound_44 (σ : XS9) (R B : Nat) (s0 : Unit) : Unit ⊕ Int32 := xitR (fun i44 s44 => (if (σ (2000 + 4) i44) < 0 then .inr 0 else (if (f_isWithin (σ (2000 + 2) i44) 5 (σ 1010)) = 0 then .inr 0 else .inl ()))) B 0 s0
def f_isClockSound (σ : XS9) (R B : Nat) : Int32 := (match (x_isClockSound_2 σ R B ()) with | .inl s2 => (match (x_isClockSound_44 σ R B ()) with | .inl s44 => 1 | .inr r44 => r44) | .inr r2 => r2)
theorem ct_X7_isClockSound {l : Launch} {h : XH} (hl : l.stackTraces = false) {σ : XS9} {R : Nat} (hR : σ 1001 4 = nI R) (hR5 : R ≤ 5) {B : Nat} (hB : σ 1001 9 = nI B) (hB6 : B ≤ 6)  : XEx l m_X7_isClockSound 1 0 0 [.ref 1000] (setC σ h) (some (.int (f_isClockSound σ R B))) (setC σ h) := by
  refine XMet.of hl rfl rfl (Nat.le_of_ble_eq_true rfl) (fun Y O hh hQ => ?_)
  show SW Y 0 0 (setC σ h) 0 [.ref 1000, xx_d] []
  refine sw_iconst (x := 0) O (xx_dt dd_X7_isClockSound 0 rfl) (by decide) ?_
  refine sw_istore_n (ls2 := [.ref 1000, .int 0]) O (xx_dt dd_X7_isClockSound 1 rfl) (by decide) rfl ?_
  refine sw_forR (R := Int32) (fun i2 s2 => (if (σ 1012 i2) ≤ (σ (2000 + 1) i2) then .inl () else .inr 0)) (fun _ _ => True) (FR := fun r => f_isClockSound σ R B = r) (hp := fun _ => setC σ h) (hd := 2) (lc := fun i2 s2 => [.ref 1000, .int (nI i2)]) (N := R) (fun i2 s2 hi2 hP2 => ⟨fun _ _ => trivial, fun kk2 kr2 => ?_⟩) R 0 () (by omega) (trivial) (fun sN2 eN2 hP2 => ?_) (fun r2 eN2 => ?_)
  · refine sw_iload_n O (xx_dt dd_X7_isClockSound 2 rfl) rfl ?_
    refine sw_aload_n O (xx_dt dd_X7_isClockSound 3 rfl) rfl ?_
    refine sw_get (v := .ref 1001) O (xx_dt dd_X7_isClockSound 4 rfl) cl_X7 fl_X7_12 (ly_1000 σ h) (by decide) rfl ?_
    refine sw_get (v := .int (nI R)) O (xx_dt dd_X7_isClockSound 5 rfl) cl_X6 fl_X7_69 (ly_1001 σ h) (by decide) (congrArg Value.int hR) ?_
    refine sw_icmp_ge (tgt := 42) O (xx_dt dd_X7_isClockSound 6 rfl) (by decide) (fun q1 => ?_) (fun q1 => ?_)
    · exact absurd q1 (nI_ge (b := R) hi2 (by omega))
    · refine sw_aload_n O (xx_dt dd_X7_isClockSound 7 rfl) rfl ?_
      refine sw_get (v := .ref 2000) O (xx_dt dd_X7_isClockSound 8 rfl) cl_X7 fl_X7_19 (ly_1000 σ h) (by decide) rfl ?_
      refine sw_get (v := .ref (2000 + 1)) O (xx_dt dd_X7_isClockSound 9 rfl) cl_X1 fl_X7_393 (lk_0 σ h (.inl rfl)) (by decide) rfl ?_
      refine sw_iload_n O (xx_dt dd_X7_isClockSound 10 rfl) rfl ?_
      refine sw_iaload (v := .int (σ (2000 + 1) i2)) O (xx_dt dd_X7_isClockSound 11 rfl) (lk_1 σ h (.inl rfl)) (pk_in i2 _ (by omega)) (by rw [nI_clamp (by omega)]; try exact rfl) ?_
      refine sw_aload_n O (xx_dt dd_X7_isClockSound 12 rfl) rfl ?_
      refine sw_get (v := .ref 1001) O (xx_dt dd_X7_isClockSound 13 rfl) cl_X7 fl_X7_12 (ly_1000 σ h) (by decide) rfl ?_
      refine sw_get (v := .ref 1012) O (xx_dt dd_X7_isClockSound 14 rfl) cl_X6 fl_X7_390 (ly_1001 σ h) (by decide) rfl ?_
      refine sw_iload_n O (xx_dt dd_X7_isClockSound 15 rfl) rfl ?_
      refine sw_iaload (v := .int (σ 1012 i2)) O (xx_dt dd_X7_isClockSound 16 rfl) (ly_1012 σ h) (pk_in i2 _ (by omega)) (by rw [nI_clamp (by omega)]; try exact rfl) ?_
      refine sw_icmp_ge (tgt := 36) O (xx_dt dd_X7_isClockSound 17 rfl) (by decide) (fun q2 => ?_) (fun q2 => ?_)
      · refine sw_iinc (y := nI (i2 + 1)) (ls2 := [.ref 1000, .int (nI (i2 + 1))]) O (xx_dt dd_X7_isClockSound 20 rfl) rfl (nI_1 _) (by decide) rfl ?_
        refine sw_goto (tgt := 2) O (xx_dt dd_X7_isClockSound 21 rfl) (by decide) ?_
        exact kk2 () (by simp only [if_pos q2])
      · refine sw_iconst (x := 0) O (xx_dt dd_X7_isClockSound 18 rfl) (by decide) ?_
        exact sw_iret O (xx_dt dd_X7_isClockSound 19 rfl) rfl rfl (by rw [hQ, kr2 0 (by simp only [if_neg q2])]; exact ⟨rfl, rfl⟩)
  · show SW Y _ _ (setC σ h) 2 [.ref 1000, .int (nI R)] []
    refine sw_iload_n O (xx_dt dd_X7_isClockSound 2 rfl) rfl ?_
    refine sw_aload_n O (xx_dt dd_X7_isClockSound 3 rfl) rfl ?_
    refine sw_get (v := .ref 1001) O (xx_dt dd_X7_isClockSound 4 rfl) cl_X7 fl_X7_12 (ly_1000 σ h) (by decide) rfl ?_
    refine sw_get (v := .int (nI R)) O (xx_dt dd_X7_isClockSound 5 rfl) cl_X6 fl_X7_69 (ly_1001 σ h) (by decide) (congrArg Value.int hR) ?_
    refine sw_icmp_ge (tgt := 42) O (xx_dt dd_X7_isClockSound 6 rfl) (by decide) (fun q1 => ?_) (fun q1 => ?_)
    · refine sw_iconst (x := 0) O (xx_dt dd_X7_isClockSound 22 rfl) (by decide) ?_
      refine sw_istore_n (ls2 := [.ref 1000, .int 0]) O (xx_dt dd_X7_isClockSound 23 rfl) (by decide) rfl ?_
      refine sw_forR (R := Int32) (fun i44 s44 => (if (σ (2000 + 4) i44) < 0 then .inr 0 else (if (f_isWithin (σ (2000 + 2) i44) 5 (σ 1010)) = 0 then .inr 0 else .inl ()))) (fun _ _ => True) (FR := fun r => f_isClockSound σ R B = r) (hp := fun _ => setC σ h) (hd := 44) (lc := fun i44 s44 => [.ref 1000, .int (nI i44)]) (N := B) (fun i44 s44 hi44 hP44 => ⟨fun _ _ => trivial, fun kk44 kr44 => ?_⟩) B 0 () (by omega) (trivial) (fun sN44 eN44 hP44 => ?_) (fun r44 eN44 => ?_)
      · refine sw_iload_n O (xx_dt dd_X7_isClockSound 24 rfl) rfl ?_
        refine sw_aload_n O (xx_dt dd_X7_isClockSound 25 rfl) rfl ?_
        refine sw_get (v := .ref 1001) O (xx_dt dd_X7_isClockSound 26 rfl) cl_X7 fl_X7_12 (ly_1000 σ h) (by decide) rfl ?_
        refine sw_get (v := .int (nI B)) O (xx_dt dd_X7_isClockSound 27 rfl) cl_X6 fl_X7_100 (ly_1001 σ h) (by decide) (congrArg Value.int hB) ?_
        refine sw_icmp_ge (tgt := 97) O (xx_dt dd_X7_isClockSound 28 rfl) (by decide) (fun q3 => ?_) (fun q3 => ?_)
        · exact absurd q3 (nI_ge (b := B) hi44 (by omega))
        · refine sw_aload_n O (xx_dt dd_X7_isClockSound 29 rfl) rfl ?_
          refine sw_get (v := .ref 2000) O (xx_dt dd_X7_isClockSound 30 rfl) cl_X7 fl_X7_19 (ly_1000 σ h) (by decide) rfl ?_
          refine sw_get (v := .ref (2000 + 4)) O (xx_dt dd_X7_isClockSound 31 rfl) cl_X1 fl_X7_409 (lk_0 σ h (.inl rfl)) (by decide) rfl ?_
          refine sw_iload_n O (xx_dt dd_X7_isClockSound 32 rfl) rfl ?_
          refine sw_iaload (v := .int (σ (2000 + 4) i44)) O (xx_dt dd_X7_isClockSound 33 rfl) (lk_4 σ h (.inl rfl)) (pk_in i44 _ (by omega)) (by rw [nI_clamp (by omega)]; try exact rfl) ?_
          refine sw_if_lt (tgt := 89) O (xx_dt dd_X7_isClockSound 34 rfl) (by decide) (fun q4 => ?_) (fun q4 => ?_)
          · refine sw_iconst (x := 0) O (xx_dt dd_X7_isClockSound 45 rfl) (by decide) ?_
            exact sw_iret O (xx_dt dd_X7_isClockSound 46 rfl) rfl rfl (by rw [hQ, kr44 0 (by simp only [if_pos q4])]; exact ⟨rfl, rfl⟩)
          · refine sw_aload_n O (xx_dt dd_X7_isClockSound 35 rfl) rfl ?_
            refine sw_get (v := .ref 2000) O (xx_dt dd_X7_isClockSound 36 rfl) cl_X7 fl_X7_19 (ly_1000 σ h) (by decide) rfl ?_
            refine sw_get (v := .ref (2000 + 2)) O (xx_dt dd_X7_isClockSound 37 rfl) cl_X1 fl_X7_249 (lk_0 σ h (.inl rfl)) (by decide) rfl ?_
            refine sw_iload_n O (xx_dt dd_X7_isClockSound 38 rfl) rfl ?_
            refine sw_iaload (v := .int (σ (2000 + 2) i44)) O (xx_dt dd_X7_isClockSound 39 rfl) (lk_2 σ h (.inl rfl)) (pk_in i44 _ (by omega)) (by rw [nI_clamp (by omega)]; try exact rfl) ?_
            refine sw_aload_n O (xx_dt dd_X7_isClockSound 40 rfl) rfl ?_
            refine sw_get (v := .ref 1001) O (xx_dt dd_X7_isClockSound 41 rfl) cl_X7 fl_X7_12 (ly_1000 σ h) (by decide) rfl ?_
            refine sw_get (v := .ref 1010) O (xx_dt dd_X7_isClockSound 42 rfl) cl_X6 fl_X7_285 (ly_1001 σ h) (by decide) rfl ?_
            refine sw_callSx (as := [.int (σ (2000 + 2) i44), .ref 1010]) (st := []) (st2 := [.int (f_isWithin (σ (2000 + 2) i44) 5 (σ 1010))]) O (ct_X0_isWithin hl (c := σ (2000 + 2) i44) (f := σ 1010) (ia_1010.getE rfl) (by omega)) ce_X0_isWithin ml_X7_437 st_X0_isWithin (xx_dt dd_X7_isClockSound 43 rfl) (by decide) rfl rfl (Nat.le_of_ble_eq_true rfl) rfl ?_
            refine sw_if_ne (tgt := 91) O (xx_dt dd_X7_isClockSound 44 rfl) (by decide) (fun q5 => ?_) (fun q5 => ?_)
            · refine sw_iinc (y := nI (i44 + 1)) (ls2 := [.ref 1000, .int (nI (i44 + 1))]) O (xx_dt dd_X7_isClockSound 47 rfl) rfl (nI_1 _) (by decide) rfl ?_
              refine sw_goto (tgt := 44) O (xx_dt dd_X7_isClockSound 48 rfl) (by decide) ?_
              exact kk44 () (by simp only [if_neg q4, if_neg q5])
            · refine sw_iconst (x := 0) O (xx_dt dd_X7_isClockSound 45 rfl) (by decide) ?_
              exact sw_iret O (xx_dt dd_X7_isClockSound 46 rfl) rfl rfl (by rw [hQ, kr44 0 (by simp only [if_neg q4, if_pos q5])]; exact ⟨rfl, rfl⟩)
      · show SW Y _ _ (setC σ h) 44 [.ref 1000, .int (nI B)] []
        refine sw_iload_n O (xx_dt dd_X7_isClockSound 24 rfl) rfl ?_
        refine sw_aload_n O (xx_dt dd_X7_isClockSound 25 rfl) rfl ?_
        refine sw_get (v := .ref 1001) O (xx_dt dd_X7_isClockSound 26 rfl) cl_X7 fl_X7_12 (ly_1000 σ h) (by decide) rfl ?_
        refine sw_get (v := .int (nI B)) O (xx_dt dd_X7_isClockSound 27 rfl) cl_X6 fl_X7_100 (ly_1001 σ h) (by decide) (congrArg Value.int hB) ?_
        refine sw_icmp_ge (tgt := 97) O (xx_dt dd_X7_isClockSound 28 rfl) (by decide) (fun q3 => ?_) (fun q3 => ?_)
        · refine sw_iconst (x := 1) O (xx_dt dd_X7_isClockSound 49 rfl) (by decide) ?_
          exact sw_iret O (xx_dt dd_X7_isClockSound 50 rfl) rfl rfl (by rw [hQ]; exact ⟨by unfold f_isClockSound; simp only [x_isClockSound_2, eN2, x_isClockSound_44, eN44], rfl⟩)
        · exact absurd (Int32.le_refl _) q3
      · unfold f_isClockSound; simp only [x_isClockSound_44, x_isClockSound_2, eN2, eN44]
    · exact absurd (Int32.le_refl _) q1
  · unfold f_isClockSound; simp only [x_isClockSound_2, eN2]
def f_regionFact0 (σ : XS9) (C r : Nat) : Int32 := σ 1010 r
theorem ct_X7_regionFact_0 {l : Launch} {h : XH} (hl : l.stackTraces = false) {σ : XS9} {C : Nat} (hC : σ 1006 1 = nI C) (hC10 : C ≤ 10) {r : Nat} (hr : r < 5) : XEx l m_X7_regionFact 2 0 0 [.ref 1000, .int (nI r), .int 0] (setC σ h) (some (.int (f_regionFact0 σ C r))) (setC σ h) := by
  refine XMet.of hl rfl rfl (Nat.le_of_ble_eq_true rfl) (fun Y O hh hQ => ?_)
  show SW Y 0 0 (setC σ h) 0 [.ref 1000, .int (nI r), .int 0] []
  refine sw_iload_n O (xx_dt dd_X7_regionFact 0 rfl) rfl ?_
  refine sw_tableIn (off := 47) (tgt := 48) O (xx_dt dd_X7_regionFact 1 rfl) (by decide) (by decide) rfl (by decide) ?_
  refine sw_aload_n O (xx_dt dd_X7_regionFact 2 rfl) rfl ?_
  refine sw_get (v := .ref 1001) O (xx_dt dd_X7_regionFact 3 rfl) cl_X7 fl_X7_12 (ly_1000 σ h) (by decide) rfl ?_
  refine sw_get (v := .ref 1010) O (xx_dt dd_X7_regionFact 4 rfl) cl_X6 fl_X7_285 (ly_1001 σ h) (by decide) rfl ?_
  refine sw_iload_n O (xx_dt dd_X7_regionFact 5 rfl) rfl ?_
  refine sw_iaload (v := .int (σ 1010 r)) O (xx_dt dd_X7_regionFact 6 rfl) (ly_1010 σ h) (pk_in r _ (by omega)) (by rw [nI_clamp (by omega)]; try exact rfl) ?_
  exact sw_iret O (xx_dt dd_X7_regionFact 7 rfl) rfl rfl (by rw [hQ]; exact ⟨by unfold f_regionFact0; rfl, rfl⟩)
def f_regionFact1 (σ : XS9) (C r : Nat) : Int32 := σ 1011 r
theorem ct_X7_regionFact_1 {l : Launch} {h : XH} (hl : l.stackTraces = false) {σ : XS9} {C : Nat} (hC : σ 1006 1 = nI C) (hC10 : C ≤ 10) {r : Nat} (hr : r < 5) : XEx l m_X7_regionFact 2 0 0 [.ref 1000, .int (nI r), .int 1] (setC σ h) (some (.int (f_regionFact1 σ C r))) (setC σ h) := by
  refine XMet.of hl rfl rfl (Nat.le_of_ble_eq_true rfl) (fun Y O hh hQ => ?_)
  show SW Y 0 0 (setC σ h) 0 [.ref 1000, .int (nI r), .int 1] []
  refine sw_iload_n O (xx_dt dd_X7_regionFact 0 rfl) rfl ?_
  refine sw_tableIn (off := 57) (tgt := 58) O (xx_dt dd_X7_regionFact 1 rfl) (by decide) (by decide) rfl (by decide) ?_
  refine sw_aload_n O (xx_dt dd_X7_regionFact 8 rfl) rfl ?_
  refine sw_get (v := .ref 1001) O (xx_dt dd_X7_regionFact 9 rfl) cl_X7 fl_X7_12 (ly_1000 σ h) (by decide) rfl ?_
  refine sw_get (v := .ref 1011) O (xx_dt dd_X7_regionFact 10 rfl) cl_X6 fl_X7_142 (ly_1001 σ h) (by decide) rfl ?_
  refine sw_iload_n O (xx_dt dd_X7_regionFact 11 rfl) rfl ?_
  refine sw_iaload (v := .int (σ 1011 r)) O (xx_dt dd_X7_regionFact 12 rfl) (ly_1011 σ h) (pk_in r _ (by omega)) (by rw [nI_clamp (by omega)]; try exact rfl) ?_
  exact sw_iret O (xx_dt dd_X7_regionFact 13 rfl) rfl rfl (by rw [hQ]; exact ⟨by unfold f_regionFact1; rfl, rfl⟩)
def f_regionFact2 (σ : XS9) (C r : Nat) : Int32 := σ 1012 r
theorem ct_X7_regionFact_2 {l : Launch} {h : XH} (hl : l.stackTraces = false) {σ : XS9} {C : Nat} (hC : σ 1006 1 = nI C) (hC10 : C ≤ 10) {r : Nat} (hr : r < 5) : XEx l m_X7_regionFact 2 0 0 [.ref 1000, .int (nI r), .int 2] (setC σ h) (some (.int (f_regionFact2 σ C r))) (setC σ h) := by
  refine XMet.of hl rfl rfl (Nat.le_of_ble_eq_true rfl) (fun Y O hh hQ => ?_)
  show SW Y 0 0 (setC σ h) 0 [.ref 1000, .int (nI r), .int 2] []
  refine sw_iload_n O (xx_dt dd_X7_regionFact 0 rfl) rfl ?_
  refine sw_tableIn (off := 67) (tgt := 68) O (xx_dt dd_X7_regionFact 1 rfl) (by decide) (by decide) rfl (by decide) ?_
  refine sw_aload_n O (xx_dt dd_X7_regionFact 14 rfl) rfl ?_
  refine sw_get (v := .ref 1001) O (xx_dt dd_X7_regionFact 15 rfl) cl_X7 fl_X7_12 (ly_1000 σ h) (by decide) rfl ?_
  refine sw_get (v := .ref 1012) O (xx_dt dd_X7_regionFact 16 rfl) cl_X6 fl_X7_390 (ly_1001 σ h) (by decide) rfl ?_
  refine sw_iload_n O (xx_dt dd_X7_regionFact 17 rfl) rfl ?_
  refine sw_iaload (v := .int (σ 1012 r)) O (xx_dt dd_X7_regionFact 18 rfl) (ly_1012 σ h) (pk_in r _ (by omega)) (by rw [nI_clamp (by omega)]; try exact rfl) ?_
  exact sw_iret O (xx_dt dd_X7_regionFact 19 rfl) rfl rfl (by rw [hQ]; exact ⟨by unfold f_regionFact2; rfl, rfl⟩)
def f_regionFact3 (σ : XS9) (C r : Nat) : Int32 := σ (2000 + 1) r
theorem ct_X7_regionFact_3 {l : Launch} {h : XH} (hl : l.stackTraces = false) {σ : XS9} {C : Nat} (hC : σ 1006 1 = nI C) (hC10 : C ≤ 10) {r : Nat} (hr : r < 5) : XEx l m_X7_regionFact 2 0 0 [.ref 1000, .int (nI r), .int 3] (setC σ h) (some (.int (f_regionFact3 σ C r))) (setC σ h) := by
  refine XMet.of hl rfl rfl (Nat.le_of_ble_eq_true rfl) (fun Y O hh hQ => ?_)
  show SW Y 0 0 (setC σ h) 0 [.ref 1000, .int (nI r), .int 3] []
  refine sw_iload_n O (xx_dt dd_X7_regionFact 0 rfl) rfl ?_
  refine sw_tableIn (off := 77) (tgt := 78) O (xx_dt dd_X7_regionFact 1 rfl) (by decide) (by decide) rfl (by decide) ?_
  refine sw_aload_n O (xx_dt dd_X7_regionFact 20 rfl) rfl ?_
  refine sw_get (v := .ref 2000) O (xx_dt dd_X7_regionFact 21 rfl) cl_X7 fl_X7_19 (ly_1000 σ h) (by decide) rfl ?_
  refine sw_get (v := .ref (2000 + 1)) O (xx_dt dd_X7_regionFact 22 rfl) cl_X1 fl_X7_393 (lk_0 σ h (.inl rfl)) (by decide) rfl ?_
  refine sw_iload_n O (xx_dt dd_X7_regionFact 23 rfl) rfl ?_
  refine sw_iaload (v := .int (σ (2000 + 1) r)) O (xx_dt dd_X7_regionFact 24 rfl) (lk_1 σ h (.inl rfl)) (pk_in r _ (by omega)) (by rw [nI_clamp (by omega)]; try exact rfl) ?_
  exact sw_iret O (xx_dt dd_X7_regionFact 25 rfl) rfl rfl (by rw [hQ]; exact ⟨by unfold f_regionFact3; rfl, rfl⟩)
def f_regionFact4 (σ : XS9) (C r : Nat) : Int32 := f_together 6 (σ (2000 + 2)) r
theorem ct_X7_regionFact_4 {l : Launch} {h : XH} (hl : l.stackTraces = false) {σ : XS9} {C : Nat} (hC : σ 1006 1 = nI C) (hC10 : C ≤ 10) {r : Nat} (hr : r < 5) : XEx l m_X7_regionFact 2 0 0 [.ref 1000, .int (nI r), .int 4] (setC σ h) (some (.int (f_regionFact4 σ C r))) (setC σ h) := by
  refine XMet.of hl rfl rfl (Nat.le_of_ble_eq_true rfl) (fun Y O hh hQ => ?_)
  show SW Y 0 0 (setC σ h) 0 [.ref 1000, .int (nI r), .int 4] []
  refine sw_iload_n O (xx_dt dd_X7_regionFact 0 rfl) rfl ?_
  refine sw_tableIn (off := 87) (tgt := 88) O (xx_dt dd_X7_regionFact 1 rfl) (by decide) (by decide) rfl (by decide) ?_
  refine sw_aload_n O (xx_dt dd_X7_regionFact 26 rfl) rfl ?_
  refine sw_get (v := .ref 2000) O (xx_dt dd_X7_regionFact 27 rfl) cl_X7 fl_X7_19 (ly_1000 σ h) (by decide) rfl ?_
  refine sw_get (v := .ref (2000 + 2)) O (xx_dt dd_X7_regionFact 28 rfl) cl_X1 fl_X7_249 (lk_0 σ h (.inl rfl)) (by decide) rfl ?_
  refine sw_iload_n O (xx_dt dd_X7_regionFact 29 rfl) rfl ?_
  refine sw_callSx (as := [.ref (2000 + 2), .int (nI r)]) (st := []) (st2 := [.int (f_together 6 (σ (2000 + 2)) r)]) O (ct_X0_together hl (r := r) (f := σ (2000 + 2)) ((ik_2 (.inl rfl)).getE rfl) (by omega) (by omega)) ce_X0_together ml_X7_396 st_X0_together (xx_dt dd_X7_regionFact 30 rfl) (by decide) rfl rfl (Nat.le_of_ble_eq_true rfl) rfl ?_
  exact sw_iret O (xx_dt dd_X7_regionFact 31 rfl) rfl rfl (by rw [hQ]; exact ⟨by unfold f_regionFact4; rfl, rfl⟩)
def f_regionFact5 (σ : XS9) (C r : Nat) : Int32 := (f_together 6 (σ (2000 + 2)) r) - (σ 1010 r)
theorem ct_X7_regionFact_5 {l : Launch} {h : XH} (hl : l.stackTraces = false) {σ : XS9} {C : Nat} (hC : σ 1006 1 = nI C) (hC10 : C ≤ 10) {r : Nat} (hr : r < 5) : XEx l m_X7_regionFact 2 0 0 [.ref 1000, .int (nI r), .int 5] (setC σ h) (some (.int (f_regionFact5 σ C r))) (setC σ h) := by
  refine XMet.of hl rfl rfl (Nat.le_of_ble_eq_true rfl) (fun Y O hh hQ => ?_)
  show SW Y 0 0 (setC σ h) 0 [.ref 1000, .int (nI r), .int 5] []
  refine sw_iload_n O (xx_dt dd_X7_regionFact 0 rfl) rfl ?_
  refine sw_tableIn (off := 99) (tgt := 100) O (xx_dt dd_X7_regionFact 1 rfl) (by decide) (by decide) rfl (by decide) ?_
  refine sw_aload_n O (xx_dt dd_X7_regionFact 32 rfl) rfl ?_
  refine sw_get (v := .ref 2000) O (xx_dt dd_X7_regionFact 33 rfl) cl_X7 fl_X7_19 (ly_1000 σ h) (by decide) rfl ?_
  refine sw_get (v := .ref (2000 + 2)) O (xx_dt dd_X7_regionFact 34 rfl) cl_X1 fl_X7_249 (lk_0 σ h (.inl rfl)) (by decide) rfl ?_
  refine sw_iload_n O (xx_dt dd_X7_regionFact 35 rfl) rfl ?_
  refine sw_callSx (as := [.ref (2000 + 2), .int (nI r)]) (st := []) (st2 := [.int (f_together 6 (σ (2000 + 2)) r)]) O (ct_X0_together hl (r := r) (f := σ (2000 + 2)) ((ik_2 (.inl rfl)).getE rfl) (by omega) (by omega)) ce_X0_together ml_X7_396 st_X0_together (xx_dt dd_X7_regionFact 36 rfl) (by decide) rfl rfl (Nat.le_of_ble_eq_true rfl) rfl ?_
  refine sw_aload_n O (xx_dt dd_X7_regionFact 37 rfl) rfl ?_
  refine sw_get (v := .ref 1001) O (xx_dt dd_X7_regionFact 38 rfl) cl_X7 fl_X7_12 (ly_1000 σ h) (by decide) rfl ?_
  refine sw_get (v := .ref 1010) O (xx_dt dd_X7_regionFact 39 rfl) cl_X6 fl_X7_285 (ly_1001 σ h) (by decide) rfl ?_
  refine sw_iload_n O (xx_dt dd_X7_regionFact 40 rfl) rfl ?_
  refine sw_iaload (v := .int (σ 1010 r)) O (xx_dt dd_X7_regionFact 41 rfl) (ly_1010 σ h) (pk_in r _ (by omega)) (by rw [nI_clamp (by omega)]; try exact rfl) ?_
  refine sw_isub O (xx_dt dd_X7_regionFact 42 rfl) ?_
  exact sw_iret O (xx_dt dd_X7_regionFact 43 rfl) rfl rfl (by rw [hQ]; exact ⟨by unfold f_regionFact5; rfl, rfl⟩)
def f_regionFact6 (σ : XS9) (C r : Nat) : Int32 := f_together 6 (σ (2000 + 3)) r
theorem ct_X7_regionFact_6 {l : Launch} {h : XH} (hl : l.stackTraces = false) {σ : XS9} {C : Nat} (hC : σ 1006 1 = nI C) (hC10 : C ≤ 10) {r : Nat} (hr : r < 5) : XEx l m_X7_regionFact 2 0 0 [.ref 1000, .int (nI r), .int 6] (setC σ h) (some (.int (f_regionFact6 σ C r))) (setC σ h) := by
  refine XMet.of hl rfl rfl (Nat.le_of_ble_eq_true rfl) (fun Y O hh hQ => ?_)
  show SW Y 0 0 (setC σ h) 0 [.ref 1000, .int (nI r), .int 6] []
  refine sw_iload_n O (xx_dt dd_X7_regionFact 0 rfl) rfl ?_
  refine sw_tableIn (off := 121) (tgt := 122) O (xx_dt dd_X7_regionFact 1 rfl) (by decide) (by decide) rfl (by decide) ?_
  refine sw_aload_n O (xx_dt dd_X7_regionFact 44 rfl) rfl ?_
  refine sw_get (v := .ref 2000) O (xx_dt dd_X7_regionFact 45 rfl) cl_X7 fl_X7_19 (ly_1000 σ h) (by decide) rfl ?_
  refine sw_get (v := .ref (2000 + 3)) O (xx_dt dd_X7_regionFact 46 rfl) cl_X1 fl_X7_133 (lk_0 σ h (.inl rfl)) (by decide) rfl ?_
  refine sw_iload_n O (xx_dt dd_X7_regionFact 47 rfl) rfl ?_
  refine sw_callSx (as := [.ref (2000 + 3), .int (nI r)]) (st := []) (st2 := [.int (f_together 6 (σ (2000 + 3)) r)]) O (ct_X0_together hl (r := r) (f := σ (2000 + 3)) ((ik_3 (.inl rfl)).getE rfl) (by omega) (by omega)) ce_X0_together ml_X7_396 st_X0_together (xx_dt dd_X7_regionFact 48 rfl) (by decide) rfl rfl (Nat.le_of_ble_eq_true rfl) rfl ?_
  exact sw_iret O (xx_dt dd_X7_regionFact 49 rfl) rfl rfl (by rw [hQ]; exact ⟨by unfold f_regionFact6; rfl, rfl⟩)
def f_regionFact7 (σ : XS9) (C r : Nat) : Int32 := σ 1013 r
theorem ct_X7_regionFact_7 {l : Launch} {h : XH} (hl : l.stackTraces = false) {σ : XS9} {C : Nat} (hC : σ 1006 1 = nI C) (hC10 : C ≤ 10) {r : Nat} (hr : r < 5) : XEx l m_X7_regionFact 2 0 0 [.ref 1000, .int (nI r), .int 7] (setC σ h) (some (.int (f_regionFact7 σ C r))) (setC σ h) := by
  refine XMet.of hl rfl rfl (Nat.le_of_ble_eq_true rfl) (fun Y O hh hQ => ?_)
  show SW Y 0 0 (setC σ h) 0 [.ref 1000, .int (nI r), .int 7] []
  refine sw_iload_n O (xx_dt dd_X7_regionFact 0 rfl) rfl ?_
  refine sw_tableIn (off := 133) (tgt := 134) O (xx_dt dd_X7_regionFact 1 rfl) (by decide) (by decide) rfl (by decide) ?_
  refine sw_aload_n O (xx_dt dd_X7_regionFact 50 rfl) rfl ?_
  refine sw_get (v := .ref 1001) O (xx_dt dd_X7_regionFact 51 rfl) cl_X7 fl_X7_12 (ly_1000 σ h) (by decide) rfl ?_
  refine sw_get (v := .ref 1013) O (xx_dt dd_X7_regionFact 52 rfl) cl_X6 fl_X7_400 (ly_1001 σ h) (by decide) rfl ?_
  refine sw_iload_n O (xx_dt dd_X7_regionFact 53 rfl) rfl ?_
  refine sw_iaload (v := .int (σ 1013 r)) O (xx_dt dd_X7_regionFact 54 rfl) (ly_1013 σ h) (pk_in r _ (by omega)) (by rw [nI_clamp (by omega)]; try exact rfl) ?_
  exact sw_iret O (xx_dt dd_X7_regionFact 55 rfl) rfl rfl (by rw [hQ]; exact ⟨by unfold f_regionFact7; rfl, rfl⟩)
def f_regionFact8 (σ : XS9) (C r : Nat) : Int32 := f_countIn σ (nI r) C
theorem ct_X7_regionFact_8 {l : Launch} {h : XH} (hl : l.stackTraces = false) {σ : XS9} {C : Nat} (hC : σ 1006 1 = nI C) (hC10 : C ≤ 10) {r : Nat} (hr : r < 5) : XEx l m_X7_regionFact 2 0 0 [.ref 1000, .int (nI r), .int 8] (setC σ h) (some (.int (f_regionFact8 σ C r))) (setC σ h) := by
  refine XMet.of hl rfl rfl (Nat.le_of_ble_eq_true rfl) (fun Y O hh hQ => ?_)
  show SW Y 0 0 (setC σ h) 0 [.ref 1000, .int (nI r), .int 8] []
  refine sw_iload_n O (xx_dt dd_X7_regionFact 0 rfl) rfl ?_
  refine sw_tableOut (tgt := 144) O (xx_dt dd_X7_regionFact 1 rfl) (by decide) (by decide) ?_
  refine sw_aload_n O (xx_dt dd_X7_regionFact 56 rfl) rfl ?_
  refine sw_get (v := .ref 1006) O (xx_dt dd_X7_regionFact 57 rfl) cl_X7 fl_X7_50 (ly_1000 σ h) (by decide) rfl ?_
  refine sw_iload_n O (xx_dt dd_X7_regionFact 58 rfl) rfl ?_
  refine sw_callVx (as := [.int (nI r)]) (st := []) (st2 := [.int (f_countIn σ (nI r) C)]) O (ct_X5_countIn hl (σ := σ) (C := C) hC (by omega) (x := nI r)) ce_X5_countIn ml_X7_403 iv_X5_countIn cl_X5 rfl (ly_1006 σ h) (xx_dt dd_X7_regionFact 59 rfl) (by decide) rfl rfl (Nat.le_of_ble_eq_true rfl) rfl ?_
  exact sw_iret O (xx_dt dd_X7_regionFact 60 rfl) rfl rfl (by rw [hQ]; exact ⟨by unfold f_regionFact8; rfl, rfl⟩)
def f_bidderFact0 (σ : XS9) (i : Nat) : Int32 := σ 1014 i
theorem ct_X7_bidderFact_0 {l : Launch} {h : XH} (hl : l.stackTraces = false) {σ : XS9} {i : Nat} (hi : i < 6) : XEx l m_X7_bidderFact 2 0 0 [.ref 1000, .int (nI i), .int 0] (setC σ h) (some (.int (f_bidderFact0 σ i))) (setC σ h) := by
  refine XMet.of hl rfl rfl (Nat.le_of_ble_eq_true rfl) (fun Y O hh hQ => ?_)
  show SW Y 0 0 (setC σ h) 0 [.ref 1000, .int (nI i), .int 0] []
  refine sw_iload_n O (xx_dt dd_X7_bidderFact 0 rfl) rfl ?_
  refine sw_tableIn (off := 55) (tgt := 56) O (xx_dt dd_X7_bidderFact 1 rfl) (by decide) (by decide) rfl (by decide) ?_
  refine sw_aload_n O (xx_dt dd_X7_bidderFact 2 rfl) rfl ?_
  refine sw_get (v := .ref 1001) O (xx_dt dd_X7_bidderFact 3 rfl) cl_X7 fl_X7_12 (ly_1000 σ h) (by decide) rfl ?_
  refine sw_get (v := .ref 1014) O (xx_dt dd_X7_bidderFact 4 rfl) cl_X6 fl_X7_406 (ly_1001 σ h) (by decide) rfl ?_
  refine sw_iload_n O (xx_dt dd_X7_bidderFact 5 rfl) rfl ?_
  refine sw_iaload (v := .int (σ 1014 i)) O (xx_dt dd_X7_bidderFact 6 rfl) (ly_1014 σ h) (pk_in i _ (by omega)) (by rw [nI_clamp (by omega)]; try exact rfl) ?_
  exact sw_iret O (xx_dt dd_X7_bidderFact 7 rfl) rfl rfl (by rw [hQ]; exact ⟨by unfold f_bidderFact0; rfl, rfl⟩)
def f_bidderFact1 (σ : XS9) (i : Nat) : Int32 := σ (2000 + 4) i
theorem ct_X7_bidderFact_1 {l : Launch} {h : XH} (hl : l.stackTraces = false) {σ : XS9} {i : Nat} (hi : i < 6) : XEx l m_X7_bidderFact 2 0 0 [.ref 1000, .int (nI i), .int 1] (setC σ h) (some (.int (f_bidderFact1 σ i))) (setC σ h) := by
  refine XMet.of hl rfl rfl (Nat.le_of_ble_eq_true rfl) (fun Y O hh hQ => ?_)
  show SW Y 0 0 (setC σ h) 0 [.ref 1000, .int (nI i), .int 1] []
  refine sw_iload_n O (xx_dt dd_X7_bidderFact 0 rfl) rfl ?_
  refine sw_tableIn (off := 65) (tgt := 66) O (xx_dt dd_X7_bidderFact 1 rfl) (by decide) (by decide) rfl (by decide) ?_
  refine sw_aload_n O (xx_dt dd_X7_bidderFact 8 rfl) rfl ?_
  refine sw_get (v := .ref 2000) O (xx_dt dd_X7_bidderFact 9 rfl) cl_X7 fl_X7_19 (ly_1000 σ h) (by decide) rfl ?_
  refine sw_get (v := .ref (2000 + 4)) O (xx_dt dd_X7_bidderFact 10 rfl) cl_X1 fl_X7_409 (lk_0 σ h (.inl rfl)) (by decide) rfl ?_
  refine sw_iload_n O (xx_dt dd_X7_bidderFact 11 rfl) rfl ?_
  refine sw_iaload (v := .int (σ (2000 + 4) i)) O (xx_dt dd_X7_bidderFact 12 rfl) (lk_4 σ h (.inl rfl)) (pk_in i _ (by omega)) (by rw [nI_clamp (by omega)]; try exact rfl) ?_
  exact sw_iret O (xx_dt dd_X7_bidderFact 13 rfl) rfl rfl (by rw [hQ]; exact ⟨by unfold f_bidderFact1; rfl, rfl⟩)
def f_bidderFact2 (σ : XS9) (i : Nat) : Int32 := σ 1016 i
theorem ct_X7_bidderFact_2 {l : Launch} {h : XH} (hl : l.stackTraces = false) {σ : XS9} {i : Nat} (hi : i < 6) : XEx l m_X7_bidderFact 2 0 0 [.ref 1000, .int (nI i), .int 2] (setC σ h) (some (.int (f_bidderFact2 σ i))) (setC σ h) := by
  refine XMet.of hl rfl rfl (Nat.le_of_ble_eq_true rfl) (fun Y O hh hQ => ?_)
  show SW Y 0 0 (setC σ h) 0 [.ref 1000, .int (nI i), .int 2] []
  refine sw_iload_n O (xx_dt dd_X7_bidderFact 0 rfl) rfl ?_
  refine sw_tableIn (off := 75) (tgt := 76) O (xx_dt dd_X7_bidderFact 1 rfl) (by decide) (by decide) rfl (by decide) ?_
  refine sw_aload_n O (xx_dt dd_X7_bidderFact 14 rfl) rfl ?_
  refine sw_get (v := .ref 1001) O (xx_dt dd_X7_bidderFact 15 rfl) cl_X7 fl_X7_12 (ly_1000 σ h) (by decide) rfl ?_
  refine sw_get (v := .ref 1016) O (xx_dt dd_X7_bidderFact 16 rfl) cl_X6 fl_X7_387 (ly_1001 σ h) (by decide) rfl ?_
  refine sw_iload_n O (xx_dt dd_X7_bidderFact 17 rfl) rfl ?_
  refine sw_iaload (v := .int (σ 1016 i)) O (xx_dt dd_X7_bidderFact 18 rfl) (ly_1016 σ h) (pk_in i _ (by omega)) (by rw [nI_clamp (by omega)]; try exact rfl) ?_
  exact sw_iret O (xx_dt dd_X7_bidderFact 19 rfl) rfl rfl (by rw [hQ]; exact ⟨by unfold f_bidderFact2; rfl, rfl⟩)
def f_bidderFact3 (σ : XS9) (i : Nat) : Int32 := σ 1017 i
theorem ct_X7_bidderFact_3 {l : Launch} {h : XH} (hl : l.stackTraces = false) {σ : XS9} {i : Nat} (hi : i < 6) : XEx l m_X7_bidderFact 2 0 0 [.ref 1000, .int (nI i), .int 3] (setC σ h) (some (.int (f_bidderFact3 σ i))) (setC σ h) := by
  refine XMet.of hl rfl rfl (Nat.le_of_ble_eq_true rfl) (fun Y O hh hQ => ?_)
  show SW Y 0 0 (setC σ h) 0 [.ref 1000, .int (nI i), .int 3] []
  refine sw_iload_n O (xx_dt dd_X7_bidderFact 0 rfl) rfl ?_
  refine sw_tableIn (off := 85) (tgt := 86) O (xx_dt dd_X7_bidderFact 1 rfl) (by decide) (by decide) rfl (by decide) ?_
  refine sw_aload_n O (xx_dt dd_X7_bidderFact 20 rfl) rfl ?_
  refine sw_get (v := .ref 1001) O (xx_dt dd_X7_bidderFact 21 rfl) cl_X7 fl_X7_12 (ly_1000 σ h) (by decide) rfl ?_
  refine sw_get (v := .ref 1017) O (xx_dt dd_X7_bidderFact 22 rfl) cl_X6 fl_X7_412 (ly_1001 σ h) (by decide) rfl ?_
  refine sw_iload_n O (xx_dt dd_X7_bidderFact 23 rfl) rfl ?_
  refine sw_iaload (v := .int (σ 1017 i)) O (xx_dt dd_X7_bidderFact 24 rfl) (ly_1017 σ h) (pk_in i _ (by omega)) (by rw [nI_clamp (by omega)]; try exact rfl) ?_
  exact sw_iret O (xx_dt dd_X7_bidderFact 25 rfl) rfl rfl (by rw [hQ]; exact ⟨by unfold f_bidderFact3; rfl, rfl⟩)
def f_bidderFact4 (σ : XS9) (i : Nat) : Int32 := σ (2000 + 5) i
theorem ct_X7_bidderFact_4 {l : Launch} {h : XH} (hl : l.stackTraces = false) {σ : XS9} {i : Nat} (hi : i < 6) : XEx l m_X7_bidderFact 2 0 0 [.ref 1000, .int (nI i), .int 4] (setC σ h) (some (.int (f_bidderFact4 σ i))) (setC σ h) := by
  refine XMet.of hl rfl rfl (Nat.le_of_ble_eq_true rfl) (fun Y O hh hQ => ?_)
  show SW Y 0 0 (setC σ h) 0 [.ref 1000, .int (nI i), .int 4] []
  refine sw_iload_n O (xx_dt dd_X7_bidderFact 0 rfl) rfl ?_
  refine sw_tableIn (off := 95) (tgt := 96) O (xx_dt dd_X7_bidderFact 1 rfl) (by decide) (by decide) rfl (by decide) ?_
  refine sw_aload_n O (xx_dt dd_X7_bidderFact 26 rfl) rfl ?_
  refine sw_get (v := .ref 2000) O (xx_dt dd_X7_bidderFact 27 rfl) cl_X7 fl_X7_19 (ly_1000 σ h) (by decide) rfl ?_
  refine sw_get (v := .ref (2000 + 5)) O (xx_dt dd_X7_bidderFact 28 rfl) cl_X1 fl_X7_149 (lk_0 σ h (.inl rfl)) (by decide) rfl ?_
  refine sw_iload_n O (xx_dt dd_X7_bidderFact 29 rfl) rfl ?_
  refine sw_iaload (v := .int (σ (2000 + 5) i)) O (xx_dt dd_X7_bidderFact 30 rfl) (lk_5 σ h (.inl rfl)) (pk_in i _ (by omega)) (by rw [nI_clamp (by omega)]; try exact rfl) ?_
  exact sw_iret O (xx_dt dd_X7_bidderFact 31 rfl) rfl rfl (by rw [hQ]; exact ⟨by unfold f_bidderFact4; rfl, rfl⟩)
def f_bidderFact5 (σ : XS9) (i : Nat) : Int32 := σ (2000 + 2) i
theorem ct_X7_bidderFact_5 {l : Launch} {h : XH} (hl : l.stackTraces = false) {σ : XS9} {i : Nat} (hi : i < 6) : XEx l m_X7_bidderFact 2 0 0 [.ref 1000, .int (nI i), .int 5] (setC σ h) (some (.int (f_bidderFact5 σ i))) (setC σ h) := by
  refine XMet.of hl rfl rfl (Nat.le_of_ble_eq_true rfl) (fun Y O hh hQ => ?_)
  show SW Y 0 0 (setC σ h) 0 [.ref 1000, .int (nI i), .int 5] []
  refine sw_iload_n O (xx_dt dd_X7_bidderFact 0 rfl) rfl ?_
  refine sw_tableIn (off := 105) (tgt := 106) O (xx_dt dd_X7_bidderFact 1 rfl) (by decide) (by decide) rfl (by decide) ?_
  refine sw_aload_n O (xx_dt dd_X7_bidderFact 32 rfl) rfl ?_
  refine sw_get (v := .ref 2000) O (xx_dt dd_X7_bidderFact 33 rfl) cl_X7 fl_X7_19 (ly_1000 σ h) (by decide) rfl ?_
  refine sw_get (v := .ref (2000 + 2)) O (xx_dt dd_X7_bidderFact 34 rfl) cl_X1 fl_X7_249 (lk_0 σ h (.inl rfl)) (by decide) rfl ?_
  refine sw_iload_n O (xx_dt dd_X7_bidderFact 35 rfl) rfl ?_
  refine sw_iaload (v := .int (σ (2000 + 2) i)) O (xx_dt dd_X7_bidderFact 36 rfl) (lk_2 σ h (.inl rfl)) (pk_in i _ (by omega)) (by rw [nI_clamp (by omega)]; try exact rfl) ?_
  exact sw_iret O (xx_dt dd_X7_bidderFact 37 rfl) rfl rfl (by rw [hQ]; exact ⟨by unfold f_bidderFact5; rfl, rfl⟩)
def f_bidderFact6 (σ : XS9) (i : Nat) : Int32 := σ (2000 + 3) i
theorem ct_X7_bidderFact_6 {l : Launch} {h : XH} (hl : l.stackTraces = false) {σ : XS9} {i : Nat} (hi : i < 6) : XEx l m_X7_bidderFact 2 0 0 [.ref 1000, .int (nI i), .int 6] (setC σ h) (some (.int (f_bidderFact6 σ i))) (setC σ h) := by
  refine XMet.of hl rfl rfl (Nat.le_of_ble_eq_true rfl) (fun Y O hh hQ => ?_)
  show SW Y 0 0 (setC σ h) 0 [.ref 1000, .int (nI i), .int 6] []
  refine sw_iload_n O (xx_dt dd_X7_bidderFact 0 rfl) rfl ?_
  refine sw_tableIn (off := 115) (tgt := 116) O (xx_dt dd_X7_bidderFact 1 rfl) (by decide) (by decide) rfl (by decide) ?_
  refine sw_aload_n O (xx_dt dd_X7_bidderFact 38 rfl) rfl ?_
  refine sw_get (v := .ref 2000) O (xx_dt dd_X7_bidderFact 39 rfl) cl_X7 fl_X7_19 (ly_1000 σ h) (by decide) rfl ?_
  refine sw_get (v := .ref (2000 + 3)) O (xx_dt dd_X7_bidderFact 40 rfl) cl_X1 fl_X7_133 (lk_0 σ h (.inl rfl)) (by decide) rfl ?_
  refine sw_iload_n O (xx_dt dd_X7_bidderFact 41 rfl) rfl ?_
  refine sw_iaload (v := .int (σ (2000 + 3) i)) O (xx_dt dd_X7_bidderFact 42 rfl) (lk_3 σ h (.inl rfl)) (pk_in i _ (by omega)) (by rw [nI_clamp (by omega)]; try exact rfl) ?_
  exact sw_iret O (xx_dt dd_X7_bidderFact 43 rfl) rfl rfl (by rw [hQ]; exact ⟨by unfold f_bidderFact6; rfl, rfl⟩)
def f_bidderFact7 (σ : XS9) (i : Nat) : Int32 := f_total (σ (2000 + 3) i) 5 (σ 1011)
theorem ct_X7_bidderFact_7 {l : Launch} {h : XH} (hl : l.stackTraces = false) {σ : XS9} {i : Nat} (hi : i < 6) : XEx l m_X7_bidderFact 2 0 0 [.ref 1000, .int (nI i), .int 7] (setC σ h) (some (.int (f_bidderFact7 σ i))) (setC σ h) := by
  refine XMet.of hl rfl rfl (Nat.le_of_ble_eq_true rfl) (fun Y O hh hQ => ?_)
  show SW Y 0 0 (setC σ h) 0 [.ref 1000, .int (nI i), .int 7] []
  refine sw_iload_n O (xx_dt dd_X7_bidderFact 0 rfl) rfl ?_
  refine sw_tableIn (off := 125) (tgt := 126) O (xx_dt dd_X7_bidderFact 1 rfl) (by decide) (by decide) rfl (by decide) ?_
  refine sw_aload_n O (xx_dt dd_X7_bidderFact 44 rfl) rfl ?_
  refine sw_get (v := .ref 2000) O (xx_dt dd_X7_bidderFact 45 rfl) cl_X7 fl_X7_19 (ly_1000 σ h) (by decide) rfl ?_
  refine sw_get (v := .ref (2000 + 3)) O (xx_dt dd_X7_bidderFact 46 rfl) cl_X1 fl_X7_133 (lk_0 σ h (.inl rfl)) (by decide) rfl ?_
  refine sw_iload_n O (xx_dt dd_X7_bidderFact 47 rfl) rfl ?_
  refine sw_iaload (v := .int (σ (2000 + 3) i)) O (xx_dt dd_X7_bidderFact 48 rfl) (lk_3 σ h (.inl rfl)) (pk_in i _ (by omega)) (by rw [nI_clamp (by omega)]; try exact rfl) ?_
  refine sw_aload_n O (xx_dt dd_X7_bidderFact 49 rfl) rfl ?_
  refine sw_get (v := .ref 1001) O (xx_dt dd_X7_bidderFact 50 rfl) cl_X7 fl_X7_12 (ly_1000 σ h) (by decide) rfl ?_
  refine sw_get (v := .ref 1011) O (xx_dt dd_X7_bidderFact 51 rfl) cl_X6 fl_X7_142 (ly_1001 σ h) (by decide) rfl ?_
  refine sw_callSx (as := [.int (σ (2000 + 3) i), .ref 1011]) (st := []) (st2 := [.int (f_total (σ (2000 + 3) i) 5 (σ 1011))]) O (ct_X0_total hl (c := σ (2000 + 3) i) (f := σ 1011) (ia_1011.getE rfl) (by omega)) ce_X0_total ml_X7_145 st_X0_total (xx_dt dd_X7_bidderFact 52 rfl) (by decide) rfl rfl (Nat.le_of_ble_eq_true rfl) rfl ?_
  exact sw_iret O (xx_dt dd_X7_bidderFact 53 rfl) rfl rfl (by rw [hQ]; exact ⟨by unfold f_bidderFact7; rfl, rfl⟩)
def f_bidderFact8 (σ : XS9) (i : Nat) : Int32 := σ 1020 i
theorem ct_X7_bidderFact_8 {l : Launch} {h : XH} (hl : l.stackTraces = false) {σ : XS9} {i : Nat} (hi : i < 6) : XEx l m_X7_bidderFact 2 0 0 [.ref 1000, .int (nI i), .int 8] (setC σ h) (some (.int (f_bidderFact8 σ i))) (setC σ h) := by
  refine XMet.of hl rfl rfl (Nat.le_of_ble_eq_true rfl) (fun Y O hh hQ => ?_)
  show SW Y 0 0 (setC σ h) 0 [.ref 1000, .int (nI i), .int 8] []
  refine sw_iload_n O (xx_dt dd_X7_bidderFact 0 rfl) rfl ?_
  refine sw_tableIn (off := 145) (tgt := 146) O (xx_dt dd_X7_bidderFact 1 rfl) (by decide) (by decide) rfl (by decide) ?_
  refine sw_aload_n O (xx_dt dd_X7_bidderFact 54 rfl) rfl ?_
  refine sw_get (v := .ref 1003) O (xx_dt dd_X7_bidderFact 55 rfl) cl_X7 fl_X7_29 (ly_1000 σ h) (by decide) rfl ?_
  refine sw_get (v := .ref 1020) O (xx_dt dd_X7_bidderFact 56 rfl) cl_X2 fl_X7_173 (ly_1003 σ h) (by decide) rfl ?_
  refine sw_iload_n O (xx_dt dd_X7_bidderFact 57 rfl) rfl ?_
  refine sw_iaload (v := .int (σ 1020 i)) O (xx_dt dd_X7_bidderFact 58 rfl) (ly_1020 σ h) (pk_in i _ (by omega)) (by rw [nI_clamp (by omega)]; try exact rfl) ?_
  exact sw_iret O (xx_dt dd_X7_bidderFact 59 rfl) rfl rfl (by rw [hQ]; exact ⟨by unfold f_bidderFact8; rfl, rfl⟩)
def f_bidderFact9 (σ : XS9) (i : Nat) : Int32 := (if (f_isOut σ i) = 0 then 0 else 1)
theorem ct_X7_bidderFact_9 {l : Launch} {h : XH} (hl : l.stackTraces = false) {σ : XS9} {i : Nat} (hi : i < 6) : XEx l m_X7_bidderFact 2 0 0 [.ref 1000, .int (nI i), .int 9] (setC σ h) (some (.int (f_bidderFact9 σ i))) (setC σ h) := by
  refine XMet.of hl rfl rfl (Nat.le_of_ble_eq_true rfl) (fun Y O hh hQ => ?_)
  show SW Y 0 0 (setC σ h) 0 [.ref 1000, .int (nI i), .int 9] []
  refine sw_iload_n O (xx_dt dd_X7_bidderFact 0 rfl) rfl ?_
  refine sw_tableIn (off := 155) (tgt := 156) O (xx_dt dd_X7_bidderFact 1 rfl) (by decide) (by decide) rfl (by decide) ?_
  refine sw_aload_n O (xx_dt dd_X7_bidderFact 60 rfl) rfl ?_
  refine sw_get (v := .ref 1003) O (xx_dt dd_X7_bidderFact 61 rfl) cl_X7 fl_X7_29 (ly_1000 σ h) (by decide) rfl ?_
  refine sw_iload_n O (xx_dt dd_X7_bidderFact 62 rfl) rfl ?_
  refine sw_callVx (as := [.int (nI i)]) (st := []) (st2 := [.int (f_isOut σ i)]) O (ct_X2_isOut hl (σ := σ) (i := i)) ce_X2_isOut ml_X7_415 iv_X2_isOut cl_X2 rfl (ly_1003 σ h) (xx_dt dd_X7_bidderFact 63 rfl) (by decide) rfl rfl (Nat.le_of_ble_eq_true rfl) rfl ?_
  refine sw_if_eq (tgt := 171) O (xx_dt dd_X7_bidderFact 64 rfl) (by decide) (fun q1 => ?_) (fun q1 => ?_)
  · refine sw_iconst (x := 0) O (xx_dt dd_X7_bidderFact 67 rfl) (by decide) ?_
    exact sw_iret O (xx_dt dd_X7_bidderFact 68 rfl) rfl rfl (by rw [hQ]; exact ⟨by unfold f_bidderFact9; simp only [if_pos q1], rfl⟩)
  · refine sw_iconst (x := 1) O (xx_dt dd_X7_bidderFact 65 rfl) (by decide) ?_
    refine sw_goto (tgt := 172) O (xx_dt dd_X7_bidderFact 66 rfl) (by decide) ?_
    exact sw_iret O (xx_dt dd_X7_bidderFact 68 rfl) rfl rfl (by rw [hQ]; exact ⟨by unfold f_bidderFact9; simp only [if_neg q1], rfl⟩)
def f_bidderFact10 (σ : XS9) (i : Nat) : Int32 := σ (2000 + 6) i
theorem ct_X7_bidderFact_10 {l : Launch} {h : XH} (hl : l.stackTraces = false) {σ : XS9} {i : Nat} (hi : i < 6) : XEx l m_X7_bidderFact 2 0 0 [.ref 1000, .int (nI i), .int 10] (setC σ h) (some (.int (f_bidderFact10 σ i))) (setC σ h) := by
  refine XMet.of hl rfl rfl (Nat.le_of_ble_eq_true rfl) (fun Y O hh hQ => ?_)
  show SW Y 0 0 (setC σ h) 0 [.ref 1000, .int (nI i), .int 10] []
  refine sw_iload_n O (xx_dt dd_X7_bidderFact 0 rfl) rfl ?_
  refine sw_tableOut (tgt := 173) O (xx_dt dd_X7_bidderFact 1 rfl) (by decide) (by decide) ?_
  refine sw_aload_n O (xx_dt dd_X7_bidderFact 69 rfl) rfl ?_
  refine sw_get (v := .ref 2000) O (xx_dt dd_X7_bidderFact 70 rfl) cl_X7 fl_X7_19 (ly_1000 σ h) (by decide) rfl ?_
  refine sw_get (v := .ref (2000 + 6)) O (xx_dt dd_X7_bidderFact 71 rfl) cl_X1 fl_X7_418 (lk_0 σ h (.inl rfl)) (by decide) rfl ?_
  refine sw_iload_n O (xx_dt dd_X7_bidderFact 72 rfl) rfl ?_
  refine sw_iaload (v := .int (σ (2000 + 6) i)) O (xx_dt dd_X7_bidderFact 73 rfl) (lk_6 σ h (.inl rfl)) (pk_in i _ (by omega)) (by rw [nI_clamp (by omega)]; try exact rfl) ?_
  exact sw_iret O (xx_dt dd_X7_bidderFact 74 rfl) rfl rfl (by rw [hQ]; exact ⟨by unfold f_bidderFact10; rfl, rfl⟩)
def f_saleFact0 (σ : XS9) (K B R C w : Nat) : Int32 := σ 1000 7
theorem ct_X7_saleFact_0 {l : Launch} {h : XH} (hl : l.stackTraces = false) {σ : XS9} {K : Nat} (hK : σ 2000 9 = nI K) (hK60 : K ≤ 60) {B : Nat} (hB : σ 1001 9 = nI B) (hB6 : B ≤ 6) {R : Nat} (hR : σ 1001 4 = nI R) (hR5 : R ≤ 5) {C : Nat} (hC : σ 1006 1 = nI C) (hC10 : C ≤ 10) {w : Nat} (hw : σ 1000 9 = nI w) (hw3 : w < 3)  : XEx l m_X7_saleFact 4 0 0 [.ref 1000, .int 0] (setC σ h) (some (.int (f_saleFact0 σ K B R C w))) (setC σ h) := by
  refine XMet.of hl rfl rfl (Nat.le_of_ble_eq_true rfl) (fun Y O hh hQ => ?_)
  show SW Y 0 0 (setC σ h) 0 [.ref 1000, .int 0] []
  refine sw_iload_n O (xx_dt dd_X7_saleFact 0 rfl) rfl ?_
  refine sw_tableIn (off := 79) (tgt := 80) O (xx_dt dd_X7_saleFact 1 rfl) (by decide) (by decide) rfl (by decide) ?_
  refine sw_aload_n O (xx_dt dd_X7_saleFact 2 rfl) rfl ?_
  refine sw_get (v := .int (σ 1000 7)) O (xx_dt dd_X7_saleFact 3 rfl) cl_X7 fl_X7_54 (ly_1000 σ h) (by decide) rfl ?_
  exact sw_iret O (xx_dt dd_X7_saleFact 4 rfl) rfl rfl (by rw [hQ]; exact ⟨by unfold f_saleFact0; rfl, rfl⟩)
def f_saleFact1 (σ : XS9) (K B R C w : Nat) : Int32 := f_roundNow σ K
theorem ct_X7_saleFact_1 {l : Launch} {h : XH} (hl : l.stackTraces = false) {σ : XS9} {K : Nat} (hK : σ 2000 9 = nI K) (hK60 : K ≤ 60) {B : Nat} (hB : σ 1001 9 = nI B) (hB6 : B ≤ 6) {R : Nat} (hR : σ 1001 4 = nI R) (hR5 : R ≤ 5) {C : Nat} (hC : σ 1006 1 = nI C) (hC10 : C ≤ 10) {w : Nat} (hw : σ 1000 9 = nI w) (hw3 : w < 3)  : XEx l m_X7_saleFact 4 0 0 [.ref 1000, .int 1] (setC σ h) (some (.int (f_saleFact1 σ K B R C w))) (setC σ h) := by
  refine XMet.of hl rfl rfl (Nat.le_of_ble_eq_true rfl) (fun Y O hh hQ => ?_)
  show SW Y 0 0 (setC σ h) 0 [.ref 1000, .int 1] []
  refine sw_iload_n O (xx_dt dd_X7_saleFact 0 rfl) rfl ?_
  refine sw_tableIn (off := 84) (tgt := 85) O (xx_dt dd_X7_saleFact 1 rfl) (by decide) (by decide) rfl (by decide) ?_
  refine sw_aload_n O (xx_dt dd_X7_saleFact 5 rfl) rfl ?_
  refine sw_callVx (as := []) (st := []) (st2 := [.int (f_roundNow σ K)]) O (ct_X7_roundNow hl (σ := σ) (K := K) hK (by omega)) ce_X7_roundNow ml_X7_421 iv_X7_roundNow cl_X7 rfl (ly_1000 σ h) (xx_dt dd_X7_saleFact 6 rfl) (by decide) rfl rfl (Nat.le_of_ble_eq_true rfl) rfl ?_
  exact sw_iret O (xx_dt dd_X7_saleFact 7 rfl) rfl rfl (by rw [hQ]; exact ⟨by unfold f_saleFact1; rfl, rfl⟩)
def f_saleFact2 (σ : XS9) (K B R C w : Nat) : Int32 := nI R
theorem ct_X7_saleFact_2 {l : Launch} {h : XH} (hl : l.stackTraces = false) {σ : XS9} {K : Nat} (hK : σ 2000 9 = nI K) (hK60 : K ≤ 60) {B : Nat} (hB : σ 1001 9 = nI B) (hB6 : B ≤ 6) {R : Nat} (hR : σ 1001 4 = nI R) (hR5 : R ≤ 5) {C : Nat} (hC : σ 1006 1 = nI C) (hC10 : C ≤ 10) {w : Nat} (hw : σ 1000 9 = nI w) (hw3 : w < 3)  : XEx l m_X7_saleFact 4 0 0 [.ref 1000, .int 2] (setC σ h) (some (.int (f_saleFact2 σ K B R C w))) (setC σ h) := by
  refine XMet.of hl rfl rfl (Nat.le_of_ble_eq_true rfl) (fun Y O hh hQ => ?_)
  show SW Y 0 0 (setC σ h) 0 [.ref 1000, .int 2] []
  refine sw_iload_n O (xx_dt dd_X7_saleFact 0 rfl) rfl ?_
  refine sw_tableIn (off := 89) (tgt := 90) O (xx_dt dd_X7_saleFact 1 rfl) (by decide) (by decide) rfl (by decide) ?_
  refine sw_aload_n O (xx_dt dd_X7_saleFact 8 rfl) rfl ?_
  refine sw_get (v := .ref 1001) O (xx_dt dd_X7_saleFact 9 rfl) cl_X7 fl_X7_12 (ly_1000 σ h) (by decide) rfl ?_
  refine sw_get (v := .int (nI R)) O (xx_dt dd_X7_saleFact 10 rfl) cl_X6 fl_X7_69 (ly_1001 σ h) (by decide) (congrArg Value.int hR) ?_
  exact sw_iret O (xx_dt dd_X7_saleFact 11 rfl) rfl rfl (by rw [hQ]; exact ⟨by unfold f_saleFact2; rfl, rfl⟩)
def f_saleFact3 (σ : XS9) (K B R C w : Nat) : Int32 := nI B
theorem ct_X7_saleFact_3 {l : Launch} {h : XH} (hl : l.stackTraces = false) {σ : XS9} {K : Nat} (hK : σ 2000 9 = nI K) (hK60 : K ≤ 60) {B : Nat} (hB : σ 1001 9 = nI B) (hB6 : B ≤ 6) {R : Nat} (hR : σ 1001 4 = nI R) (hR5 : R ≤ 5) {C : Nat} (hC : σ 1006 1 = nI C) (hC10 : C ≤ 10) {w : Nat} (hw : σ 1000 9 = nI w) (hw3 : w < 3)  : XEx l m_X7_saleFact 4 0 0 [.ref 1000, .int 3] (setC σ h) (some (.int (f_saleFact3 σ K B R C w))) (setC σ h) := by
  refine XMet.of hl rfl rfl (Nat.le_of_ble_eq_true rfl) (fun Y O hh hQ => ?_)
  show SW Y 0 0 (setC σ h) 0 [.ref 1000, .int 3] []
  refine sw_iload_n O (xx_dt dd_X7_saleFact 0 rfl) rfl ?_
  refine sw_tableIn (off := 97) (tgt := 98) O (xx_dt dd_X7_saleFact 1 rfl) (by decide) (by decide) rfl (by decide) ?_
  refine sw_aload_n O (xx_dt dd_X7_saleFact 12 rfl) rfl ?_
  refine sw_get (v := .ref 1001) O (xx_dt dd_X7_saleFact 13 rfl) cl_X7 fl_X7_12 (ly_1000 σ h) (by decide) rfl ?_
  refine sw_get (v := .int (nI B)) O (xx_dt dd_X7_saleFact 14 rfl) cl_X6 fl_X7_100 (ly_1001 σ h) (by decide) (congrArg Value.int hB) ?_
  exact sw_iret O (xx_dt dd_X7_saleFact 15 rfl) rfl rfl (by rw [hQ]; exact ⟨by unfold f_saleFact3; rfl, rfl⟩)
def f_saleFact4 (σ : XS9) (K B R C w : Nat) : Int32 := nI C
theorem ct_X7_saleFact_4 {l : Launch} {h : XH} (hl : l.stackTraces = false) {σ : XS9} {K : Nat} (hK : σ 2000 9 = nI K) (hK60 : K ≤ 60) {B : Nat} (hB : σ 1001 9 = nI B) (hB6 : B ≤ 6) {R : Nat} (hR : σ 1001 4 = nI R) (hR5 : R ≤ 5) {C : Nat} (hC : σ 1006 1 = nI C) (hC10 : C ≤ 10) {w : Nat} (hw : σ 1000 9 = nI w) (hw3 : w < 3)  : XEx l m_X7_saleFact 4 0 0 [.ref 1000, .int 4] (setC σ h) (some (.int (f_saleFact4 σ K B R C w))) (setC σ h) := by
  refine XMet.of hl rfl rfl (Nat.le_of_ble_eq_true rfl) (fun Y O hh hQ => ?_)
  show SW Y 0 0 (setC σ h) 0 [.ref 1000, .int 4] []
  refine sw_iload_n O (xx_dt dd_X7_saleFact 0 rfl) rfl ?_
  refine sw_tableIn (off := 105) (tgt := 106) O (xx_dt dd_X7_saleFact 1 rfl) (by decide) (by decide) rfl (by decide) ?_
  refine sw_aload_n O (xx_dt dd_X7_saleFact 16 rfl) rfl ?_
  refine sw_get (v := .ref 1006) O (xx_dt dd_X7_saleFact 17 rfl) cl_X7 fl_X7_50 (ly_1000 σ h) (by decide) rfl ?_
  refine sw_get (v := .int (nI C)) O (xx_dt dd_X7_saleFact 18 rfl) cl_X5 fl_X7_215 (ly_1006 σ h) (by decide) (congrArg Value.int hC) ?_
  exact sw_iret O (xx_dt dd_X7_saleFact 19 rfl) rfl rfl (by rw [hQ]; exact ⟨by unfold f_saleFact4; rfl, rfl⟩)
def f_saleFact5 (σ : XS9) (K B R C w : Nat) : Int32 := σ 1001 10
theorem ct_X7_saleFact_5 {l : Launch} {h : XH} (hl : l.stackTraces = false) {σ : XS9} {K : Nat} (hK : σ 2000 9 = nI K) (hK60 : K ≤ 60) {B : Nat} (hB : σ 1001 9 = nI B) (hB6 : B ≤ 6) {R : Nat} (hR : σ 1001 4 = nI R) (hR5 : R ≤ 5) {C : Nat} (hC : σ 1006 1 = nI C) (hC10 : C ≤ 10) {w : Nat} (hw : σ 1000 9 = nI w) (hw3 : w < 3)  : XEx l m_X7_saleFact 4 0 0 [.ref 1000, .int 5] (setC σ h) (some (.int (f_saleFact5 σ K B R C w))) (setC σ h) := by
  refine XMet.of hl rfl rfl (Nat.le_of_ble_eq_true rfl) (fun Y O hh hQ => ?_)
  show SW Y 0 0 (setC σ h) 0 [.ref 1000, .int 5] []
  refine sw_iload_n O (xx_dt dd_X7_saleFact 0 rfl) rfl ?_
  refine sw_tableIn (off := 113) (tgt := 114) O (xx_dt dd_X7_saleFact 1 rfl) (by decide) (by decide) rfl (by decide) ?_
  refine sw_aload_n O (xx_dt dd_X7_saleFact 20 rfl) rfl ?_
  refine sw_get (v := .ref 1001) O (xx_dt dd_X7_saleFact 21 rfl) cl_X7 fl_X7_12 (ly_1000 σ h) (by decide) rfl ?_
  refine sw_get (v := .int (σ 1001 10)) O (xx_dt dd_X7_saleFact 22 rfl) cl_X6 fl_X7_109 (ly_1001 σ h) (by decide) rfl ?_
  exact sw_iret O (xx_dt dd_X7_saleFact 23 rfl) rfl rfl (by rw [hQ]; exact ⟨by unfold f_saleFact5; rfl, rfl⟩)
def f_saleFact6 (σ : XS9) (K B R C w : Nat) : Int32 := (if (σ 1001 11) = 0 then 0 else 1)
theorem ct_X7_saleFact_6 {l : Launch} {h : XH} (hl : l.stackTraces = false) {σ : XS9} {K : Nat} (hK : σ 2000 9 = nI K) (hK60 : K ≤ 60) {B : Nat} (hB : σ 1001 9 = nI B) (hB6 : B ≤ 6) {R : Nat} (hR : σ 1001 4 = nI R) (hR5 : R ≤ 5) {C : Nat} (hC : σ 1006 1 = nI C) (hC10 : C ≤ 10) {w : Nat} (hw : σ 1000 9 = nI w) (hw3 : w < 3)  : XEx l m_X7_saleFact 4 0 0 [.ref 1000, .int 6] (setC σ h) (some (.int (f_saleFact6 σ K B R C w))) (setC σ h) := by
  refine XMet.of hl rfl rfl (Nat.le_of_ble_eq_true rfl) (fun Y O hh hQ => ?_)
  show SW Y 0 0 (setC σ h) 0 [.ref 1000, .int 6] []
  refine sw_iload_n O (xx_dt dd_X7_saleFact 0 rfl) rfl ?_
  refine sw_tableIn (off := 121) (tgt := 122) O (xx_dt dd_X7_saleFact 1 rfl) (by decide) (by decide) rfl (by decide) ?_
  refine sw_aload_n O (xx_dt dd_X7_saleFact 24 rfl) rfl ?_
  refine sw_get (v := .ref 1001) O (xx_dt dd_X7_saleFact 25 rfl) cl_X7 fl_X7_12 (ly_1000 σ h) (by decide) rfl ?_
  refine sw_get (v := .int (σ 1001 11)) O (xx_dt dd_X7_saleFact 26 rfl) cl_X6 fl_X7_112 (ly_1001 σ h) (by decide) rfl ?_
  refine sw_if_eq (tgt := 136) O (xx_dt dd_X7_saleFact 27 rfl) (by decide) (fun q1 => ?_) (fun q1 => ?_)
  · refine sw_iconst (x := 0) O (xx_dt dd_X7_saleFact 30 rfl) (by decide) ?_
    exact sw_iret O (xx_dt dd_X7_saleFact 31 rfl) rfl rfl (by rw [hQ]; exact ⟨by unfold f_saleFact6; simp only [if_pos q1], rfl⟩)
  · refine sw_iconst (x := 1) O (xx_dt dd_X7_saleFact 28 rfl) (by decide) ?_
    refine sw_goto (tgt := 137) O (xx_dt dd_X7_saleFact 29 rfl) (by decide) ?_
    exact sw_iret O (xx_dt dd_X7_saleFact 31 rfl) rfl rfl (by rw [hQ]; exact ⟨by unfold f_saleFact6; simp only [if_neg q1], rfl⟩)
def f_saleFact7 (σ : XS9) (K B R C w : Nat) : Int32 := σ 1000 8
theorem ct_X7_saleFact_7 {l : Launch} {h : XH} (hl : l.stackTraces = false) {σ : XS9} {K : Nat} (hK : σ 2000 9 = nI K) (hK60 : K ≤ 60) {B : Nat} (hB : σ 1001 9 = nI B) (hB6 : B ≤ 6) {R : Nat} (hR : σ 1001 4 = nI R) (hR5 : R ≤ 5) {C : Nat} (hC : σ 1006 1 = nI C) (hC10 : C ≤ 10) {w : Nat} (hw : σ 1000 9 = nI w) (hw3 : w < 3)  : XEx l m_X7_saleFact 4 0 0 [.ref 1000, .int 7] (setC σ h) (some (.int (f_saleFact7 σ K B R C w))) (setC σ h) := by
  refine XMet.of hl rfl rfl (Nat.le_of_ble_eq_true rfl) (fun Y O hh hQ => ?_)
  show SW Y 0 0 (setC σ h) 0 [.ref 1000, .int 7] []
  refine sw_iload_n O (xx_dt dd_X7_saleFact 0 rfl) rfl ?_
  refine sw_tableIn (off := 137) (tgt := 138) O (xx_dt dd_X7_saleFact 1 rfl) (by decide) (by decide) rfl (by decide) ?_
  refine sw_aload_n O (xx_dt dd_X7_saleFact 32 rfl) rfl ?_
  refine sw_get (v := .int (σ 1000 8)) O (xx_dt dd_X7_saleFact 33 rfl) cl_X7 fl_X7_58 (ly_1000 σ h) (by decide) rfl ?_
  exact sw_iret O (xx_dt dd_X7_saleFact 34 rfl) rfl rfl (by rw [hQ]; exact ⟨by unfold f_saleFact7; rfl, rfl⟩)
def f_saleFact8 (σ : XS9) (K B R C w : Nat) : Int32 := f_allContradictions σ 2000
theorem ct_X7_saleFact_8 {l : Launch} {h : XH} (hl : l.stackTraces = false) {σ : XS9} {K : Nat} (hK : σ 2000 9 = nI K) (hK60 : K ≤ 60) {B : Nat} (hB : σ 1001 9 = nI B) (hB6 : B ≤ 6) {R : Nat} (hR : σ 1001 4 = nI R) (hR5 : R ≤ 5) {C : Nat} (hC : σ 1006 1 = nI C) (hC10 : C ≤ 10) {w : Nat} (hw : σ 1000 9 = nI w) (hw3 : w < 3)  : XEx l m_X7_saleFact 4 0 0 [.ref 1000, .int 8] (setC σ h) (some (.int (f_saleFact8 σ K B R C w))) (setC σ h) := by
  refine XMet.of hl rfl rfl (Nat.le_of_ble_eq_true rfl) (fun Y O hh hQ => ?_)
  show SW Y 0 0 (setC σ h) 0 [.ref 1000, .int 8] []
  refine sw_iload_n O (xx_dt dd_X7_saleFact 0 rfl) rfl ?_
  refine sw_tableIn (off := 142) (tgt := 143) O (xx_dt dd_X7_saleFact 1 rfl) (by decide) (by decide) rfl (by decide) ?_
  refine sw_aload_n O (xx_dt dd_X7_saleFact 35 rfl) rfl ?_
  refine sw_get (v := .ref 2000) O (xx_dt dd_X7_saleFact 36 rfl) cl_X7 fl_X7_19 (ly_1000 σ h) (by decide) rfl ?_
  refine sw_callVx (as := []) (st := []) (st2 := [.int (f_allContradictions σ 2000)]) O (ct_X1_allContradictions hl (σ := σ) (b := 2000) (.inl rfl)) ce_X1_allContradictions ml_X7_424 iv_X1_allContradictions cl_X1 rfl (lk_0 σ h (.inl rfl)) (xx_dt dd_X7_saleFact 37 rfl) (by decide) rfl rfl (Nat.le_of_ble_eq_true rfl) rfl ?_
  exact sw_iret O (xx_dt dd_X7_saleFact 38 rfl) rfl rfl (by rw [hQ]; exact ⟨by unfold f_saleFact8; rfl, rfl⟩)
def f_saleFact9 (σ : XS9) (K B R C w : Nat) : Int32 := f_winners σ
theorem ct_X7_saleFact_9 {l : Launch} {h : XH} (hl : l.stackTraces = false) {σ : XS9} {K : Nat} (hK : σ 2000 9 = nI K) (hK60 : K ≤ 60) {B : Nat} (hB : σ 1001 9 = nI B) (hB6 : B ≤ 6) {R : Nat} (hR : σ 1001 4 = nI R) (hR5 : R ≤ 5) {C : Nat} (hC : σ 1006 1 = nI C) (hC10 : C ≤ 10) {w : Nat} (hw : σ 1000 9 = nI w) (hw3 : w < 3)  : XEx l m_X7_saleFact 4 0 0 [.ref 1000, .int 9] (setC σ h) (some (.int (f_saleFact9 σ K B R C w))) (setC σ h) := by
  refine XMet.of hl rfl rfl (Nat.le_of_ble_eq_true rfl) (fun Y O hh hQ => ?_)
  show SW Y 0 0 (setC σ h) 0 [.ref 1000, .int 9] []
  refine sw_iload_n O (xx_dt dd_X7_saleFact 0 rfl) rfl ?_
  refine sw_tableIn (off := 150) (tgt := 151) O (xx_dt dd_X7_saleFact 1 rfl) (by decide) (by decide) rfl (by decide) ?_
  refine sw_aload_n O (xx_dt dd_X7_saleFact 39 rfl) rfl ?_
  refine sw_get (v := .ref 1003) O (xx_dt dd_X7_saleFact 40 rfl) cl_X7 fl_X7_29 (ly_1000 σ h) (by decide) rfl ?_
  refine sw_callVx (as := []) (st := []) (st2 := [.int (f_winners σ)]) O (ct_X2_winners hl (σ := σ)) ce_X2_winners ml_X7_197 iv_X2_winners cl_X2 rfl (ly_1003 σ h) (xx_dt dd_X7_saleFact 41 rfl) (by decide) rfl rfl (Nat.le_of_ble_eq_true rfl) rfl ?_
  exact sw_iret O (xx_dt dd_X7_saleFact 42 rfl) rfl rfl (by rw [hQ]; exact ⟨by unfold f_saleFact9; rfl, rfl⟩)
def f_saleFact10 (σ : XS9) (K B R C w : Nat) : Int32 := σ 1041 63
theorem ct_X7_saleFact_10 {l : Launch} {h : XH} (hl : l.stackTraces = false) {σ : XS9} {K : Nat} (hK : σ 2000 9 = nI K) (hK60 : K ≤ 60) {B : Nat} (hB : σ 1001 9 = nI B) (hB6 : B ≤ 6) {R : Nat} (hR : σ 1001 4 = nI R) (hR5 : R ≤ 5) {C : Nat} (hC : σ 1006 1 = nI C) (hC10 : C ≤ 10) {w : Nat} (hw : σ 1000 9 = nI w) (hw3 : w < 3)  : XEx l m_X7_saleFact 4 0 0 [.ref 1000, .int 10] (setC σ h) (some (.int (f_saleFact10 σ K B R C w))) (setC σ h) := by
  refine XMet.of hl rfl rfl (Nat.le_of_ble_eq_true rfl) (fun Y O hh hQ => ?_)
  show SW Y 0 0 (setC σ h) 0 [.ref 1000, .int 10] []
  refine sw_iload_n O (xx_dt dd_X7_saleFact 0 rfl) rfl ?_
  refine sw_tableIn (off := 158) (tgt := 159) O (xx_dt dd_X7_saleFact 1 rfl) (by decide) (by decide) rfl (by decide) ?_
  refine sw_aload_n O (xx_dt dd_X7_saleFact 43 rfl) rfl ?_
  refine sw_get (v := .ref 1003) O (xx_dt dd_X7_saleFact 44 rfl) cl_X7 fl_X7_29 (ly_1000 σ h) (by decide) rfl ?_
  refine sw_get (v := .ref 1041) O (xx_dt dd_X7_saleFact 45 rfl) cl_X2 fl_X7_307 (ly_1003 σ h) (by decide) rfl ?_
  refine sw_bipush (x := 63) O (xx_dt dd_X7_saleFact 46 rfl) (by decide) ?_
  refine sw_iaload (v := .int (σ 1041 63)) O (xx_dt dd_X7_saleFact 47 rfl) (ly_1041 σ h) (by unfold vp_in; decide) rfl ?_
  exact sw_iret O (xx_dt dd_X7_saleFact 48 rfl) rfl rfl (by rw [hQ]; exact ⟨by unfold f_saleFact10; rfl, rfl⟩)
def f_saleFact11 (σ : XS9) (K B R C w : Nat) : Int32 := f_allDue σ w B
theorem ct_X7_saleFact_11 {l : Launch} {h : XH} (hl : l.stackTraces = false) {σ : XS9} {K : Nat} (hK : σ 2000 9 = nI K) (hK60 : K ≤ 60) {B : Nat} (hB : σ 1001 9 = nI B) (hB6 : B ≤ 6) {R : Nat} (hR : σ 1001 4 = nI R) (hR5 : R ≤ 5) {C : Nat} (hC : σ 1006 1 = nI C) (hC10 : C ≤ 10) {w : Nat} (hw : σ 1000 9 = nI w) (hw3 : w < 3)  : XEx l m_X7_saleFact 4 0 0 [.ref 1000, .int 11] (setC σ h) (some (.int (f_saleFact11 σ K B R C w))) (setC σ h) := by
  refine XMet.of hl rfl rfl (Nat.le_of_ble_eq_true rfl) (fun Y O hh hQ => ?_)
  show SW Y 0 0 (setC σ h) 0 [.ref 1000, .int 11] []
  refine sw_iload_n O (xx_dt dd_X7_saleFact 0 rfl) rfl ?_
  refine sw_tableIn (off := 169) (tgt := 170) O (xx_dt dd_X7_saleFact 1 rfl) (by decide) (by decide) rfl (by decide) ?_
  refine sw_aload_n O (xx_dt dd_X7_saleFact 49 rfl) rfl ?_
  refine sw_callVx (as := []) (st := []) (st2 := [.int (f_allDue σ w B)]) O (ct_X7_allDue hl (σ := σ) (w := w) hw (by omega) (B := B) hB (by omega)) ce_X7_allDue ml_X7_427 iv_X7_allDue cl_X7 rfl (ly_1000 σ h) (xx_dt dd_X7_saleFact 50 rfl) (by decide) rfl rfl (Nat.le_of_ble_eq_true rfl) rfl ?_
  exact sw_iret O (xx_dt dd_X7_saleFact 51 rfl) rfl rfl (by rw [hQ]; exact ⟨by unfold f_saleFact11; rfl, rfl⟩)
def f_saleFact12 (σ : XS9) (K B R C w : Nat) : Int32 := σ 1000 10
theorem ct_X7_saleFact_12 {l : Launch} {h : XH} (hl : l.stackTraces = false) {σ : XS9} {K : Nat} (hK : σ 2000 9 = nI K) (hK60 : K ≤ 60) {B : Nat} (hB : σ 1001 9 = nI B) (hB6 : B ≤ 6) {R : Nat} (hR : σ 1001 4 = nI R) (hR5 : R ≤ 5) {C : Nat} (hC : σ 1006 1 = nI C) (hC10 : C ≤ 10) {w : Nat} (hw : σ 1000 9 = nI w) (hw3 : w < 3)  : XEx l m_X7_saleFact 4 0 0 [.ref 1000, .int 12] (setC σ h) (some (.int (f_saleFact12 σ K B R C w))) (setC σ h) := by
  refine XMet.of hl rfl rfl (Nat.le_of_ble_eq_true rfl) (fun Y O hh hQ => ?_)
  show SW Y 0 0 (setC σ h) 0 [.ref 1000, .int 12] []
  refine sw_iload_n O (xx_dt dd_X7_saleFact 0 rfl) rfl ?_
  refine sw_tableIn (off := 174) (tgt := 175) O (xx_dt dd_X7_saleFact 1 rfl) (by decide) (by decide) rfl (by decide) ?_
  refine sw_aload_n O (xx_dt dd_X7_saleFact 52 rfl) rfl ?_
  refine sw_get (v := .int (σ 1000 10)) O (xx_dt dd_X7_saleFact 53 rfl) cl_X7 fl_X7_209 (ly_1000 σ h) (by decide) rfl ?_
  exact sw_iret O (xx_dt dd_X7_saleFact 54 rfl) rfl rfl (by rw [hQ]; exact ⟨by unfold f_saleFact12; rfl, rfl⟩)
def f_saleFact13 (σ : XS9) (K B R C w : Nat) : Int32 := σ 1005 1
theorem ct_X7_saleFact_13 {l : Launch} {h : XH} (hl : l.stackTraces = false) {σ : XS9} {K : Nat} (hK : σ 2000 9 = nI K) (hK60 : K ≤ 60) {B : Nat} (hB : σ 1001 9 = nI B) (hB6 : B ≤ 6) {R : Nat} (hR : σ 1001 4 = nI R) (hR5 : R ≤ 5) {C : Nat} (hC : σ 1006 1 = nI C) (hC10 : C ≤ 10) {w : Nat} (hw : σ 1000 9 = nI w) (hw3 : w < 3)  : XEx l m_X7_saleFact 4 0 0 [.ref 1000, .int 13] (setC σ h) (some (.int (f_saleFact13 σ K B R C w))) (setC σ h) := by
  refine XMet.of hl rfl rfl (Nat.le_of_ble_eq_true rfl) (fun Y O hh hQ => ?_)
  show SW Y 0 0 (setC σ h) 0 [.ref 1000, .int 13] []
  refine sw_iload_n O (xx_dt dd_X7_saleFact 0 rfl) rfl ?_
  refine sw_tableIn (off := 179) (tgt := 180) O (xx_dt dd_X7_saleFact 1 rfl) (by decide) (by decide) rfl (by decide) ?_
  refine sw_aload_n O (xx_dt dd_X7_saleFact 55 rfl) rfl ?_
  refine sw_get (v := .ref 1005) O (xx_dt dd_X7_saleFact 56 rfl) cl_X7 fl_X7_43 (ly_1000 σ h) (by decide) rfl ?_
  refine sw_get (v := .int (σ 1005 1)) O (xx_dt dd_X7_saleFact 57 rfl) cl_X3 fl_X7_430 (ly_1005 σ h) (by decide) rfl ?_
  exact sw_iret O (xx_dt dd_X7_saleFact 58 rfl) rfl rfl (by rw [hQ]; exact ⟨by unfold f_saleFact13; rfl, rfl⟩)
def f_saleFact15 (σ : XS9) (K B R C w : Nat) : Int32 := nI K
theorem ct_X7_saleFact_15 {l : Launch} {h : XH} (hl : l.stackTraces = false) {σ : XS9} {K : Nat} (hK : σ 2000 9 = nI K) (hK60 : K ≤ 60) {B : Nat} (hB : σ 1001 9 = nI B) (hB6 : B ≤ 6) {R : Nat} (hR : σ 1001 4 = nI R) (hR5 : R ≤ 5) {C : Nat} (hC : σ 1006 1 = nI C) (hC10 : C ≤ 10) {w : Nat} (hw : σ 1000 9 = nI w) (hw3 : w < 3)  : XEx l m_X7_saleFact 4 0 0 [.ref 1000, .int 15] (setC σ h) (some (.int (f_saleFact15 σ K B R C w))) (setC σ h) := by
  refine XMet.of hl rfl rfl (Nat.le_of_ble_eq_true rfl) (fun Y O hh hQ => ?_)
  show SW Y 0 0 (setC σ h) 0 [.ref 1000, .int 15] []
  refine sw_iload_n O (xx_dt dd_X7_saleFact 0 rfl) rfl ?_
  refine sw_tableIn (off := 199) (tgt := 200) O (xx_dt dd_X7_saleFact 1 rfl) (by decide) (by decide) rfl (by decide) ?_
  refine sw_aload_n O (xx_dt dd_X7_saleFact 65 rfl) rfl ?_
  refine sw_get (v := .ref 2000) O (xx_dt dd_X7_saleFact 66 rfl) cl_X7 fl_X7_19 (ly_1000 σ h) (by decide) rfl ?_
  refine sw_get (v := .int (nI K)) O (xx_dt dd_X7_saleFact 67 rfl) cl_X1 fl_X7_379 (lk_0 σ h (.inl rfl)) (by decide) (congrArg Value.int hK) ?_
  exact sw_iret O (xx_dt dd_X7_saleFact 68 rfl) rfl rfl (by rw [hQ]; exact ⟨by unfold f_saleFact15; rfl, rfl⟩)
def f_saleFact16 (σ : XS9) (K B R C w : Nat) : Int32 := σ 1000 11
theorem ct_X7_saleFact_16 {l : Launch} {h : XH} (hl : l.stackTraces = false) {σ : XS9} {K : Nat} (hK : σ 2000 9 = nI K) (hK60 : K ≤ 60) {B : Nat} (hB : σ 1001 9 = nI B) (hB6 : B ≤ 6) {R : Nat} (hR : σ 1001 4 = nI R) (hR5 : R ≤ 5) {C : Nat} (hC : σ 1006 1 = nI C) (hC10 : C ≤ 10) {w : Nat} (hw : σ 1000 9 = nI w) (hw3 : w < 3)  : XEx l m_X7_saleFact 4 0 0 [.ref 1000, .int 16] (setC σ h) (some (.int (f_saleFact16 σ K B R C w))) (setC σ h) := by
  refine XMet.of hl rfl rfl (Nat.le_of_ble_eq_true rfl) (fun Y O hh hQ => ?_)
  show SW Y 0 0 (setC σ h) 0 [.ref 1000, .int 16] []
  refine sw_iload_n O (xx_dt dd_X7_saleFact 0 rfl) rfl ?_
  refine sw_tableOut (tgt := 208) O (xx_dt dd_X7_saleFact 1 rfl) (by decide) (by decide) ?_
  refine sw_aload_n O (xx_dt dd_X7_saleFact 69 rfl) rfl ?_
  refine sw_get (v := .int (σ 1000 11)) O (xx_dt dd_X7_saleFact 70 rfl) cl_X7 fl_X7_333 (ly_1000 σ h) (by decide) rfl ?_
  exact sw_iret O (xx_dt dd_X7_saleFact 71 rfl) rfl rfl (by rw [hQ]; exact ⟨by unfold f_saleFact16; rfl, rfl⟩)
end
section
/-! ===== small numbers ===== -/
theorem nI_mul (a b : Nat) : nI a * nI b = nI (a * b) := (Int32.ofNat_mul a b).symm
theorem nI_plus (a b : Nat) : nI a + nI b = nI (a + b) := (Int32.ofNat_add a b).symm
theorem nI_minus {a b : Nat} (h : b ≤ a) : nI a - nI b = nI (a - b) := (Int32.ofNat_sub a b h).symm
theorem nI_div {m k : Nat} (hm : m < 2147483648) (hk0 : 0 < k) (hk : k < 2147483648) : nI m / nI k = nI (m / k) := by
  have h1 : m / k ≤ m := Nat.div_le_self _ _
  refine Int32.toInt_inj.mp ?_
  rw [Int32.toInt_div_of_ne_right _ _ (fun e => by have h9 := congrArg Int32.toInt e; rw [nI_toInt hk] at h9; have h8 : (-1 : Int32).toInt = -1 := rfl; omega), nI_toInt hm, nI_toInt hk, nI_toInt (by omega)]
  rw [Int.tdiv_eq_ediv_of_nonneg (by omega)]
  omega
theorem nI_rem {m k : Nat} (hm : m < 2147483648) (hk0 : 0 < k) (hk : k < 2147483648) : nI m - nI m / nI k * nI k = nI (m % k) := by
  rw [nI_div hm hk0 hk, nI_mul, nI_minus (Nat.div_mul_le_self m k)]
  congr 1
  have := Nat.div_add_mod m k
  rw [Nat.mul_comm] at this
  omega
theorem or_bit {S i : Nat} (hS : S < 64) (hi : i < 6) : nI S ||| ((1 : Int32) <<< (nI i &&& 31)) = nI (S ||| 2 ^ i) := by
  have : ∀ S, S < 64 → ∀ i, i < 6 → nI S ||| ((1 : Int32) <<< (nI i &&& 31)) = nI (S ||| 2 ^ i) := by decide +kernel
  exact this S hS i hi
theorem or_bit_lt {S i : Nat} (hS : S < 64) (hi : i < 6) : S ||| 2 ^ i < 64 := by
  have : ∀ S, S < 64 → ∀ i, i < 6 → S ||| 2 ^ i < 64 := by decide +kernel
  exact this S hS i hi
theorem one_bit {i : Nat} (hi : i < 6) : (1 : Int32) <<< (nI i &&& 31) = nI (2 ^ i) := by
  have : ∀ i, i < 6 → (1 : Int32) <<< (nI i &&& 31) = nI (2 ^ i) := by decide +kernel
  exact this i hi
theorem one_bit_lt {i : Nat} (hi : i < 6) : 2 ^ i < 64 := by
  have : ∀ i, i < 6 → 2 ^ i < 64 := by decide
  exact this i hi
end
