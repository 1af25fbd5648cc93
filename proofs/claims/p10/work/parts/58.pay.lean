/-! ===== the reference's payments ===== -/
def rowN (n : Nat) : Nat → Int32 := fun i => if i = 20 then 1 else if i = 21 then nI n else 0
theorem u2_sl {σ : XS9} {r i q j : Nat} {x : Int32} (h : j ≠ i) : u2 σ r i x q j = σ q j := by
  by_cases e : q = r
  · subst e; exact u2_oi h
  · rw [u2_ne e]
theorem tmp20 {σ : XS9} {q n : Nat} : uR σ q (rowN n) q 20 = nI 1 := congrFun (uR_eq _ _ _) 20
theorem tmp21 {σ : XS9} {q n : Nat} : uR σ q (rowN n) q 21 = nI n := congrFun (uR_eq _ _ _) 21
theorem rowN_lt {n j : Nat} (hj : j < 20) : Value.int (rowN n j) = Value.int 0 := by
  unfold rowN
  rw [if_neg (by omega), if_neg (by omega)]
theorem tmpCtl {q : Nat} (hq : 20000 ≤ q ∧ q < 20010) (i : Nat) : isCtl q i = (Nat.beq i 20 || Nat.beq i 21) := by
  unfold isCtl
  rw [show Nat.ble q 5003 = false from Bool.eq_false_iff.mpr (fun e => by have := Nat.le_of_ble_eq_true e; omega), show Nat.beq q 5004 = false from Bool.eq_false_iff.mpr (fun e => by have := Nat.eq_of_beq_eq_true e; omega), show Nat.ble q 5039 = false from Bool.eq_false_iff.mpr (fun e => by have := Nat.le_of_ble_eq_true e; omega), show Nat.beq q 7000 = false from Bool.eq_false_iff.mpr (fun e => by have := Nat.eq_of_beq_eq_true e; omega), show Nat.beq q 8000 = false from Bool.eq_false_iff.mpr (fun e => by have := Nat.eq_of_beq_eq_true e; omega), show Nat.beq q 9000 = false from Bool.eq_false_iff.mpr (fun e => by have := Nat.eq_of_beq_eq_true e; omega), show Nat.ble 20000 q = true from Nat.ble_eq_true_of_le hq.1]
  simp
theorem lq_tmp {z : Int64} {C : XS9} {q : Nat} (hq : 20000 ≤ q ∧ q < 20010) (s : Nat → Int32) : lyQ z C q s = if C q 20 = 0 then none else some (100, cn (C q 21), fun k => .int (s k)) := by
  unfold lyQ
  rw [if_neg (by omega), if_neg (by omega), if_neg (by omega), if_neg (by omega), if_neg (by omega), if_neg (by omega), if_neg (by omega), if_neg (by omega), if_neg (by omega), if_neg (by omega), if_neg (by omega), if_neg (by omega), if_neg (by omega), if_neg (by omega), if_neg (by omega), if_neg (by omega), if_neg (by omega), if_neg (by omega), if_neg (by omega), if_pos (by omega)]
theorem setM_tn {z : Int64} {σ : XS9} {h : XH} {q : Nat} (hq : 20000 ≤ q ∧ q < 20010) (h0 : σ q 20 = 0) : setM z σ h q = h q := by
  refine setM_no ?_
  have e : ctl σ q 20 = σ q 20 := ctl_at (by rw [tmpCtl hq]; rfl)
  rw [lq_tmp hq, e, h0, if_pos rfl]
/-- another cell's row is of no matter where it isn't told of -/
theorem lyQ_ctl {z : Int64} {C C' : XS9} {r : Nat} {s : Nat → Int32} (h1 : ∀ q i, q < 20000 → C q i = C' q i) (h2 : r < 20000 ∨ 20010 ≤ r ∨ ∀ i, C r i = C' r i) : lyQ z C r s = lyQ z C' r s := by
  by_cases hr : 20000 ≤ r ∧ r < 20010
  · have e := (h2.resolve_left (by omega)).resolve_left (by omega)
    rw [lq_tmp hr, lq_tmp hr, e, e]
  · by_cases h3 : 20010 ≤ r
    · unfold lyQ
      rw [if_neg (by omega), if_neg (by omega), if_neg (by omega), if_neg (by omega), if_neg (by omega), if_neg (by omega), if_neg (by omega), if_neg (by omega), if_neg (by omega), if_neg (by omega), if_neg (by omega), if_neg (by omega), if_neg (by omega), if_neg (by omega), if_neg (by omega), if_neg (by omega), if_neg (by omega), if_neg (by omega), if_neg (by omega), if_neg (by omega), if_neg (by omega), if_neg (by omega), if_neg (by omega), if_neg (by omega), if_neg (by omega), if_neg (by omega), if_neg (by omega), if_neg (by omega), if_neg (by omega), if_neg (by omega), if_neg (by omega), if_neg (by omega), if_neg (by omega), if_neg (by omega), if_neg (by omega), if_neg (by omega), if_neg (by omega), if_neg (by omega), if_neg (by omega), if_neg (by omega)]
    · have hr2 : r < 20000 := by omega
      have e1 : ∀ i, C 5001 i = C' 5001 i := fun i => h1 _ _ (by omega)
      have e2 : ∀ i, C 5002 i = C' 5002 i := fun i => h1 _ _ (by omega)
      have e3 : ∀ i, C 5003 i = C' 5003 i := fun i => h1 _ _ (by omega)
      have e4 : ∀ i, C 5004 i = C' 5004 i := fun i => h1 _ _ (by omega)
      have e7 : ∀ i, C 7000 i = C' 7000 i := fun i => h1 _ _ (by omega)
      have e8 : ∀ i, C 8000 i = C' 8000 i := fun i => h1 _ _ (by omega)
      have e9 : ∀ i, C 9000 i = C' 9000 i := fun i => h1 _ _ (by omega)
      have er : ∀ i, C r i = C' r i := fun i => h1 _ _ hr2
      have ep : ∀ i, C (5030 + (r - 10000) / 20) i = C' (5030 + (r - 10000) / 20) i := fun i => h1 _ _ (by omega)
      unfold lyQ lyB nmS
      simp only [e1, e2, e3, e4, e7, e8, e9, er, ep, if_neg (show ¬ (20000 ≤ r) by omega)]
theorem new_tmp {z : Int64} {σ : XS9} {h : XH} {q n : Nat} (hq : 20000 ≤ q ∧ q < 20010) (hn : n ≤ 20) : xx_up (setM z σ h) q (100, n, fun k => .int (rowN n k)) = setM z (uR σ q (rowN n)) h := by
  funext a
  unfold xx_up
  have hout : ∀ r i, r ≠ q → ctl (uR σ q (rowN n)) r i = ctl σ r i := fun r i e => by
    unfold ctl
    rw [uR_ne e]
  by_cases e : a = q
  · subst e
    rw [if_pos rfl, setM_of (by omega) (c := (100, n, fun k => .int (rowN n k)))]
    have e1 : ctl (uR σ a (rowN n)) a 20 = 1 := (ctl_at (by rw [tmpCtl hq]; rfl)).trans (by rw [uR_eq]; rfl)
    have e2 : ctl (uR σ a (rowN n)) a 21 = nI n := (ctl_at (by rw [tmpCtl hq]; rfl)).trans (by rw [uR_eq]; rfl)
    rw [lq_tmp hq, e1, e2, if_neg (by decide), cn_nI (by omega), uR_eq]
  · rw [if_neg e]
    unfold setM
    rw [uR_ne e, lyQ_ctl (C := ctl (uR σ q (rowN n))) (C' := ctl σ) (fun r i hr => hout r i (by omega)) (.inr (.inr fun i => hout a i e))]
theorem raise_out {σ : XS9} {S x qa B : Nat} (hB6 : B ≤ 6) (hx : x < 2147483648) (h1 : σ qa 20 = nI 1) (h2 : σ qa 21 = nI 6) : g_Craise σ S x qa B qa 20 = nI 1 ∧ g_Craise σ S x qa B qa 21 = nI 6 ∧ ∀ q9, q9 ≠ qa → g_Craise σ S x qa B q9 = σ q9 := by
  have H := xitB_inv (fun s : XS9 × Nat × Int32 => s.1 qa 20 = nI 1 ∧ s.1 qa 21 = nI 6 ∧ (∀ q9, q9 ≠ qa → s.1 q9 = σ q9) ∧ s.2.1 ≤ x) (N := x + 1) (step := fun i6 s6 => (if (nI (s6.2.1)) ≤ 0 then .inr (s6.1, s6.2.1, s6.2.2) else (if s6.2.2 = 0 then .inr (s6.1, s6.2.1, s6.2.2) else .inl ((x_Craise_22 σ S x qa B s6 (s6.1, s6.2.1, 0)).1, (x_Craise_22 σ S x qa B s6 (s6.1, s6.2.1, 0)).2.1, (x_Craise_22 σ S x qa B s6 (s6.1, s6.2.1, 0)).2.2)))) (fun i6 s6 hi6 hP6 => by
    have h9 := raise_in (σ := σ) (S := S) (x := x) (B := B) hB6 (Nat.lt_of_le_of_lt hP6.2.2.2 hx) hP6.1 hP6.2.1 hP6.2.2.1
    refine ⟨?_, ?_⟩
    · intro s' e'
      revert e'
      (try dsimp only)
      (repeat' split) <;> intro e' <;> first | (cases e'; done) | (have e9 := Sum.inl.inj e'; subst e9; exact ⟨h9.1, h9.2.1, h9.2.2.1, Nat.le_trans h9.2.2.2.1 hP6.2.2.2⟩)
    · intro s' e'
      revert e'
      (try dsimp only)
      (repeat' split) <;> intro e' <;> first | (cases e'; done) | (have e9 := Sum.inr.inj e'; subst e9; exact hP6)) (x + 1) 0 (σ, x, 1) (by omega) ⟨h1, h2, fun _ _ => rfl, Nat.le_refl _⟩
  exact ⟨H.1, H.2.1, H.2.2.1⟩
def x_Cpay1_7 (σ : XS9) (w qa B : Nat) (s0 : XS9) : XS9 := xit (fun i7 s7 => (if (σ 9001 i7) = (-1) then s7 else (if (nI w) = 0 then u2 s7 qa i7 (f_Camount s7 i7) else u2 s7 qa i7 ((f_Cworth s7 (bclr (2 ^ B - 1) i7)) - ((f_Cworth s7 (2 ^ B - 1)) - (f_Camount s7 i7)))))) B 0 s0
def g_Cpay1 (σ : XS9) (w qa B : Nat) : XS9 := (x_Cpay1_7 σ w qa B (uR σ qa (rowN 6)))
theorem ct_Cpay1 {l : Launch} {h : XH} (hl : l.stackTraces = false) {z : Int64} {σ : XS9} (hbs : xx_bs h) (hc : σ 9000 20 = nI 1) {B : Nat} (hB : σ 5002 900 = nI B) (hB6 : B ≤ 6) {pk : Nat → Nat} (hpk : ∀ j, j < B → σ (5030 + j) 900 = nI (2 * pk j) ∧ pk j ≤ 6) (hpi : ∀ j, j < B → σ 9001 j = -1 ∨ ∃ n, n < pk j ∧ σ 9001 j = nI n) {qa : Nat} (hqa : 20000 ≤ qa ∧ qa < 20010) (hfr : ∀ r, 5000 ≤ r → r < 20010 → h r = none) (hq0 : σ qa 20 = 0) {w : Nat} (hw2 : w < 2) : XEx l m_X10_payments 6 1 6 [.ref 9000, .int (nI w)] (setM z σ h) (some (.ref qa)) (setM z (g_Cpay1 σ w qa B) h) := by
  refine XMet.of hl rfl rfl (Nat.le_of_ble_eq_true rfl) (fun Y O hh hQ => ?_)
  show SW Y 1 6 (setM z σ h) 0 [.ref 9000, .int (nI w), xx_d, xx_d, xx_d] []
  refine sw_bipush (x := 6) O (xx_dt dd_X10_payments 0 rfl) (by decide) ?_
  refine sw_newarray (k := 0) (n := 0) (t := 100) (N := 6) (r := qa) O (xx_dt dd_X10_payments 1 rfl) ⟨⟨by omega, by omega⟩, rfl⟩ ac_int (by first | decide | (have h9 := xx_nlt0 6 (by omega); exact h9)) (by first | rfl | exact nI_clamp (by omega)) (by show 6 * 4 ≤ _; omega) ((setM_tn (z := z) (σ := σ) (q := qa) (by omega) hq0).trans (hfr qa (by omega) (by omega))) (by omega) ?_
  rw [xx_blk_up]
  refine sw_alter (F2 := fun k => .int (rowN 6 k)) (xx_up_eq _ _ _) (fun j9 hj9 => (rowN_lt (by omega)).symm) ?_
  rw [xx_up_up]
  rw [new_tmp (σ := σ) (q := qa) (n := 6) (by omega) (by omega)]
  refine sw_astore_n (ls2 := [.ref 9000, .int (nI w), .ref qa, xx_d, xx_d]) O (xx_dt dd_X10_payments 2 rfl) (by decide) rfl ?_
  refine sw_iconst (x := 0) O (xx_dt dd_X10_payments 3 rfl) (by decide) ?_
  refine sw_istore_n (ls2 := [.ref 9000, .int (nI w), .ref qa, .int 0, xx_d]) O (xx_dt dd_X10_payments 4 rfl) (by decide) rfl ?_
  refine sw_for (S := XS9) (fun i7 s7 => (if (σ 9001 i7) = (-1) then s7 else (if (nI w) = 0 then u2 s7 qa i7 (f_Camount s7 i7) else u2 s7 qa i7 ((f_Cworth s7 (bclr (2 ^ B - 1) i7)) - ((f_Cworth s7 (2 ^ B - 1)) - (f_Camount s7 i7)))))) (fun _ s7 => s7 qa 20 = nI 1 ∧ s7 qa 21 = nI 6 ∧ (∀ q9, q9 ≠ qa → s7 q9 = σ q9)) (hp := fun s7 => setM z s7 h) (hd := 7) (lc := fun i7 s7 => [.ref 9000, .int (nI w), .ref qa, .int (nI i7), xx_d]) (N := B) (fun i7 s7 hi7 hP7 => ⟨(by (try dsimp only); (repeat' split) <;> (refine ⟨?_, ?_, ?_⟩ <;> (first | exact hP7.1 | exact hP7.2.1 | exact hP7.2.2 | exact (by rw [u2_oi (by omega)]; first | exact hP7.1 | exact hP7.2.1) | exact (fun q9 hq9 => by rw [u2_ne hq9]; exact hP7.2.2 q9 hq9) | exact hi7 | exact .inl rfl | exact .inr rfl | (simp (disch := omega) only [u2_ne, uR_ne, fr_fill]; first | exact hP7.1 | exact hP7.2.1 | exact hP7.2.2 | exact (by rw [u2_oi (by omega)]; first | exact hP7.1 | exact hP7.2.1) | exact (fun q9 hq9 => by rw [u2_ne hq9]; exact hP7.2.2 q9 hq9))))), fun kk7 => ?_⟩) B 0 (uR σ qa (rowN 6)) (by omega) (⟨(show (uR σ qa (rowN 6)) qa 20 = nI 1 from tmp20), (show (uR σ qa (rowN 6)) qa 21 = nI 6 from tmp21), (fun q9 hq9 => uR_ne hq9)⟩) (fun hP7 => ?_)
  · refine sw_iload_n O (xx_dt dd_X10_payments 5 rfl) rfl ?_
    refine sw_aload_n O (xx_dt dd_X10_payments 6 rfl) rfl ?_
    refine sw_get (v := .ref 5000) O (xx_dt dd_X10_payments 7 rfl) cl_X10 fl_X10_3 (lm_9000 (σ := s7) (fl1 ((congrFun (hP7.2.2 _ (by omega)) 20).trans hc))) (by decide) rfl ?_
    refine sw_get (v := .ref 5002) O (xx_dt dd_X10_payments 8 rfl) cl_X14 fl_X10_67 (lm_mod (σ := s7)) (by decide) rfl ?_
    refine sw_callVL (ci := 6) (as := []) (st := [.int (nI i7)]) (st2 := [.int (nI B), .int (nI i7)]) O (ct_AL_size hl (lm_5002 (σ := s7) (B := B) ((congrFun (hP7.2.2 _ (by omega)) 900).trans hB) (by omega))) ce_Jx4a65c_size_8abf5 ml_X10_39 iv_Jx4a65c_size_8abf5 cl_Jx4a65c rfl (lm_5002 (σ := s7) (B := B) ((congrFun (hP7.2.2 _ (by omega)) 900).trans hB) (by omega)) (xx_dt dd_X10_payments 9 rfl) (by decide) rfl rfl (Nat.le_of_ble_eq_true rfl) rfl ?_
    refine sw_icmp_ge (tgt := 84) O (xx_dt dd_X10_payments 10 rfl) (by decide) (fun q1 => ?_) (fun q1 => ?_)
    · exact absurd q1 (nI_ge (b := B) hi7 (by omega))
    · refine sw_aload_n O (xx_dt dd_X10_payments 11 rfl) rfl ?_
      refine sw_get (v := .ref 9001) O (xx_dt dd_X10_payments 12 rfl) cl_X10 fl_X10_15 (lm_9000 (σ := s7) (fl1 ((congrFun (hP7.2.2 _ (by omega)) 20).trans hc))) (by decide) rfl ?_
      refine sw_iload_n O (xx_dt dd_X10_payments 13 rfl) rfl ?_
      refine sw_iaload (v := .int (σ 9001 i7)) O (xx_dt dd_X10_payments 14 rfl) ((im_9001 (z := z) (σ := s7) ((congrFun (hP7.2.2 _ (by omega)) 20).trans hc)).get _) (pk_in i7 _ (by omega)) (by rw [nI_clamp (by omega)]; exact (congrArg Value.int (congrFun (hP7.2.2 _ (by omega)) i7))) ?_
      refine sw_iconst (x := (-1)) O (xx_dt dd_X10_payments 15 rfl) (by decide) ?_
      refine sw_icmp_ne (tgt := 34) O (xx_dt dd_X10_payments 16 rfl) (by decide) (fun q2 => ?_) (fun q2 => ?_)
      · refine sw_aload_n O (xx_dt dd_X10_payments 18 rfl) rfl ?_
        refine sw_iload_n O (xx_dt dd_X10_payments 19 rfl) rfl ?_
        refine sw_iload_n O (xx_dt dd_X10_payments 20 rfl) rfl ?_
        refine sw_if_ne (tgt := 48) O (xx_dt dd_X10_payments 21 rfl) (by decide) (fun q3 => ?_) (fun q3 => ?_)
        · refine sw_aload_n O (xx_dt dd_X10_payments 26 rfl) rfl ?_
          refine sw_aload_n O (xx_dt dd_X10_payments 27 rfl) rfl ?_
          have hq50 := pow_le6 hB6
          refine sw_callVx (as := []) (st := [.ref 9000, .int (nI i7), .ref qa]) (st2 := [.int (nI (2 ^ B - 1)), .ref 9000, .int (nI i7), .ref qa]) O (ct_X10_all hl (z := z) (σ := s7) hbs ((congrFun (hP7.2.2 _ (by omega)) 20).trans hc) (B := B) ((congrFun (hP7.2.2 _ (by omega)) 900).trans hB) (by omega)) ce_X10_all ml_X10_110 iv_X10_all cl_X10 rfl (lm_9000 (σ := s7) (fl1 ((congrFun (hP7.2.2 _ (by omega)) 20).trans hc))) (xx_dt dd_X10_payments 28 rfl) (by decide) rfl rfl (Nat.le_of_ble_eq_true rfl) rfl ?_
          refine sw_iconst (x := 1) O (xx_dt dd_X10_payments 29 rfl) (by decide) ?_
          refine sw_iload_n O (xx_dt dd_X10_payments 30 rfl) rfl ?_
          refine sw_ishl O (xx_dt dd_X10_payments 31 rfl) ?_
          refine sw_iconst (x := (-1)) O (xx_dt dd_X10_payments 32 rfl) (by decide) ?_
          refine sw_ixor O (xx_dt dd_X10_payments 33 rfl) ?_
          refine sw_iand O (xx_dt dd_X10_payments 34 rfl) ?_
          have hx58 := bclr_lt (S := 2 ^ B - 1) (k := i7) (by omega)
          rw [bclr_eq (S := 2 ^ B - 1) (k := i7) (by omega) (by omega)]
          refine sw_callVx (as := [.int (nI (bclr (2 ^ B - 1) i7))]) (st := [.int (nI i7), .ref qa]) (st2 := [.int (f_Cworth s7 (bclr (2 ^ B - 1) i7)), .int (nI i7), .ref qa]) O (ct_X10_worth hl (z := z) (σ := s7) hbs ((congrFun (hP7.2.2 _ (by omega)) 20).trans hc) (S := bclr (2 ^ B - 1) i7) (by first | omega | assumption)) ce_X10_worth ml_X10_106 iv_X10_worth cl_X10 rfl (lm_9000 (σ := s7) (fl1 ((congrFun (hP7.2.2 _ (by omega)) 20).trans hc))) (xx_dt dd_X10_payments 35 rfl) (by decide) rfl rfl (Nat.le_of_ble_eq_true rfl) rfl ?_
          refine sw_aload_n O (xx_dt dd_X10_payments 36 rfl) rfl ?_
          refine sw_aload_n O (xx_dt dd_X10_payments 37 rfl) rfl ?_
          have hq64 := pow_le6 hB6
          refine sw_callVx (as := []) (st := [.ref 9000, .int (f_Cworth s7 (bclr (2 ^ B - 1) i7)), .int (nI i7), .ref qa]) (st2 := [.int (nI (2 ^ B - 1)), .ref 9000, .int (f_Cworth s7 (bclr (2 ^ B - 1) i7)), .int (nI i7), .ref qa]) O (ct_X10_all hl (z := z) (σ := s7) hbs ((congrFun (hP7.2.2 _ (by omega)) 20).trans hc) (B := B) ((congrFun (hP7.2.2 _ (by omega)) 900).trans hB) (by omega)) ce_X10_all ml_X10_110 iv_X10_all cl_X10 rfl (lm_9000 (σ := s7) (fl1 ((congrFun (hP7.2.2 _ (by omega)) 20).trans hc))) (xx_dt dd_X10_payments 38 rfl) (by decide) rfl rfl (Nat.le_of_ble_eq_true rfl) rfl ?_
          refine sw_callVx (as := [.int (nI (2 ^ B - 1))]) (st := [.int (f_Cworth s7 (bclr (2 ^ B - 1) i7)), .int (nI i7), .ref qa]) (st2 := [.int (f_Cworth s7 (2 ^ B - 1)), .int (f_Cworth s7 (bclr (2 ^ B - 1) i7)), .int (nI i7), .ref qa]) O (ct_X10_worth hl (z := z) (σ := s7) hbs ((congrFun (hP7.2.2 _ (by omega)) 20).trans hc) (S := 2 ^ B - 1) (by first | omega | assumption)) ce_X10_worth ml_X10_106 iv_X10_worth cl_X10 rfl (lm_9000 (σ := s7) (fl1 ((congrFun (hP7.2.2 _ (by omega)) 20).trans hc))) (xx_dt dd_X10_payments 39 rfl) (by decide) rfl rfl (Nat.le_of_ble_eq_true rfl) rfl ?_
          refine sw_aload_n O (xx_dt dd_X10_payments 40 rfl) rfl ?_
          refine sw_iload_n O (xx_dt dd_X10_payments 41 rfl) rfl ?_
          refine sw_callVx (as := [.int (nI i7)]) (st := [.int (f_Cworth s7 (2 ^ B - 1)), .int (f_Cworth s7 (bclr (2 ^ B - 1) i7)), .int (nI i7), .ref qa]) (st2 := [.int (f_Camount s7 i7), .int (f_Cworth s7 (2 ^ B - 1)), .int (f_Cworth s7 (bclr (2 ^ B - 1) i7)), .int (nI i7), .ref qa]) O (ct_X10_amount hl (z := z) (σ := s7) hbs ((congrFun (hP7.2.2 _ (by omega)) 20).trans hc) (B := B) ((congrFun (hP7.2.2 _ (by omega)) 900).trans hB) (by omega) (pk := pk) (fun j9 hj9 => by rw [show s7 (5030 + j9) 900 = σ (5030 + j9) 900 from (congrFun (hP7.2.2 _ (by omega)) 900)]; exact hpk j9 hj9) (fun j9 hj9 => by rw [show s7 9001 = σ 9001 from (hP7.2.2 _ (by omega))]; exact hpi j9 hj9) (i := i7) (by omega)) ce_X10_amount ml_X10_109 iv_X10_amount cl_X10 rfl (lm_9000 (σ := s7) (fl1 ((congrFun (hP7.2.2 _ (by omega)) 20).trans hc))) (xx_dt dd_X10_payments 42 rfl) (by decide) rfl rfl (Nat.le_of_ble_eq_true rfl) rfl ?_
          refine sw_isub O (xx_dt dd_X10_payments 43 rfl) ?_
          refine sw_isub O (xx_dt dd_X10_payments 44 rfl) ?_
          refine sw_iastore (h2 := setM z (u2 s7 qa i7 ((f_Cworth s7 (bclr (2 ^ B - 1) i7)) - ((f_Cworth s7 (2 ^ B - 1)) - (f_Camount s7 i7)))) h) O (xx_dt dd_X10_payments 45 rfl) ((lm_tmp (z := z) (σ := s7) (h := h) (q := qa) (by omega) (fl1 hP7.1) hP7.2.1 (by omega)).get _) (pk_in i7 _ (by omega)) (by omega) (by rw [nI_clamp (by omega)]; exact ((lm_tmp (z := z) (σ := s7) (h := h) (q := qa) (by omega) (fl1 hP7.1) hP7.2.1 (by omega)).put (by omega))) ?_
          refine sw_iinc (y := nI (i7 + 1)) (ls2 := [.ref 9000, .int (nI w), .ref qa, .int (nI (i7 + 1)), xx_d]) O (xx_dt dd_X10_payments 46 rfl) rfl (nI_1 _) (by decide) rfl ?_
          refine sw_goto (tgt := 7) O (xx_dt dd_X10_payments 47 rfl) (by decide) ?_
          simp only [if_neg q2, if_neg q3] at kk7
          exact kk7
        · refine sw_aload_n O (xx_dt dd_X10_payments 22 rfl) rfl ?_
          refine sw_iload_n O (xx_dt dd_X10_payments 23 rfl) rfl ?_
          refine sw_callVx (as := [.int (nI i7)]) (st := [.int (nI i7), .ref qa]) (st2 := [.int (f_Camount s7 i7), .int (nI i7), .ref qa]) O (ct_X10_amount hl (z := z) (σ := s7) hbs ((congrFun (hP7.2.2 _ (by omega)) 20).trans hc) (B := B) ((congrFun (hP7.2.2 _ (by omega)) 900).trans hB) (by omega) (pk := pk) (fun j9 hj9 => by rw [show s7 (5030 + j9) 900 = σ (5030 + j9) 900 from (congrFun (hP7.2.2 _ (by omega)) 900)]; exact hpk j9 hj9) (fun j9 hj9 => by rw [show s7 9001 = σ 9001 from (hP7.2.2 _ (by omega))]; exact hpi j9 hj9) (i := i7) (by omega)) ce_X10_amount ml_X10_109 iv_X10_amount cl_X10 rfl (lm_9000 (σ := s7) (fl1 ((congrFun (hP7.2.2 _ (by omega)) 20).trans hc))) (xx_dt dd_X10_payments 24 rfl) (by decide) rfl rfl (Nat.le_of_ble_eq_true rfl) rfl ?_
          refine sw_goto (tgt := 77) O (xx_dt dd_X10_payments 25 rfl) (by decide) ?_
          refine sw_iastore (h2 := setM z (u2 s7 qa i7 (f_Camount s7 i7)) h) O (xx_dt dd_X10_payments 45 rfl) ((lm_tmp (z := z) (σ := s7) (h := h) (q := qa) (by omega) (fl1 hP7.1) hP7.2.1 (by omega)).get _) (pk_in i7 _ (by omega)) (by omega) (by rw [nI_clamp (by omega)]; exact ((lm_tmp (z := z) (σ := s7) (h := h) (q := qa) (by omega) (fl1 hP7.1) hP7.2.1 (by omega)).put (by omega))) ?_
          refine sw_iinc (y := nI (i7 + 1)) (ls2 := [.ref 9000, .int (nI w), .ref qa, .int (nI (i7 + 1)), xx_d]) O (xx_dt dd_X10_payments 46 rfl) rfl (nI_1 _) (by decide) rfl ?_
          refine sw_goto (tgt := 7) O (xx_dt dd_X10_payments 47 rfl) (by decide) ?_
          simp only [if_neg q2, if_pos q3] at kk7
          exact kk7
      · refine sw_goto (tgt := 78) O (xx_dt dd_X10_payments 17 rfl) (by decide) ?_
        refine sw_iinc (y := nI (i7 + 1)) (ls2 := [.ref 9000, .int (nI w), .ref qa, .int (nI (i7 + 1)), xx_d]) O (xx_dt dd_X10_payments 46 rfl) rfl (nI_1 _) (by decide) rfl ?_
        refine sw_goto (tgt := 7) O (xx_dt dd_X10_payments 47 rfl) (by decide) ?_
        simp only [if_pos q2] at kk7
        exact kk7
  · show SW Y _ _ (setM z (x_Cpay1_7 σ w qa B (uR σ qa (rowN 6))) h) 7 [.ref 9000, .int (nI w), .ref qa, .int (nI B), xx_d] []
    have hP7 : (x_Cpay1_7 σ w qa B (uR σ qa (rowN 6))) qa 20 = nI 1 ∧ (x_Cpay1_7 σ w qa B (uR σ qa (rowN 6))) qa 21 = nI 6 ∧ (∀ q9, q9 ≠ qa → (x_Cpay1_7 σ w qa B (uR σ qa (rowN 6))) q9 = σ q9) := hP7
    refine sw_iload_n O (xx_dt dd_X10_payments 5 rfl) rfl ?_
    refine sw_aload_n O (xx_dt dd_X10_payments 6 rfl) rfl ?_
    refine sw_get (v := .ref 5000) O (xx_dt dd_X10_payments 7 rfl) cl_X10 fl_X10_3 (lm_9000 (σ := (x_Cpay1_7 σ w qa B (uR σ qa (rowN 6)))) (fl1 ((congrFun (hP7.2.2 _ (by omega)) 20).trans hc))) (by decide) rfl ?_
    refine sw_get (v := .ref 5002) O (xx_dt dd_X10_payments 8 rfl) cl_X14 fl_X10_67 (lm_mod (σ := (x_Cpay1_7 σ w qa B (uR σ qa (rowN 6))))) (by decide) rfl ?_
    refine sw_callVL (ci := 6) (as := []) (st := [.int (nI B)]) (st2 := [.int (nI B), .int (nI B)]) O (ct_AL_size hl (lm_5002 (σ := (x_Cpay1_7 σ w qa B (uR σ qa (rowN 6)))) (B := B) ((congrFun (hP7.2.2 _ (by omega)) 900).trans hB) (by omega))) ce_Jx4a65c_size_8abf5 ml_X10_39 iv_Jx4a65c_size_8abf5 cl_Jx4a65c rfl (lm_5002 (σ := (x_Cpay1_7 σ w qa B (uR σ qa (rowN 6)))) (B := B) ((congrFun (hP7.2.2 _ (by omega)) 900).trans hB) (by omega)) (xx_dt dd_X10_payments 9 rfl) (by decide) rfl rfl (Nat.le_of_ble_eq_true rfl) rfl ?_
    refine sw_icmp_ge (tgt := 84) O (xx_dt dd_X10_payments 10 rfl) (by decide) (fun q1 => ?_) (fun q1 => ?_)
    · refine sw_iload_n O (xx_dt dd_X10_payments 48 rfl) rfl ?_
      refine sw_iconst (x := 2) O (xx_dt dd_X10_payments 49 rfl) (by decide) ?_
      refine sw_icmp_ne (tgt := 155) O (xx_dt dd_X10_payments 50 rfl) (by decide) (fun q9 => ?_) (fun q9 => absurd (congrArg cn q9) (by rw [cn_nI (by omega)]; show ¬ w = 2; omega))
      refine sw_aload_n O (xx_dt dd_X10_payments 86 rfl) rfl ?_
      exact sw_aret O (xx_dt dd_X10_payments 87 rfl) rfl (.inr ⟨_, rfl⟩) (by rw [hQ]; exact ⟨rfl, by unfold g_Cpay1; rfl⟩)
    · exact absurd (Int32.le_refl _) q1
theorem pos_nat {x : Int32} (h : ¬ x ≤ 0) : x = nI (cn x) ∧ cn x < 2147483648 := by
  have h0 : (0 : Int32) ≤ x := by
    rw [i_le] at h ⊢
    have : (0 : Int32).toInt = 0 := rfl
    omega
  obtain ⟨h1, h2⟩ := cn_of h0
  refine ⟨h1, ?_⟩
  have h3 := Int32.toInt_lt x
  omega
def x_Cpay2_7 (σ : XS9) (qa B : Nat) (s0 : XS9) : XS9 := xit (fun i7 s7 => (if (σ 9001 i7) = (-1) then s7 else u2 s7 qa i7 ((f_Cworth s7 (bclr (2 ^ B - 1) i7)) - ((f_Cworth s7 (2 ^ B - 1)) - (f_Camount s7 i7))))) B 0 s0
def x_Cpay2_94 (s : XS9) (qa B : Nat) (s0 : Nat) : Nat := xit (fun i94 s94 => (if (f_Cobjection s (1 + i94) qa B) ≤ (f_Cobjection s s94 qa B) then s94 else 1 + i94)) (2 ^ B - 1) 0 s0
def g_Cpay20 (σ : XS9) (qa B : Nat) : XS9 := (x_Cpay2_7 σ qa B (uR σ qa (rowN 6)))
def p2_step (qa B : Nat) : Nat → XS9 → XS9 ⊕ XS9 := fun _ s => (if 0 < (f_Cobjection s (x_Cpay2_94 s qa B 0) qa B) then .inl (g_Craise s (x_Cpay2_94 s qa B 0) (cn (f_Cobjection s (x_Cpay2_94 s qa B 0) qa B)) qa B) else .inr s)
def g_Cpay2 (σ : XS9) (qa B : Nat) : XS9 := match xitR (p2_step qa B) 20000000 0 (g_Cpay20 σ qa B) with | .inl s => s | .inr r => r
theorem ct_Cpay2 {l : Launch} {h : XH} (hl : l.stackTraces = false) {z : Int64} {σ : XS9} (hbs : xx_bs h) (hc : σ 9000 20 = nI 1) {B : Nat} (hB : σ 5002 900 = nI B) (hB6 : B ≤ 6) {pk : Nat → Nat} (hpk : ∀ j, j < B → σ (5030 + j) 900 = nI (2 * pk j) ∧ pk j ≤ 6) (hpi : ∀ j, j < B → σ 9001 j = -1 ∨ ∃ n, n < pk j ∧ σ 9001 j = nI n) {qa : Nat} (hqa : 20000 ≤ qa ∧ qa < 20010) (hfr : ∀ r, 5000 ≤ r → r < 20010 → h r = none) (hq0 : σ qa 20 = 0) (hterm : ∃ r, xitR (p2_step qa B) 20000000 0 (g_Cpay20 σ qa B) = .inr r) : XEx l m_X10_payments 6 1 6 [.ref 9000, .int 2] (setM z σ h) (some (.ref qa)) (setM z (g_Cpay2 σ qa B) h) := by
  obtain ⟨rT, hrT⟩ := hterm
  refine XMet.of hl rfl rfl (Nat.le_of_ble_eq_true rfl) (fun Y O hh hQ => ?_)
  show SW Y 1 6 (setM z σ h) 0 [.ref 9000, .int 2, xx_d, xx_d, xx_d] []
  refine sw_bipush (x := 6) O (xx_dt dd_X10_payments 0 rfl) (by decide) ?_
  refine sw_newarray (k := 0) (n := 0) (t := 100) (N := 6) (r := qa) O (xx_dt dd_X10_payments 1 rfl) ⟨⟨by omega, by omega⟩, rfl⟩ ac_int (by first | decide | (have h9 := xx_nlt0 6 (by omega); exact h9)) (by first | rfl | exact nI_clamp (by omega)) (by show 6 * 4 ≤ _; omega) ((setM_tn (z := z) (σ := σ) (q := qa) (by omega) hq0).trans (hfr qa (by omega) (by omega))) (by omega) ?_
  rw [xx_blk_up]
  refine sw_alter (F2 := fun k => .int (rowN 6 k)) (xx_up_eq _ _ _) (fun j9 hj9 => (rowN_lt (by omega)).symm) ?_
  rw [xx_up_up]
  rw [new_tmp (σ := σ) (q := qa) (n := 6) (by omega) (by omega)]
  refine sw_astore_n (ls2 := [.ref 9000, .int 2, .ref qa, xx_d, xx_d]) O (xx_dt dd_X10_payments 2 rfl) (by decide) rfl ?_
  refine sw_iconst (x := 0) O (xx_dt dd_X10_payments 3 rfl) (by decide) ?_
  refine sw_istore_n (ls2 := [.ref 9000, .int 2, .ref qa, .int 0, xx_d]) O (xx_dt dd_X10_payments 4 rfl) (by decide) rfl ?_
  refine sw_for (S := XS9) (fun i7 s7 => (if (σ 9001 i7) = (-1) then s7 else u2 s7 qa i7 ((f_Cworth s7 (bclr (2 ^ B - 1) i7)) - ((f_Cworth s7 (2 ^ B - 1)) - (f_Camount s7 i7))))) (fun _ s7 => s7 qa 20 = nI 1 ∧ s7 qa 21 = nI 6 ∧ (∀ q9, q9 ≠ qa → s7 q9 = σ q9)) (hp := fun s7 => setM z s7 h) (hd := 7) (lc := fun i7 s7 => [.ref 9000, .int 2, .ref qa, .int (nI i7), xx_d]) (N := B) (fun i7 s7 hi7 hP7 => ⟨(by (try dsimp only); (repeat' split) <;> (refine ⟨?_, ?_, ?_⟩ <;> (first | exact hP7.1 | exact hP7.2.1 | exact hP7.2.2 | exact (by rw [u2_oi (by omega)]; first | exact hP7.1 | exact hP7.2.1) | exact (fun q9 hq9 => by rw [u2_ne hq9]; exact hP7.2.2 q9 hq9) | exact hi7 | exact .inl rfl | exact .inr rfl | (simp (disch := omega) only [u2_ne, uR_ne, fr_fill]; first | exact hP7.1 | exact hP7.2.1 | exact hP7.2.2 | exact (by rw [u2_oi (by omega)]; first | exact hP7.1 | exact hP7.2.1) | exact (fun q9 hq9 => by rw [u2_ne hq9]; exact hP7.2.2 q9 hq9))))), fun kk7 => ?_⟩) B 0 (uR σ qa (rowN 6)) (by omega) (⟨(show (uR σ qa (rowN 6)) qa 20 = nI 1 from tmp20), (show (uR σ qa (rowN 6)) qa 21 = nI 6 from tmp21), (fun q9 hq9 => uR_ne hq9)⟩) (fun hP7 => ?_)
  · refine sw_iload_n O (xx_dt dd_X10_payments 5 rfl) rfl ?_
    refine sw_aload_n O (xx_dt dd_X10_payments 6 rfl) rfl ?_
    refine sw_get (v := .ref 5000) O (xx_dt dd_X10_payments 7 rfl) cl_X10 fl_X10_3 (lm_9000 (σ := s7) (fl1 ((congrFun (hP7.2.2 _ (by omega)) 20).trans hc))) (by decide) rfl ?_
    refine sw_get (v := .ref 5002) O (xx_dt dd_X10_payments 8 rfl) cl_X14 fl_X10_67 (lm_mod (σ := s7)) (by decide) rfl ?_
    refine sw_callVL (ci := 6) (as := []) (st := [.int (nI i7)]) (st2 := [.int (nI B), .int (nI i7)]) O (ct_AL_size hl (lm_5002 (σ := s7) (B := B) ((congrFun (hP7.2.2 _ (by omega)) 900).trans hB) (by omega))) ce_Jx4a65c_size_8abf5 ml_X10_39 iv_Jx4a65c_size_8abf5 cl_Jx4a65c rfl (lm_5002 (σ := s7) (B := B) ((congrFun (hP7.2.2 _ (by omega)) 900).trans hB) (by omega)) (xx_dt dd_X10_payments 9 rfl) (by decide) rfl rfl (Nat.le_of_ble_eq_true rfl) rfl ?_
    refine sw_icmp_ge (tgt := 84) O (xx_dt dd_X10_payments 10 rfl) (by decide) (fun q1 => ?_) (fun q1 => ?_)
    · exact absurd q1 (nI_ge (b := B) hi7 (by omega))
    · refine sw_aload_n O (xx_dt dd_X10_payments 11 rfl) rfl ?_
      refine sw_get (v := .ref 9001) O (xx_dt dd_X10_payments 12 rfl) cl_X10 fl_X10_15 (lm_9000 (σ := s7) (fl1 ((congrFun (hP7.2.2 _ (by omega)) 20).trans hc))) (by decide) rfl ?_
      refine sw_iload_n O (xx_dt dd_X10_payments 13 rfl) rfl ?_
      refine sw_iaload (v := .int (σ 9001 i7)) O (xx_dt dd_X10_payments 14 rfl) ((im_9001 (z := z) (σ := s7) ((congrFun (hP7.2.2 _ (by omega)) 20).trans hc)).get _) (pk_in i7 _ (by omega)) (by rw [nI_clamp (by omega)]; exact (congrArg Value.int (congrFun (hP7.2.2 _ (by omega)) i7))) ?_
      refine sw_iconst (x := (-1)) O (xx_dt dd_X10_payments 15 rfl) (by decide) ?_
      refine sw_icmp_ne (tgt := 34) O (xx_dt dd_X10_payments 16 rfl) (by decide) (fun q2 => ?_) (fun q2 => ?_)
      · refine sw_aload_n O (xx_dt dd_X10_payments 18 rfl) rfl ?_
        refine sw_iload_n O (xx_dt dd_X10_payments 19 rfl) rfl ?_
        refine sw_iload_n O (xx_dt dd_X10_payments 20 rfl) rfl ?_
        refine sw_if_ne (tgt := 48) O (xx_dt dd_X10_payments 21 rfl) (by decide) (fun q3 => ?_) (fun q3 => ?_)
        · refine sw_aload_n O (xx_dt dd_X10_payments 26 rfl) rfl ?_
          refine sw_aload_n O (xx_dt dd_X10_payments 27 rfl) rfl ?_
          have hq50 := pow_le6 hB6
          refine sw_callVx (as := []) (st := [.ref 9000, .int (nI i7), .ref qa]) (st2 := [.int (nI (2 ^ B - 1)), .ref 9000, .int (nI i7), .ref qa]) O (ct_X10_all hl (z := z) (σ := s7) hbs ((congrFun (hP7.2.2 _ (by omega)) 20).trans hc) (B := B) ((congrFun (hP7.2.2 _ (by omega)) 900).trans hB) (by omega)) ce_X10_all ml_X10_110 iv_X10_all cl_X10 rfl (lm_9000 (σ := s7) (fl1 ((congrFun (hP7.2.2 _ (by omega)) 20).trans hc))) (xx_dt dd_X10_payments 28 rfl) (by decide) rfl rfl (Nat.le_of_ble_eq_true rfl) rfl ?_
          refine sw_iconst (x := 1) O (xx_dt dd_X10_payments 29 rfl) (by decide) ?_
          refine sw_iload_n O (xx_dt dd_X10_payments 30 rfl) rfl ?_
          refine sw_ishl O (xx_dt dd_X10_payments 31 rfl) ?_
          refine sw_iconst (x := (-1)) O (xx_dt dd_X10_payments 32 rfl) (by decide) ?_
          refine sw_ixor O (xx_dt dd_X10_payments 33 rfl) ?_
          refine sw_iand O (xx_dt dd_X10_payments 34 rfl) ?_
          have hx58 := bclr_lt (S := 2 ^ B - 1) (k := i7) (by omega)
          rw [bclr_eq (S := 2 ^ B - 1) (k := i7) (by omega) (by omega)]
          refine sw_callVx (as := [.int (nI (bclr (2 ^ B - 1) i7))]) (st := [.int (nI i7), .ref qa]) (st2 := [.int (f_Cworth s7 (bclr (2 ^ B - 1) i7)), .int (nI i7), .ref qa]) O (ct_X10_worth hl (z := z) (σ := s7) hbs ((congrFun (hP7.2.2 _ (by omega)) 20).trans hc) (S := bclr (2 ^ B - 1) i7) (by first | omega | assumption)) ce_X10_worth ml_X10_106 iv_X10_worth cl_X10 rfl (lm_9000 (σ := s7) (fl1 ((congrFun (hP7.2.2 _ (by omega)) 20).trans hc))) (xx_dt dd_X10_payments 35 rfl) (by decide) rfl rfl (Nat.le_of_ble_eq_true rfl) rfl ?_
          refine sw_aload_n O (xx_dt dd_X10_payments 36 rfl) rfl ?_
          refine sw_aload_n O (xx_dt dd_X10_payments 37 rfl) rfl ?_
          have hq64 := pow_le6 hB6
          refine sw_callVx (as := []) (st := [.ref 9000, .int (f_Cworth s7 (bclr (2 ^ B - 1) i7)), .int (nI i7), .ref qa]) (st2 := [.int (nI (2 ^ B - 1)), .ref 9000, .int (f_Cworth s7 (bclr (2 ^ B - 1) i7)), .int (nI i7), .ref qa]) O (ct_X10_all hl (z := z) (σ := s7) hbs ((congrFun (hP7.2.2 _ (by omega)) 20).trans hc) (B := B) ((congrFun (hP7.2.2 _ (by omega)) 900).trans hB) (by omega)) ce_X10_all ml_X10_110 iv_X10_all cl_X10 rfl (lm_9000 (σ := s7) (fl1 ((congrFun (hP7.2.2 _ (by omega)) 20).trans hc))) (xx_dt dd_X10_payments 38 rfl) (by decide) rfl rfl (Nat.le_of_ble_eq_true rfl) rfl ?_
          refine sw_callVx (as := [.int (nI (2 ^ B - 1))]) (st := [.int (f_Cworth s7 (bclr (2 ^ B - 1) i7)), .int (nI i7), .ref qa]) (st2 := [.int (f_Cworth s7 (2 ^ B - 1)), .int (f_Cworth s7 (bclr (2 ^ B - 1) i7)), .int (nI i7), .ref qa]) O (ct_X10_worth hl (z := z) (σ := s7) hbs ((congrFun (hP7.2.2 _ (by omega)) 20).trans hc) (S := 2 ^ B - 1) (by first | omega | assumption)) ce_X10_worth ml_X10_106 iv_X10_worth cl_X10 rfl (lm_9000 (σ := s7) (fl1 ((congrFun (hP7.2.2 _ (by omega)) 20).trans hc))) (xx_dt dd_X10_payments 39 rfl) (by decide) rfl rfl (Nat.le_of_ble_eq_true rfl) rfl ?_
          refine sw_aload_n O (xx_dt dd_X10_payments 40 rfl) rfl ?_
          refine sw_iload_n O (xx_dt dd_X10_payments 41 rfl) rfl ?_
          refine sw_callVx (as := [.int (nI i7)]) (st := [.int (f_Cworth s7 (2 ^ B - 1)), .int (f_Cworth s7 (bclr (2 ^ B - 1) i7)), .int (nI i7), .ref qa]) (st2 := [.int (f_Camount s7 i7), .int (f_Cworth s7 (2 ^ B - 1)), .int (f_Cworth s7 (bclr (2 ^ B - 1) i7)), .int (nI i7), .ref qa]) O (ct_X10_amount hl (z := z) (σ := s7) hbs ((congrFun (hP7.2.2 _ (by omega)) 20).trans hc) (B := B) ((congrFun (hP7.2.2 _ (by omega)) 900).trans hB) (by omega) (pk := pk) (fun j9 hj9 => by rw [show s7 (5030 + j9) 900 = σ (5030 + j9) 900 from (congrFun (hP7.2.2 _ (by omega)) 900)]; exact hpk j9 hj9) (fun j9 hj9 => by rw [show s7 9001 = σ 9001 from (hP7.2.2 _ (by omega))]; exact hpi j9 hj9) (i := i7) (by omega)) ce_X10_amount ml_X10_109 iv_X10_amount cl_X10 rfl (lm_9000 (σ := s7) (fl1 ((congrFun (hP7.2.2 _ (by omega)) 20).trans hc))) (xx_dt dd_X10_payments 42 rfl) (by decide) rfl rfl (Nat.le_of_ble_eq_true rfl) rfl ?_
          refine sw_isub O (xx_dt dd_X10_payments 43 rfl) ?_
          refine sw_isub O (xx_dt dd_X10_payments 44 rfl) ?_
          refine sw_iastore (h2 := setM z (u2 s7 qa i7 ((f_Cworth s7 (bclr (2 ^ B - 1) i7)) - ((f_Cworth s7 (2 ^ B - 1)) - (f_Camount s7 i7)))) h) O (xx_dt dd_X10_payments 45 rfl) ((lm_tmp (z := z) (σ := s7) (h := h) (q := qa) (by omega) (fl1 hP7.1) hP7.2.1 (by omega)).get _) (pk_in i7 _ (by omega)) (by omega) (by rw [nI_clamp (by omega)]; exact ((lm_tmp (z := z) (σ := s7) (h := h) (q := qa) (by omega) (fl1 hP7.1) hP7.2.1 (by omega)).put (by omega))) ?_
          refine sw_iinc (y := nI (i7 + 1)) (ls2 := [.ref 9000, .int 2, .ref qa, .int (nI (i7 + 1)), xx_d]) O (xx_dt dd_X10_payments 46 rfl) rfl (nI_1 _) (by decide) rfl ?_
          refine sw_goto (tgt := 7) O (xx_dt dd_X10_payments 47 rfl) (by decide) ?_
          simp only [if_neg q2] at kk7
          exact kk7
        · exact absurd q3 (by decide)
      · refine sw_goto (tgt := 78) O (xx_dt dd_X10_payments 17 rfl) (by decide) ?_
        refine sw_iinc (y := nI (i7 + 1)) (ls2 := [.ref 9000, .int 2, .ref qa, .int (nI (i7 + 1)), xx_d]) O (xx_dt dd_X10_payments 46 rfl) rfl (nI_1 _) (by decide) rfl ?_
        refine sw_goto (tgt := 7) O (xx_dt dd_X10_payments 47 rfl) (by decide) ?_
        simp only [if_pos q2] at kk7
        exact kk7
  · show SW Y _ _ (setM z (x_Cpay2_7 σ qa B (uR σ qa (rowN 6))) h) 7 [.ref 9000, .int 2, .ref qa, .int (nI B), xx_d] []
    have hP7 : (x_Cpay2_7 σ qa B (uR σ qa (rowN 6))) qa 20 = nI 1 ∧ (x_Cpay2_7 σ qa B (uR σ qa (rowN 6))) qa 21 = nI 6 ∧ (∀ q9, q9 ≠ qa → (x_Cpay2_7 σ qa B (uR σ qa (rowN 6))) q9 = σ q9) := hP7
    refine sw_iload_n O (xx_dt dd_X10_payments 5 rfl) rfl ?_
    refine sw_aload_n O (xx_dt dd_X10_payments 6 rfl) rfl ?_
    refine sw_get (v := .ref 5000) O (xx_dt dd_X10_payments 7 rfl) cl_X10 fl_X10_3 (lm_9000 (σ := (x_Cpay2_7 σ qa B (uR σ qa (rowN 6)))) (fl1 ((congrFun (hP7.2.2 _ (by omega)) 20).trans hc))) (by decide) rfl ?_
    refine sw_get (v := .ref 5002) O (xx_dt dd_X10_payments 8 rfl) cl_X14 fl_X10_67 (lm_mod (σ := (x_Cpay2_7 σ qa B (uR σ qa (rowN 6))))) (by decide) rfl ?_
    refine sw_callVL (ci := 6) (as := []) (st := [.int (nI B)]) (st2 := [.int (nI B), .int (nI B)]) O (ct_AL_size hl (lm_5002 (σ := (x_Cpay2_7 σ qa B (uR σ qa (rowN 6)))) (B := B) ((congrFun (hP7.2.2 _ (by omega)) 900).trans hB) (by omega))) ce_Jx4a65c_size_8abf5 ml_X10_39 iv_Jx4a65c_size_8abf5 cl_Jx4a65c rfl (lm_5002 (σ := (x_Cpay2_7 σ qa B (uR σ qa (rowN 6)))) (B := B) ((congrFun (hP7.2.2 _ (by omega)) 900).trans hB) (by omega)) (xx_dt dd_X10_payments 9 rfl) (by decide) rfl rfl (Nat.le_of_ble_eq_true rfl) rfl ?_
    refine sw_icmp_ge (tgt := 84) O (xx_dt dd_X10_payments 10 rfl) (by decide) (fun q1 => ?_) (fun q1 => ?_)
    · refine sw_dum (ls2 := [.ref 9000, .int 2, .ref qa, xx_d, xx_d]) ⟨.inr rfl, .inr rfl, .inr rfl, .inl rfl, .inl rfl, trivial⟩ ?_
      have hP7x := hP7
      refine sw_forR (S := XS9) (R := XS9) (p2_step qa B) (fun i s => (∀ q9, q9 ≠ qa → s q9 = σ q9) ∧ s qa 20 = nI 1 ∧ s qa 21 = nI 6 ∧ xitR (p2_step qa B) (20000000 - i) i s = .inr rT) (FR := fun r => g_Cpay2 σ qa B = r) (hp := fun s => setM z s h) (hd := 84) (lc := fun _ _ => [.ref 9000, .int 2, .ref qa, xx_d, xx_d]) (N := 20000000) (fun i84 s hi84 hP84 => ⟨?_, fun kk84 kr84 => ?_⟩) 20000000 0 ((x_Cpay2_7 σ qa B (uR σ qa (rowN 6)))) (by omega) ⟨hP7.2.2, hP7.1, hP7.2.1, hrT⟩ (fun s' e84 hP84 => absurd hP84.2.2.2 (by rw [Nat.sub_self]; intro e; cases e)) (fun r e84 => by unfold g_Cpay2; rw [show xitR (p2_step qa B) 20000000 0 (g_Cpay20 σ qa B) = .inr r from e84])
      · intro s' e84
        obtain ⟨a1, a2, a3, a4⟩ := hP84
        rw [show 20000000 - i84 = (20000000 - (i84 + 1)) + 1 by omega] at a4
        unfold xitR at a4
        rw [e84] at a4
        refine ⟨?_, ?_, ?_, a4⟩ <;> (unfold p2_step at e84; revert e84; (try dsimp only); split <;> intro e84 <;> first | (cases e84; done) | (have e9 := Sum.inl.inj e84; subst e9; have hn := pos_nat (Int32.not_le.mpr (by assumption)); have H := raise_out (σ := s) (S := (x_Cpay2_94 s qa B 0)) (x := cn (f_Cobjection s (x_Cpay2_94 s qa B 0) qa B)) (qa := qa) (B := B) hB6 hn.2 a2 a3; first | exact H.1 | exact H.2.1 | exact fun q9 hq9 => (H.2.2 q9 hq9).trans (a1 q9 hq9)))
      · refine sw_iload_n O (xx_dt dd_X10_payments 48 rfl) rfl ?_
        refine sw_iconst (x := 2) O (xx_dt dd_X10_payments 49 rfl) (by decide) ?_
        refine sw_icmp_ne (tgt := 155) O (xx_dt dd_X10_payments 50 rfl) (by decide) (fun q4 => ?_) (fun q4 => ?_)
        · exact absurd q4 (by decide)
        · refine sw_iconst (x := 0) O (xx_dt dd_X10_payments 51 rfl) (by decide) ?_
          refine sw_istore_n (ls2 := [.ref 9000, .int 2, .ref qa, .int 0, xx_d]) O (xx_dt dd_X10_payments 52 rfl) (by decide) rfl ?_
          refine sw_iconst (x := 1) O (xx_dt dd_X10_payments 53 rfl) (by decide) ?_
          refine sw_istore (ls2 := [.ref 9000, .int 2, .ref qa, .int 0, .int 1]) O (xx_dt dd_X10_payments 54 rfl) (by decide) rfl ?_
          refine sw_for (S := Nat) (fun i94 s94 => (if (f_Cobjection s (1 + i94) qa B) ≤ (f_Cobjection s s94 qa B) then s94 else 1 + i94)) (fun _ s94 => s94 < 64) (hp := fun _ => setM z s h) (hd := 94) (lc := fun i94 s94 => [.ref 9000, .int 2, .ref qa, .int (nI s94), .int (nI (1 + i94))]) (N := (2 ^ B - 1)) (fun i94 s94 hi94 hP94 => ⟨(by (try dsimp only); (repeat' split) <;> (first | exact hP94 | exact (by have h9 := pow_le6 hB6; omega) | exact hi94 | exact .inl rfl | exact .inr rfl | (simp (disch := omega) only [u2_ne, uR_ne, fr_fill]; first | exact hP94 | exact (by have h9 := pow_le6 hB6; omega)))), fun kk94 => ?_⟩) (2 ^ B - 1) 0 0 (by omega) ((by omega)) (fun hP94 => ?_)
          · refine sw_iload O (xx_dt dd_X10_payments 55 rfl) rfl ?_
            refine sw_aload_n O (xx_dt dd_X10_payments 56 rfl) rfl ?_
            have hq97 := pow_le6 hB6
            refine sw_callVx (as := []) (st := [.int (nI (1 + i94))]) (st2 := [.int (nI (2 ^ B - 1)), .int (nI (1 + i94))]) O (ct_X10_all hl (z := z) (σ := s) hbs ((congrFun (hP84.1 _ (by omega)) 20).trans hc) (B := B) ((congrFun (hP84.1 _ (by omega)) 900).trans hB) (by omega)) ce_X10_all ml_X10_110 iv_X10_all cl_X10 rfl (lm_9000 (σ := s) (fl1 ((congrFun (hP84.1 _ (by omega)) 20).trans hc))) (xx_dt dd_X10_payments 57 rfl) (by decide) rfl rfl (Nat.le_of_ble_eq_true rfl) rfl ?_
            refine sw_icmp_gt (tgt := 128) O (xx_dt dd_X10_payments 58 rfl) (by decide) (fun q5 => ?_) (fun q5 => ?_)
            · exact absurd ((nI_ltI (a := (2 ^ B - 1)) (b := 1 + i94) (by omega) (by omega)).mp q5) (by omega)
            · refine sw_aload_n O (xx_dt dd_X10_payments 59 rfl) rfl ?_
              refine sw_iload O (xx_dt dd_X10_payments 60 rfl) rfl ?_
              refine sw_aload_n O (xx_dt dd_X10_payments 61 rfl) rfl ?_
              refine sw_callVx (as := [.int (nI (1 + i94)), .ref qa]) (st := []) (st2 := [.int (f_Cobjection s (1 + i94) qa B)]) O (ct_X10_objection hl (z := z) (σ := s) hbs ((congrFun (hP84.1 _ (by omega)) 20).trans hc) (B := B) ((congrFun (hP84.1 _ (by omega)) 900).trans hB) (by omega) (pk := pk) (fun j9 hj9 => by rw [show s (5030 + j9) 900 = σ (5030 + j9) 900 from (congrFun (hP84.1 _ (by omega)) 900)]; exact hpk j9 hj9) (fun j9 hj9 => by rw [show s 9001 = σ 9001 from (hP84.1 _ (by omega))]; exact hpi j9 hj9) (qa := qa) (by omega) hP84.2.1 hP84.2.2.1 (S := 1 + i94) (by omega)) ce_X10_objection ml_X10_113 iv_X10_objection cl_X10 rfl (lm_9000 (σ := s) (fl1 ((congrFun (hP84.1 _ (by omega)) 20).trans hc))) (xx_dt dd_X10_payments 62 rfl) (by decide) rfl rfl (Nat.le_of_ble_eq_true rfl) rfl ?_
              refine sw_aload_n O (xx_dt dd_X10_payments 63 rfl) rfl ?_
              refine sw_iload_n O (xx_dt dd_X10_payments 64 rfl) rfl ?_
              refine sw_aload_n O (xx_dt dd_X10_payments 65 rfl) rfl ?_
              refine sw_callVx (as := [.int (nI s94), .ref qa]) (st := [.int (f_Cobjection s (1 + i94) qa B)]) (st2 := [.int (f_Cobjection s s94 qa B), .int (f_Cobjection s (1 + i94) qa B)]) O (ct_X10_objection hl (z := z) (σ := s) hbs ((congrFun (hP84.1 _ (by omega)) 20).trans hc) (B := B) ((congrFun (hP84.1 _ (by omega)) 900).trans hB) (by omega) (pk := pk) (fun j9 hj9 => by rw [show s (5030 + j9) 900 = σ (5030 + j9) 900 from (congrFun (hP84.1 _ (by omega)) 900)]; exact hpk j9 hj9) (fun j9 hj9 => by rw [show s 9001 = σ 9001 from (hP84.1 _ (by omega))]; exact hpi j9 hj9) (qa := qa) (by omega) hP84.2.1 hP84.2.2.1 (S := s94) (by omega)) ce_X10_objection ml_X10_113 iv_X10_objection cl_X10 rfl (lm_9000 (σ := s) (fl1 ((congrFun (hP84.1 _ (by omega)) 20).trans hc))) (xx_dt dd_X10_payments 66 rfl) (by decide) rfl rfl (Nat.le_of_ble_eq_true rfl) rfl ?_
              refine sw_icmp_le (tgt := 122) O (xx_dt dd_X10_payments 67 rfl) (by decide) (fun q6 => ?_) (fun q6 => ?_)
              · refine sw_iinc (y := nI (1 + i94 + 1)) (ls2 := [.ref 9000, .int 2, .ref qa, .int (nI s94), .int (nI (1 + i94 + 1))]) O (xx_dt dd_X10_payments 70 rfl) rfl (nI_1 _) (by decide) rfl ?_
                refine sw_goto (tgt := 94) O (xx_dt dd_X10_payments 71 rfl) (by decide) ?_
                simp only [if_pos q6] at kk94
                exact kk94
              · refine sw_iload O (xx_dt dd_X10_payments 68 rfl) rfl ?_
                refine sw_istore_n (ls2 := [.ref 9000, .int 2, .ref qa, .int (nI (1 + i94)), .int (nI (1 + i94))]) O (xx_dt dd_X10_payments 69 rfl) (by decide) rfl ?_
                refine sw_iinc (y := nI (1 + i94 + 1)) (ls2 := [.ref 9000, .int 2, .ref qa, .int (nI (1 + i94)), .int (nI (1 + i94 + 1))]) O (xx_dt dd_X10_payments 70 rfl) rfl (nI_1 _) (by decide) rfl ?_
                refine sw_goto (tgt := 94) O (xx_dt dd_X10_payments 71 rfl) (by decide) ?_
                simp only [if_neg q6] at kk94
                exact kk94
          · show SW Y _ _ (setM z s h) 94 [.ref 9000, .int 2, .ref qa, .int (nI ((x_Cpay2_94 s qa B 0))), .int (nI (1 + (2 ^ B - 1)))] []
            have hP94 : (x_Cpay2_94 s qa B 0) < 64 := hP94
            refine sw_iload O (xx_dt dd_X10_payments 55 rfl) rfl ?_
            refine sw_aload_n O (xx_dt dd_X10_payments 56 rfl) rfl ?_
            have hq97 := pow_le6 hB6
            refine sw_callVx (as := []) (st := [.int (nI (1 + (2 ^ B - 1)))]) (st2 := [.int (nI (2 ^ B - 1)), .int (nI (1 + (2 ^ B - 1)))]) O (ct_X10_all hl (z := z) (σ := s) hbs ((congrFun (hP84.1 _ (by omega)) 20).trans hc) (B := B) ((congrFun (hP84.1 _ (by omega)) 900).trans hB) (by omega)) ce_X10_all ml_X10_110 iv_X10_all cl_X10 rfl (lm_9000 (σ := s) (fl1 ((congrFun (hP84.1 _ (by omega)) 20).trans hc))) (xx_dt dd_X10_payments 57 rfl) (by decide) rfl rfl (Nat.le_of_ble_eq_true rfl) rfl ?_
            refine sw_icmp_gt (tgt := 128) O (xx_dt dd_X10_payments 58 rfl) (by decide) (fun q5 => ?_) (fun q5 => ?_)
            · refine sw_aload_n O (xx_dt dd_X10_payments 72 rfl) rfl ?_
              refine sw_iload_n O (xx_dt dd_X10_payments 73 rfl) rfl ?_
              refine sw_aload_n O (xx_dt dd_X10_payments 74 rfl) rfl ?_
              refine sw_callVx (as := [.int (nI ((x_Cpay2_94 s qa B 0))), .ref qa]) (st := []) (st2 := [.int (f_Cobjection s (x_Cpay2_94 s qa B 0) qa B)]) O (ct_X10_objection hl (z := z) (σ := s) hbs ((congrFun (hP84.1 _ (by omega)) 20).trans hc) (B := B) ((congrFun (hP84.1 _ (by omega)) 900).trans hB) (by omega) (pk := pk) (fun j9 hj9 => by rw [show s (5030 + j9) 900 = σ (5030 + j9) 900 from (congrFun (hP84.1 _ (by omega)) 900)]; exact hpk j9 hj9) (fun j9 hj9 => by rw [show s 9001 = σ 9001 from (hP84.1 _ (by omega))]; exact hpi j9 hj9) (qa := qa) (by omega) hP84.2.1 hP84.2.2.1 (S := (x_Cpay2_94 s qa B 0)) (by omega)) ce_X10_objection ml_X10_113 iv_X10_objection cl_X10 rfl (lm_9000 (σ := s) (fl1 ((congrFun (hP84.1 _ (by omega)) 20).trans hc))) (xx_dt dd_X10_payments 75 rfl) (by decide) rfl rfl (Nat.le_of_ble_eq_true rfl) rfl ?_
              refine sw_istore (ls2 := [.ref 9000, .int 2, .ref qa, .int (nI ((x_Cpay2_94 s qa B 0))), .int (f_Cobjection s (x_Cpay2_94 s qa B 0) qa B)]) O (xx_dt dd_X10_payments 76 rfl) (by decide) rfl ?_
              refine sw_iload O (xx_dt dd_X10_payments 77 rfl) rfl ?_
              refine sw_if_gt (tgt := 144) O (xx_dt dd_X10_payments 78 rfl) (by decide) (fun q7 => ?_) (fun q7 => ?_)
              · have hc138 := (pos_nat (Int32.not_le.mpr q7))
                refine sw_lsE (ls2 := [.ref 9000, .int 2, .ref qa, .int (nI ((x_Cpay2_94 s qa B 0))), .int (nI (cn (f_Cobjection s (x_Cpay2_94 s qa B 0) qa B)))]) (by rw [← hc138.1]) ?_
                have hd138 := hc138.2
                refine sw_aload_n O (xx_dt dd_X10_payments 80 rfl) rfl ?_
                refine sw_iload_n O (xx_dt dd_X10_payments 81 rfl) rfl ?_
                refine sw_iload O (xx_dt dd_X10_payments 82 rfl) rfl ?_
                refine sw_aload_n O (xx_dt dd_X10_payments 83 rfl) rfl ?_
                refine sw_callVx (as := [.int (nI ((x_Cpay2_94 s qa B 0))), .int (nI (cn (f_Cobjection s (x_Cpay2_94 s qa B 0) qa B))), .ref qa]) (st := []) (st2 := []) O (ct_X10_raise hl (z := z) (σ := s) hbs ((congrFun (hP84.1 _ (by omega)) 20).trans hc) (B := B) ((congrFun (hP84.1 _ (by omega)) 900).trans hB) (by omega) (pk := pk) (fun j9 hj9 => by rw [show s (5030 + j9) 900 = σ (5030 + j9) 900 from (congrFun (hP84.1 _ (by omega)) 900)]; exact hpk j9 hj9) (fun j9 hj9 => by rw [show s 9001 = σ 9001 from (hP84.1 _ (by omega))]; exact hpi j9 hj9) (qa := qa) (by omega) hP84.2.1 hP84.2.2.1 (S := (x_Cpay2_94 s qa B 0)) (x := cn (f_Cobjection s (x_Cpay2_94 s qa B 0) qa B)) (by omega) (by omega)) ce_X10_raise ml_X10_117 iv_X10_raise cl_X10 rfl (lm_9000 (σ := s) (fl1 ((congrFun (hP84.1 _ (by omega)) 20).trans hc))) (xx_dt dd_X10_payments 84 rfl) (by decide) rfl rfl (Nat.le_of_ble_eq_true rfl) rfl ?_
                refine sw_goto (tgt := 84) O (xx_dt dd_X10_payments 85 rfl) (by decide) ?_
                refine sw_dum (ls2 := [.ref 9000, .int 2, .ref qa, xx_d, xx_d]) ⟨.inr rfl, .inr rfl, .inr rfl, .inl rfl, .inl rfl, trivial⟩ ?_
                exact kk84 _ (by unfold p2_step; simp only [if_pos q7])
              · refine sw_goto (tgt := 155) O (xx_dt dd_X10_payments 79 rfl) (by decide) ?_
                have kz := kr84 s (by unfold p2_step; simp only [if_neg q7])
                refine sw_aload_n O (xx_dt dd_X10_payments 86 rfl) rfl ?_
                exact sw_aret O (xx_dt dd_X10_payments 87 rfl) rfl (.inr ⟨_, rfl⟩) (by rw [hQ, kz]; exact ⟨rfl, rfl⟩)
            · exact absurd (nI_lt (a := (2 ^ B - 1)) (b := 1 + (2 ^ B - 1)) (by omega) (by omega)) q5
    · exact absurd (Int32.le_refl _) q1
