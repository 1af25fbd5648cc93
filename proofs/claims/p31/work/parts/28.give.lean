/-! ===== names are given ===== -/
theorem min_nat {a b : Nat} (ha : a < 2147483648) (hb : b < 2147483648) : (if nI b < nI a then nI b else nI a) = nI (min a b) := by
  by_cases h : b < a
  · rw [if_pos ((nI_ltI hb ha).mpr h)]
    congr 1
    omega
  · rw [if_neg (fun e => h ((nI_ltI hb ha).mp e))]
    congr 1
    omega
theorem many_nat {c : Int32} (r : Nat) (h0 : 0 ≤ c) : f_many c r = nI (cn (f_many c r)) ∧ cn (f_many c r) ≤ 5 := by
  have h1 : ∃ k, k < 2147483648 ∧ x_many_4 c r c = nI k := by
    unfold x_many_4
    refine xit_inv (fun s : Int32 => ∃ k, k < 2147483648 ∧ s = nI k) (N := r) (fun i s hi hP => ?_) r 0 c (by omega) ?_
    · obtain ⟨k, hk, rfl⟩ := hP
      exact ⟨k / 6, by omega, nI_div (k := 6) hk (by decide) (by decide)⟩
    · obtain ⟨h3, h4⟩ := cn_of h0
      exact ⟨cn c, by have := Int32.toInt_lt c; omega, h3⟩
  obtain ⟨k, hk, e⟩ := h1
  have h2 : f_many c r = nI (k % 6) := by
    unfold f_many
    rw [e]
    exact nI_rem (k := 6) hk (by decide) (by decide)
  have h3 : k % 6 < 6 := Nat.mod_lt _ (by decide)
  rw [h2, cn_nI (by omega)]
  exact ⟨rfl, by omega⟩
def XCD (σ : XS9) : Prop := ∀ i k, i < 6 → k < 6 → 0 ≤ σ (1022 + i) k
theorem XCD.of {σ σ' : XS9} (h : XCD σ) (e : ∀ i9, i9 < 6 → σ' (1022 + i9) = σ (1022 + i9)) : XCD σ' := fun i k hi hk => by rw [e i hi]; exact h i k hi hk
def cbw (σ : XS9) (i r : Nat) : Nat := cn (f_blocksWon σ i r)
theorem cbw_ok {σ : XS9} {i r : Nat} (h : XCD σ) (hi : i < 6) : f_blocksWon σ i r = nI (cbw σ i r) ∧ cbw σ i r ≤ 5 := by
  unfold cbw f_blocksWon
  by_cases q1 : σ 1040 i < 0
  · rw [if_pos q1]; exact ⟨rfl, by decide⟩
  · rw [if_neg q1]
    by_cases q2 : 6 ≤ σ 1040 i
    · rw [if_pos q2]; exact ⟨rfl, by decide⟩
    · rw [if_neg q2]
      have h6 := (n_lt_iff (x := σ 1040 i) (R := 6) (by omega)).mpr ⟨q1, Int32.not_le.mp q2⟩
      exact many_nat r (h i _ hi h6.2)
theorem ct_X2_blocksWonN {l : Launch} {h : XH} (hl : l.stackTraces = false) {σ : XS9} {i r : Nat} (hcd : XCD σ) (hi : i < 6) (hr : r < 5) : XEx l m_X2_blocksWon 1 0 0 [.ref 1003, .int (nI i), .int (nI r)] (setC σ h) (some (.int (nI (cbw σ i r)))) (setC σ h) := by
  rw [← (cbw_ok hcd hi).1]
  exact ct_X2_blocksWon hl hi hr
theorem nI_rem6 {m : Nat} (hm : m < 2147483648) : nI m - nI m / 6 * 6 = nI (m % 6) := nI_rem (k := 6) hm (by decide) (by decide)
def x_giveByTurn_62 (σ : XS9) (r t : Nat) (sp : Nat → Nat) (i20 : Nat) (s20 : XS9 × Nat) (s0 : XS9) : XS9 := xit (fun i62 s62 => u2 s62 (1141 + r) (s20.2 + i62) (nI ((t + i20) % 6))) (min (s20.2 + cbw s20.1 ((t + i20) % 6) r) (sp r) - s20.2) 0 s0
def x_giveByTurn_20 (σ : XS9) (r t : Nat) (sp : Nat → Nat) (s0 : XS9 × Nat) : XS9 × Nat := xit (fun i20 s20 => ((x_giveByTurn_62 σ r t sp i20 s20 s20.1), min (s20.2 + cbw s20.1 ((t + i20) % 6) r) (sp r))) 6 0 s0
theorem fx_giveByTurn_62 {σ : XS9} {r t : Nat} {sp : Nat → Nat} {i20 : Nat} {s20 : XS9 × Nat} {s0 : XS9} {q : Nat} (h : q ≠ 1141 + r) : x_giveByTurn_62 σ r t sp i20 s20 s0 q = s0 q := xit_keep (fun s : XS9 => s q) (fun i s => by (try dsimp only); (repeat' split) <;> first | rfl | simp (disch := omega) only [u2_ne, uR_ne, fr_fill, fr_useWaiver, fr_undoContradictions, fr_lowerEligible, fr_moveHeld, fr_raisePrices, fr_begin, fr_closeRound, fr_moveTaken, fr_findDisturbed, fr_addRegion, fr_addBidder, fr_take, fr_giveBack, fr_keepIfBetter, fr_findWinners, fr_leaveOut, fr_raiseEach, fr_raiseOutside, fr_find]) _ _ _
def g_giveByTurn (σ : XS9) (r t : Nat) (sp : Nat → Nat) : XS9 := (x_giveByTurn_20 σ r t sp (g_fill σ (1141 + r) 5 (-1), 0)).1
theorem ct_X3_giveByTurn {l : Launch} {h : XH} (hl : l.stackTraces = false) {σ : XS9} {sp : Nat → Nat} (hsp : ∀ r, r < 5 → σ 1010 r = nI (sp r) ∧ sp r ≤ 5) (hcd : XCD σ) {r t : Nat} (hr : r < 5) (ht : t < 6) : XEx l m_X3_giveByTurn 2 0 0 [.ref 1005, .ref 1001, .ref 1003, .int (nI r), .int (nI t)] (setC σ h) (none) (setC (g_giveByTurn σ r t sp) h) := by
  refine XMet.of hl rfl rfl (Nat.le_of_ble_eq_true rfl) (fun Y O hh hQ => ?_)
  show SW Y 0 0 (setC σ h) 0 [.ref 1005, .ref 1001, .ref 1003, .int (nI r), .int (nI t), xx_d, xx_d, xx_d, xx_d, xx_d, xx_d] []
  refine sw_aload_n O (xx_dt dd_X3_giveByTurn 0 rfl) rfl ?_
  refine sw_get (v := .ref 1140) O (xx_dt dd_X3_giveByTurn 1 rfl) cl_X3 fl_X3_11 (ly_1005 σ h) (by decide) rfl ?_
  refine sw_iload_n O (xx_dt dd_X3_giveByTurn 2 rfl) rfl ?_
  refine sw_aaload (v := .ref (1141 + r)) O (xx_dt dd_X3_giveByTurn 3 rfl) (by omega) (by omega) (ly_1140 σ h) (pk_in r _ (by omega)) (by rw [nI_clamp (by omega)]; try exact rfl) ?_
  refine sw_astore (ls2 := [.ref 1005, .ref 1001, .ref 1003, .int (nI r), .int (nI t), .ref (1141 + r), xx_d, xx_d, xx_d, xx_d, xx_d]) O (xx_dt dd_X3_giveByTurn 4 rfl) (by decide) rfl ?_
  refine sw_aload O (xx_dt dd_X3_giveByTurn 5 rfl) rfl ?_
  refine sw_iconst (x := (-1)) O (xx_dt dd_X3_giveByTurn 6 rfl) (by decide) ?_
  refine sw_callSx (as := [.ref (1141 + r), .int (-1)]) (st := []) (st2 := []) O (ct_J7_fill_53178 hl (ir_1140 (k := r) (by omega)) (by omega)) ce_J7_fill_53178 ml_X3_16 st_J7_fill_53178 (xx_dt dd_X3_giveByTurn 7 rfl) (by first | decide | omega) rfl rfl (Nat.le_of_ble_eq_true rfl) rfl ?_
  refine sw_iconst (x := 0) O (xx_dt dd_X3_giveByTurn 8 rfl) (by decide) ?_
  refine sw_istore (ls2 := [.ref 1005, .ref 1001, .ref 1003, .int (nI r), .int (nI t), .ref (1141 + r), .int 0, xx_d, xx_d, xx_d, xx_d]) O (xx_dt dd_X3_giveByTurn 9 rfl) (by decide) rfl ?_
  refine sw_iconst (x := 0) O (xx_dt dd_X3_giveByTurn 10 rfl) (by decide) ?_
  refine sw_istore (ls2 := [.ref 1005, .ref 1001, .ref 1003, .int (nI r), .int (nI t), .ref (1141 + r), .int 0, .int 0, xx_d, xx_d, xx_d]) O (xx_dt dd_X3_giveByTurn 11 rfl) (by decide) rfl ?_
  refine sw_for (fun i20 s20 => ((x_giveByTurn_62 σ r t sp i20 s20 s20.1), min (s20.2 + cbw s20.1 ((t + i20) % 6) r) (sp r))) (fun _ s20 => s20.1 1010 = σ 1010 ∧ XCD s20.1 ∧ s20.2 ≤ 5) (hp := fun s20 => setC s20.1 h) (hd := 20) (lc := fun i20 s20 => [.ref 1005, .ref 1001, .ref 1003, .int (nI r), .int (nI t), .ref (1141 + r), .int (nI (s20.2)), .int (nI i20), xx_d, xx_d, xx_d]) (N := 6) (fun i20 s20 hi20 hP20 => ⟨(by (try dsimp only); (repeat' split) <;> (refine ⟨?_, ?_, ?_⟩ <;> (first | with_reducible exact hP20.1 | with_reducible exact hP20.2.1 | with_reducible exact hP20.2.2 | with_reducible exact hP20.2.1.of (fun i9 hi9 => fx_giveByTurn_62 (by omega)) | with_reducible exact Nat.le_trans (Nat.min_le_right _ _) (hsp r hr).2 | with_reducible exact (fx_giveByTurn_62 (by omega)).trans hP20.1 | exact hi20 | exact .inl rfl | exact .inr rfl | (simp (disch := omega) only [u2_ne, uR_ne, fr_fill, fr_useWaiver, fr_undoContradictions, fr_lowerEligible, fr_moveHeld, fr_raisePrices, fr_begin, fr_closeRound, fr_moveTaken, fr_findDisturbed, fr_addRegion, fr_addBidder, fr_take, fr_giveBack, fr_keepIfBetter, fr_findWinners, fr_leaveOut, fr_raiseEach, fr_raiseOutside, fr_find]; first | with_reducible exact hP20.1 | with_reducible exact hP20.2.1 | with_reducible exact hP20.2.2 | with_reducible exact hP20.2.1.of (fun i9 hi9 => fx_giveByTurn_62 (by omega)) | with_reducible exact Nat.le_trans (Nat.min_le_right _ _) (hsp r hr).2 | with_reducible exact (fx_giveByTurn_62 (by omega)).trans hP20.1)))), fun kk20 => ?_⟩) 6 0 (g_fill σ (1141 + r) 5 (-1), 0) (by omega) (⟨(fr_fill (by omega)), (hcd.of (fun i9 hi9 => fr_fill (by omega))), (by show (0 : Nat) ≤ 5; decide)⟩) (fun hP20 => ?_)
  · refine sw_iload O (xx_dt dd_X3_giveByTurn 12 rfl) rfl ?_
    refine sw_bipush (x := 6) O (xx_dt dd_X3_giveByTurn 13 rfl) (by decide) ?_
    refine sw_icmp_ge (tgt := 92) O (xx_dt dd_X3_giveByTurn 14 rfl) (by decide) (fun q1 => ?_) (fun q1 => ?_)
    · exact absurd q1 (nI_ge (b := 6) hi20 (by omega))
    · refine sw_iload O (xx_dt dd_X3_giveByTurn 15 rfl) rfl ?_
      refine sw_iload O (xx_dt dd_X3_giveByTurn 16 rfl) rfl ?_
      refine sw_iadd O (xx_dt dd_X3_giveByTurn 17 rfl) ?_
      have hx31 := True.intro
      rw [nI_plus t i20]
      refine sw_bipush (x := 6) O (xx_dt dd_X3_giveByTurn 18 rfl) (by decide) ?_
      refine sw_irem O (xx_dt dd_X3_giveByTurn 19 rfl) (by first | decide | assumption) ?_
      have hx34 := Nat.mod_lt (t + i20) (show 0 < 6 by decide)
      rw [nI_rem6 (m := t + i20) (by omega)]
      refine sw_istore (ls2 := [.ref 1005, .ref 1001, .ref 1003, .int (nI r), .int (nI t), .ref (1141 + r), .int (nI (s20.2)), .int (nI i20), .int (nI ((t + i20) % 6)), xx_d, xx_d]) O (xx_dt dd_X3_giveByTurn 20 rfl) (by decide) rfl ?_
      refine sw_iload O (xx_dt dd_X3_giveByTurn 21 rfl) rfl ?_
      refine sw_aload_n O (xx_dt dd_X3_giveByTurn 22 rfl) rfl ?_
      refine sw_iload O (xx_dt dd_X3_giveByTurn 23 rfl) rfl ?_
      refine sw_iload_n O (xx_dt dd_X3_giveByTurn 24 rfl) rfl ?_
      refine sw_callVx (as := [.int (nI ((t + i20) % 6)), .int (nI r)]) (st := [.int (nI (s20.2))]) (st2 := [.int (nI (cbw s20.1 ((t + i20) % 6) r)), .int (nI (s20.2))]) O (ct_X2_blocksWonN hl (σ := s20.1) hP20.2.1 (i := (t + i20) % 6) (r := r) (by omega) (by omega)) ce_X2_blocksWon ml_X3_39 iv_X2_blocksWon cl_X2 rfl (ly_1003 s20.1 h) (xx_dt dd_X3_giveByTurn 25 rfl) (by first | decide | omega) rfl rfl (Nat.le_of_ble_eq_true rfl) rfl ?_
      have hbw := (cbw_ok (r := r) hP20.2.1 (show (t + i20) % 6 < 6 by omega)).2
      refine sw_iadd O (xx_dt dd_X3_giveByTurn 26 rfl) ?_
      have hx46 := True.intro
      rw [nI_plus s20.2 (cbw s20.1 ((t + i20) % 6) r)]
      refine sw_aload_n O (xx_dt dd_X3_giveByTurn 27 rfl) rfl ?_
      refine sw_get (v := .ref 1010) O (xx_dt dd_X3_giveByTurn 28 rfl) cl_X6 fl_X3_45 (ly_1001 s20.1 h) (by decide) rfl ?_
      refine sw_iload_n O (xx_dt dd_X3_giveByTurn 29 rfl) rfl ?_
      have hz52 := (hsp r (by omega)).2
      refine sw_iaload (v := .int (nI (sp r))) O (xx_dt dd_X3_giveByTurn 30 rfl) (ly_1010 s20.1 h) (pk_in r _ (by omega)) (by rw [nI_clamp (by omega)]; exact (congrArg Value.int ((congrFun hP20.1 r).trans (hsp r (by omega)).1))) ?_
      refine sw_min O mm_X3_49 (xx_dt dd_X3_giveByTurn 31 rfl) (by omega) (Nat.le_of_ble_eq_true rfl) ?_
      rw [min_nat (a := s20.2 + cbw s20.1 ((t + i20) % 6) r) (b := sp r) (by omega) (by omega)]
      refine sw_istore (ls2 := [.ref 1005, .ref 1001, .ref 1003, .int (nI r), .int (nI t), .ref (1141 + r), .int (nI (s20.2)), .int (nI i20), .int (nI ((t + i20) % 6)), .int (nI (min (s20.2 + cbw s20.1 ((t + i20) % 6) r) (sp r))), xx_d]) O (xx_dt dd_X3_giveByTurn 32 rfl) (by decide) rfl ?_
      refine sw_iload O (xx_dt dd_X3_giveByTurn 33 rfl) rfl ?_
      refine sw_istore (ls2 := [.ref 1005, .ref 1001, .ref 1003, .int (nI r), .int (nI t), .ref (1141 + r), .int (nI (s20.2)), .int (nI i20), .int (nI ((t + i20) % 6)), .int (nI (min (s20.2 + cbw s20.1 ((t + i20) % 6) r) (sp r))), .int (nI (s20.2))]) O (xx_dt dd_X3_giveByTurn 34 rfl) (by decide) rfl ?_
      refine sw_for (fun i62 s62 => u2 s62 (1141 + r) (s20.2 + i62) (nI ((t + i20) % 6))) (fun _ _ => True) (hp := fun s62 => setC s62 h) (hd := 62) (lc := fun i62 s62 => [.ref 1005, .ref 1001, .ref 1003, .int (nI r), .int (nI t), .ref (1141 + r), .int (nI (s20.2)), .int (nI i20), .int (nI ((t + i20) % 6)), .int (nI (min (s20.2 + cbw s20.1 ((t + i20) % 6) r) (sp r))), .int (nI (s20.2 + i62))]) (N := (min (s20.2 + cbw s20.1 ((t + i20) % 6) r) (sp r) - s20.2)) (fun i62 s62 hi62 hP62 => ⟨trivial, fun kk62 => ?_⟩) (min (s20.2 + cbw s20.1 ((t + i20) % 6) r) (sp r) - s20.2) 0 s20.1 (by omega) (trivial) (fun hP62 => ?_)
      · refine sw_iload O (xx_dt dd_X3_giveByTurn 35 rfl) rfl ?_
        refine sw_iload O (xx_dt dd_X3_giveByTurn 36 rfl) rfl ?_
        refine sw_icmp_ge (tgt := 82) O (xx_dt dd_X3_giveByTurn 37 rfl) (by decide) (fun q2 => ?_) (fun q2 => ?_)
        · exact absurd q2 (nI_ge (a := s20.2 + i62) (b := (min (s20.2 + cbw s20.1 ((t + i20) % 6) r) (sp r))) (by omega) (by omega))
        · refine sw_aload O (xx_dt dd_X3_giveByTurn 38 rfl) rfl ?_
          refine sw_iload O (xx_dt dd_X3_giveByTurn 39 rfl) rfl ?_
          refine sw_iload O (xx_dt dd_X3_giveByTurn 40 rfl) rfl ?_
          refine sw_iastore (h2 := setC (u2 s62 (1141 + r) (s20.2 + i62) (nI ((t + i20) % 6))) h) O (xx_dt dd_X3_giveByTurn 41 rfl) (lr_1140 s62 h (k := r) (by omega)) (pk_in (s20.2 + i62) _ (by omega)) (by omega) (by rw [nI_clamp (by omega)]; exact (pr_1140 (by omega))) ?_
          refine sw_iinc (y := nI (s20.2 + i62 + 1)) (ls2 := [.ref 1005, .ref 1001, .ref 1003, .int (nI r), .int (nI t), .ref (1141 + r), .int (nI (s20.2)), .int (nI i20), .int (nI ((t + i20) % 6)), .int (nI (min (s20.2 + cbw s20.1 ((t + i20) % 6) r) (sp r))), .int (nI (s20.2 + i62 + 1))]) O (xx_dt dd_X3_giveByTurn 42 rfl) rfl (nI_1 _) (by decide) rfl ?_
          refine sw_goto (tgt := 62) O (xx_dt dd_X3_giveByTurn 43 rfl) (by decide) ?_
          exact kk62
      · show SW Y _ _ (setC (x_giveByTurn_62 σ r t sp i20 s20 s20.1) h) 62 [.ref 1005, .ref 1001, .ref 1003, .int (nI r), .int (nI t), .ref (1141 + r), .int (nI (s20.2)), .int (nI i20), .int (nI ((t + i20) % 6)), .int (nI (min (s20.2 + cbw s20.1 ((t + i20) % 6) r) (sp r))), .int (nI (s20.2 + (min (s20.2 + cbw s20.1 ((t + i20) % 6) r) (sp r) - s20.2)))] []
        refine sw_iload O (xx_dt dd_X3_giveByTurn 35 rfl) rfl ?_
        refine sw_iload O (xx_dt dd_X3_giveByTurn 36 rfl) rfl ?_
        refine sw_icmp_ge (tgt := 82) O (xx_dt dd_X3_giveByTurn 37 rfl) (by decide) (fun q2 => ?_) (fun q2 => ?_)
        · refine sw_iload O (xx_dt dd_X3_giveByTurn 44 rfl) rfl ?_
          refine sw_istore (ls2 := [.ref 1005, .ref 1001, .ref 1003, .int (nI r), .int (nI t), .ref (1141 + r), .int (nI (min (s20.2 + cbw s20.1 ((t + i20) % 6) r) (sp r))), .int (nI i20), .int (nI ((t + i20) % 6)), .int (nI (min (s20.2 + cbw s20.1 ((t + i20) % 6) r) (sp r))), .int (nI (s20.2 + (min (s20.2 + cbw s20.1 ((t + i20) % 6) r) (sp r) - s20.2)))]) O (xx_dt dd_X3_giveByTurn 45 rfl) (by decide) rfl ?_
          refine sw_iinc (y := nI (i20 + 1)) (ls2 := [.ref 1005, .ref 1001, .ref 1003, .int (nI r), .int (nI t), .ref (1141 + r), .int (nI (min (s20.2 + cbw s20.1 ((t + i20) % 6) r) (sp r))), .int (nI (i20 + 1)), .int (nI ((t + i20) % 6)), .int (nI (min (s20.2 + cbw s20.1 ((t + i20) % 6) r) (sp r))), .int (nI (s20.2 + (min (s20.2 + cbw s20.1 ((t + i20) % 6) r) (sp r) - s20.2)))]) O (xx_dt dd_X3_giveByTurn 46 rfl) rfl (nI_1 _) (by decide) rfl ?_
          refine sw_goto (tgt := 20) O (xx_dt dd_X3_giveByTurn 47 rfl) (by decide) ?_
          refine sw_dum (ls2 := [.ref 1005, .ref 1001, .ref 1003, .int (nI r), .int (nI t), .ref (1141 + r), .int (nI (min (s20.2 + cbw s20.1 ((t + i20) % 6) r) (sp r))), .int (nI (i20 + 1)), xx_d, xx_d, xx_d]) ⟨.inr rfl, .inr rfl, .inr rfl, .inr rfl, .inr rfl, .inr rfl, .inr rfl, .inr rfl, .inl rfl, .inl rfl, .inl rfl, trivial⟩ ?_
          exact kk20
        · exact absurd ((nI_leI (a := (min (s20.2 + cbw s20.1 ((t + i20) % 6) r) (sp r))) (b := s20.2 + (min (s20.2 + cbw s20.1 ((t + i20) % 6) r) (sp r) - s20.2)) (by omega) (by omega)).mpr (by omega)) q2
  · show SW Y _ _ (setC ((x_giveByTurn_20 σ r t sp (g_fill σ (1141 + r) 5 (-1), 0)).1) h) 20 [.ref 1005, .ref 1001, .ref 1003, .int (nI r), .int (nI t), .ref (1141 + r), .int (nI ((x_giveByTurn_20 σ r t sp (g_fill σ (1141 + r) 5 (-1), 0)).2)), .int (nI 6), xx_d, xx_d, xx_d] []
    have hP20 : ((x_giveByTurn_20 σ r t sp (g_fill σ (1141 + r) 5 (-1), 0)).1) 1010 = σ 1010 ∧ XCD (x_giveByTurn_20 σ r t sp (g_fill σ (1141 + r) 5 (-1), 0)).1 ∧ (x_giveByTurn_20 σ r t sp (g_fill σ (1141 + r) 5 (-1), 0)).2 ≤ 5 := hP20
    refine sw_iload O (xx_dt dd_X3_giveByTurn 12 rfl) rfl ?_
    refine sw_bipush (x := 6) O (xx_dt dd_X3_giveByTurn 13 rfl) (by decide) ?_
    refine sw_icmp_ge (tgt := 92) O (xx_dt dd_X3_giveByTurn 14 rfl) (by decide) (fun q1 => ?_) (fun q1 => ?_)
    · exact sw_ret O (xx_dt dd_X3_giveByTurn 48 rfl) rfl (by rw [hQ]; exact ⟨rfl, by unfold g_giveByTurn; rfl⟩)
    · exact absurd (Int32.le_refl _) q1
theorem fr_giveByTurn {σ : XS9} {r t : Nat} {sp : Nat → Nat} {q : Nat} (h : q ≠ 1141 + r) : g_giveByTurn σ r t sp q = σ q := by
  have H0 : ∀ s0, (x_giveByTurn_20 σ r t sp s0).1 q = s0.1 q := fun s0 => xit_keep (fun s : XS9 × Nat => s.1 q) (fun i s => fx_giveByTurn_62 (σ := σ) h) _ _ _
  unfold g_giveByTurn
  exact (H0 _).trans (fr_fill h)
def x_give_25 (σ : XS9) (R : Nat) (sp : Nat → Nat) (i7 : Nat) (s0 : XS9 × Nat × Int32) : XS9 × Nat × Int32 := xit (fun i25 s25 => (if s25.2.2 ≤ (f_clashesOf (g_giveByTurn s25.1 i7 i25 sp) i7) then (g_giveByTurn s25.1 i7 i25 sp, s25.2.1, s25.2.2) else (g_giveByTurn s25.1 i7 i25 sp, i25, f_clashesOf (g_giveByTurn s25.1 i7 i25 sp) i7))) 6 0 s0
def x_give_7 (σ : XS9) (R : Nat) (sp : Nat → Nat) (s0 : XS9) : XS9 := xit (fun i7 s7 => u2 (g_giveByTurn ((x_give_25 σ R sp i7 (s7, 0, 25)).1) i7 ((x_give_25 σ R sp i7 (s7, 0, 25)).2.1) sp) 1005 1 ((((x_give_25 σ R sp i7 (s7, 0, 25)).1) 1005 1) + ((x_give_25 σ R sp i7 (s7, 0, 25)).2.2))) R 0 s0
theorem fx_give_25 {σ : XS9} {R : Nat} {sp : Nat → Nat} {i7 : Nat} {s0 : XS9 × Nat × Int32} {q : Nat} (h : q ≠ 1141 + i7) : (x_give_25 σ R sp i7 s0).1 q = s0.1 q := xit_keep (fun s : XS9 × Nat × Int32 => s.1 q) (fun i s => by (try dsimp only); split <;> (try dsimp only) <;> exact fr_giveByTurn h) _ _ _
def g_give (σ : XS9) (R : Nat) (sp : Nat → Nat) : XS9 := (x_give_7 σ R sp (u2 σ 1005 1 0))
theorem ct_X3_give {l : Launch} {h : XH} (hl : l.stackTraces = false) {σ : XS9} {R : Nat} (hR : σ 1001 4 = nI R) (hR5 : R ≤ 5) {sp : Nat → Nat} (hsp : ∀ r, r < 5 → σ 1010 r = nI (sp r) ∧ sp r ≤ 5) (hcd : XCD σ) : XEx l m_X3_give 3 0 0 [.ref 1005, .ref 1001, .ref 1003] (setC σ h) (none) (setC (g_give σ R sp) h) := by
  refine XMet.of hl rfl rfl (Nat.le_of_ble_eq_true rfl) (fun Y O hh hQ => ?_)
  show SW Y 0 0 (setC σ h) 0 [.ref 1005, .ref 1001, .ref 1003, xx_d, xx_d, xx_d, xx_d, xx_d] []
  refine sw_aload_n O (xx_dt dd_X3_give 0 rfl) rfl ?_
  refine sw_iconst (x := 0) O (xx_dt dd_X3_give 1 rfl) (by decide) ?_
  refine sw_put (h2 := setC (u2 σ 1005 1 0) h) O (xx_dt dd_X3_give 2 rfl) cl_X3 fl_X3_22 (ly_1005 σ h) (by decide) (by decide) rfl (fun _ => ⟨rfl, rfl⟩) pu_1005_1 ?_
  refine sw_iconst (x := 0) O (xx_dt dd_X3_give 3 rfl) (by decide) ?_
  refine sw_istore_n (ls2 := [.ref 1005, .ref 1001, .ref 1003, .int 0, xx_d, xx_d, xx_d, xx_d]) O (xx_dt dd_X3_give 4 rfl) (by decide) rfl ?_
  refine sw_for (fun i7 s7 => u2 (g_giveByTurn ((x_give_25 σ R sp i7 (s7, 0, 25)).1) i7 ((x_give_25 σ R sp i7 (s7, 0, 25)).2.1) sp) 1005 1 ((((x_give_25 σ R sp i7 (s7, 0, 25)).1) 1005 1) + ((x_give_25 σ R sp i7 (s7, 0, 25)).2.2))) (fun _ s7 => s7 1001 4 = nI R ∧ s7 1010 = σ 1010 ∧ XCD s7) (hp := fun s7 => setC s7 h) (hd := 7) (lc := fun i7 s7 => [.ref 1005, .ref 1001, .ref 1003, .int (nI i7), xx_d, xx_d, xx_d, xx_d]) (N := R) (fun i7 s7 hi7 hP7 => ⟨(by (try dsimp only); (repeat' split) <;> (refine ⟨?_, ?_, ?_⟩ <;> (first | with_reducible exact hP7.1 | with_reducible exact hP7.2.1 | with_reducible exact hP7.2.2 | with_reducible exact hP7.2.2.of (fun i9 hi9 => (u2_ne (by omega)).trans ((fr_giveByTurn (by omega)).trans (fx_give_25 (by omega)))) | with_reducible exact (u2_ne (by omega)).trans ((fr_giveByTurn (by omega)).trans ((fx_give_25 (by omega)).trans hP7.2.1)) | with_reducible exact (congrFun ((u2_ne (by omega)).trans ((fr_giveByTurn (by omega)).trans (fx_give_25 (by omega)))) 4).trans hP7.1 | exact hi7 | exact .inl rfl | exact .inr rfl | (simp (disch := omega) only [u2_ne, uR_ne, fr_fill, fr_useWaiver, fr_undoContradictions, fr_lowerEligible, fr_moveHeld, fr_raisePrices, fr_begin, fr_closeRound, fr_moveTaken, fr_findDisturbed, fr_addRegion, fr_addBidder, fr_take, fr_giveBack, fr_keepIfBetter, fr_findWinners, fr_leaveOut, fr_raiseEach, fr_raiseOutside, fr_find, fr_giveByTurn]; first | with_reducible exact hP7.1 | with_reducible exact hP7.2.1 | with_reducible exact hP7.2.2 | with_reducible exact hP7.2.2.of (fun i9 hi9 => (u2_ne (by omega)).trans ((fr_giveByTurn (by omega)).trans (fx_give_25 (by omega)))) | with_reducible exact (u2_ne (by omega)).trans ((fr_giveByTurn (by omega)).trans ((fx_give_25 (by omega)).trans hP7.2.1)) | with_reducible exact (congrFun ((u2_ne (by omega)).trans ((fr_giveByTurn (by omega)).trans (fx_give_25 (by omega)))) 4).trans hP7.1)))), fun kk7 => ?_⟩) R 0 (u2 σ 1005 1 0) (by omega) (⟨hR, rfl, (hcd.of (fun i9 hi9 => u2_ne (by omega)))⟩) (fun hP7 => ?_)
  · refine sw_iload_n O (xx_dt dd_X3_give 5 rfl) rfl ?_
    refine sw_aload_n O (xx_dt dd_X3_give 6 rfl) rfl ?_
    refine sw_get (v := .int (nI R)) O (xx_dt dd_X3_give 7 rfl) cl_X6 fl_X3_26 (ly_1001 s7 h) (by decide) (congrArg Value.int hP7.1) ?_
    refine sw_icmp_ge (tgt := 96) O (xx_dt dd_X3_give 8 rfl) (by decide) (fun q1 => ?_) (fun q1 => ?_)
    · exact absurd q1 (nI_ge (b := R) hi7 (by omega))
    · refine sw_iconst (x := 0) O (xx_dt dd_X3_give 9 rfl) (by decide) ?_
      refine sw_istore (ls2 := [.ref 1005, .ref 1001, .ref 1003, .int (nI i7), .int 0, xx_d, xx_d, xx_d]) O (xx_dt dd_X3_give 10 rfl) (by decide) rfl ?_
      refine sw_bipush (x := 25) O (xx_dt dd_X3_give 11 rfl) (by decide) ?_
      refine sw_istore (ls2 := [.ref 1005, .ref 1001, .ref 1003, .int (nI i7), .int 0, .int 25, xx_d, xx_d]) O (xx_dt dd_X3_give 12 rfl) (by decide) rfl ?_
      refine sw_iconst (x := 0) O (xx_dt dd_X3_give 13 rfl) (by decide) ?_
      refine sw_istore (ls2 := [.ref 1005, .ref 1001, .ref 1003, .int (nI i7), .int 0, .int 25, .int 0, xx_d]) O (xx_dt dd_X3_give 14 rfl) (by decide) rfl ?_
      refine sw_for (fun i25 s25 => (if s25.2.2 ≤ (f_clashesOf (g_giveByTurn s25.1 i7 i25 sp) i7) then (g_giveByTurn s25.1 i7 i25 sp, s25.2.1, s25.2.2) else (g_giveByTurn s25.1 i7 i25 sp, i25, f_clashesOf (g_giveByTurn s25.1 i7 i25 sp) i7))) (fun _ s25 => s25.1 1001 4 = nI R ∧ s25.1 1010 = σ 1010 ∧ XCD s25.1 ∧ s25.2.1 < 6) (hp := fun s25 => setC s25.1 h) (hd := 25) (lc := fun i25 s25 => [.ref 1005, .ref 1001, .ref 1003, .int (nI i7), .int (nI (s25.2.1)), .int s25.2.2, .int (nI i25), xx_d]) (N := 6) (fun i25 s25 hi25 hP25 => ⟨(by (try dsimp only); (repeat' split) <;> (refine ⟨?_, ?_, ?_, ?_⟩ <;> (first | with_reducible exact hP25.1 | with_reducible exact hP25.2.1 | with_reducible exact hP25.2.2.1 | with_reducible exact hP25.2.2.2 | with_reducible exact hP25.2.2.1.of (fun i9 hi9 => fr_giveByTurn (by omega)) | with_reducible exact (fr_giveByTurn (by omega)).trans hP25.2.1 | with_reducible exact (congrFun (fr_giveByTurn (by omega)) 4).trans hP25.1 | with_reducible exact hi25 | exact hi25 | exact .inl rfl | exact .inr rfl | (simp (disch := omega) only [u2_ne, uR_ne, fr_fill, fr_useWaiver, fr_undoContradictions, fr_lowerEligible, fr_moveHeld, fr_raisePrices, fr_begin, fr_closeRound, fr_moveTaken, fr_findDisturbed, fr_addRegion, fr_addBidder, fr_take, fr_giveBack, fr_keepIfBetter, fr_findWinners, fr_leaveOut, fr_raiseEach, fr_raiseOutside, fr_find, fr_giveByTurn]; first | with_reducible exact hP25.1 | with_reducible exact hP25.2.1 | with_reducible exact hP25.2.2.1 | with_reducible exact hP25.2.2.2 | with_reducible exact hP25.2.2.1.of (fun i9 hi9 => fr_giveByTurn (by omega)) | with_reducible exact (fr_giveByTurn (by omega)).trans hP25.2.1 | with_reducible exact (congrFun (fr_giveByTurn (by omega)) 4).trans hP25.1 | with_reducible exact hi25)))), fun kk25 => ?_⟩) 6 0 (s7, 0, 25) (by omega) (⟨hP7.1, hP7.2.1, hP7.2.2, (by show (0 : Nat) < 6; decide)⟩) (fun hP25 => ?_)
      · refine sw_iload O (xx_dt dd_X3_give 15 rfl) rfl ?_
        refine sw_bipush (x := 6) O (xx_dt dd_X3_give 16 rfl) (by decide) ?_
        refine sw_icmp_ge (tgt := 70) O (xx_dt dd_X3_give 17 rfl) (by decide) (fun q2 => ?_) (fun q2 => ?_)
        · exact absurd q2 (nI_ge (b := 6) hi25 (by omega))
        · refine sw_aload_n O (xx_dt dd_X3_give 18 rfl) rfl ?_
          refine sw_aload_n O (xx_dt dd_X3_give 19 rfl) rfl ?_
          refine sw_aload_n O (xx_dt dd_X3_give 20 rfl) rfl ?_
          refine sw_iload_n O (xx_dt dd_X3_give 21 rfl) rfl ?_
          refine sw_iload O (xx_dt dd_X3_give 22 rfl) rfl ?_
          refine sw_callVx (as := [.ref 1001, .ref 1003, .int (nI i7), .int (nI i25)]) (st := []) (st2 := []) O (ct_X3_giveByTurn hl (σ := s25.1) (sp := sp) (fun j9 hj9 => by rw [show s25.1 1010 = σ 1010 from hP25.2.1]; exact hsp j9 hj9) hP25.2.2.1 (r := i7) (t := i25) (by omega) (by omega)) ce_X3_giveByTurn ml_X3_31 iv_X3_giveByTurn cl_X3 rfl (ly_1005 s25.1 h) (xx_dt dd_X3_give 23 rfl) (by first | decide | omega) rfl rfl (Nat.le_of_ble_eq_true rfl) rfl ?_
          refine sw_aload_n O (xx_dt dd_X3_give 24 rfl) rfl ?_
          refine sw_aload_n O (xx_dt dd_X3_give 25 rfl) rfl ?_
          refine sw_iload_n O (xx_dt dd_X3_give 26 rfl) rfl ?_
          refine sw_callVx (as := [.ref 1001, .int (nI i7)]) (st := []) (st2 := [.int (f_clashesOf (g_giveByTurn s25.1 i7 i25 sp) i7)]) O (ct_X3_clashesOf hl (σ := g_giveByTurn s25.1 i7 i25 sp) (r := i7) (by omega)) ce_X3_clashesOf ml_X3_35 iv_X3_clashesOf cl_X3 rfl (ly_1005 (g_giveByTurn s25.1 i7 i25 sp) h) (xx_dt dd_X3_give 27 rfl) (by first | decide | omega) rfl rfl (Nat.le_of_ble_eq_true rfl) rfl ?_
          refine sw_istore (ls2 := [.ref 1005, .ref 1001, .ref 1003, .int (nI i7), .int (nI (s25.2.1)), .int s25.2.2, .int (nI i25), .int (f_clashesOf (g_giveByTurn s25.1 i7 i25 sp) i7)]) O (xx_dt dd_X3_give 28 rfl) (by decide) rfl ?_
          refine sw_iload O (xx_dt dd_X3_give 29 rfl) rfl ?_
          refine sw_iload O (xx_dt dd_X3_give 30 rfl) rfl ?_
          refine sw_icmp_ge (tgt := 64) O (xx_dt dd_X3_give 31 rfl) (by decide) (fun q3 => ?_) (fun q3 => ?_)
          · refine sw_iinc (y := nI (i25 + 1)) (ls2 := [.ref 1005, .ref 1001, .ref 1003, .int (nI i7), .int (nI (s25.2.1)), .int s25.2.2, .int (nI (i25 + 1)), .int (f_clashesOf (g_giveByTurn s25.1 i7 i25 sp) i7)]) O (xx_dt dd_X3_give 36 rfl) rfl (nI_1 _) (by decide) rfl ?_
            refine sw_goto (tgt := 25) O (xx_dt dd_X3_give 37 rfl) (by decide) ?_
            refine sw_dum (ls2 := [.ref 1005, .ref 1001, .ref 1003, .int (nI i7), .int (nI (s25.2.1)), .int s25.2.2, .int (nI (i25 + 1)), xx_d]) ⟨.inr rfl, .inr rfl, .inr rfl, .inr rfl, .inr rfl, .inr rfl, .inr rfl, .inl rfl, trivial⟩ ?_
            simp only [if_pos q3] at kk25
            exact kk25
          · refine sw_iload O (xx_dt dd_X3_give 32 rfl) rfl ?_
            refine sw_istore (ls2 := [.ref 1005, .ref 1001, .ref 1003, .int (nI i7), .int (nI (s25.2.1)), .int (f_clashesOf (g_giveByTurn s25.1 i7 i25 sp) i7), .int (nI i25), .int (f_clashesOf (g_giveByTurn s25.1 i7 i25 sp) i7)]) O (xx_dt dd_X3_give 33 rfl) (by decide) rfl ?_
            refine sw_iload O (xx_dt dd_X3_give 34 rfl) rfl ?_
            refine sw_istore (ls2 := [.ref 1005, .ref 1001, .ref 1003, .int (nI i7), .int (nI i25), .int (f_clashesOf (g_giveByTurn s25.1 i7 i25 sp) i7), .int (nI i25), .int (f_clashesOf (g_giveByTurn s25.1 i7 i25 sp) i7)]) O (xx_dt dd_X3_give 35 rfl) (by decide) rfl ?_
            refine sw_iinc (y := nI (i25 + 1)) (ls2 := [.ref 1005, .ref 1001, .ref 1003, .int (nI i7), .int (nI i25), .int (f_clashesOf (g_giveByTurn s25.1 i7 i25 sp) i7), .int (nI (i25 + 1)), .int (f_clashesOf (g_giveByTurn s25.1 i7 i25 sp) i7)]) O (xx_dt dd_X3_give 36 rfl) rfl (nI_1 _) (by decide) rfl ?_
            refine sw_goto (tgt := 25) O (xx_dt dd_X3_give 37 rfl) (by decide) ?_
            refine sw_dum (ls2 := [.ref 1005, .ref 1001, .ref 1003, .int (nI i7), .int (nI i25), .int (f_clashesOf (g_giveByTurn s25.1 i7 i25 sp) i7), .int (nI (i25 + 1)), xx_d]) ⟨.inr rfl, .inr rfl, .inr rfl, .inr rfl, .inr rfl, .inr rfl, .inr rfl, .inl rfl, trivial⟩ ?_
            simp only [if_neg q3] at kk25
            exact kk25
      · show SW Y _ _ (setC ((x_give_25 σ R sp i7 (s7, 0, 25)).1) h) 25 [.ref 1005, .ref 1001, .ref 1003, .int (nI i7), .int (nI ((x_give_25 σ R sp i7 (s7, 0, 25)).2.1)), .int ((x_give_25 σ R sp i7 (s7, 0, 25)).2.2), .int (nI 6), xx_d] []
        have hP25 : ((x_give_25 σ R sp i7 (s7, 0, 25)).1) 1001 4 = nI R ∧ ((x_give_25 σ R sp i7 (s7, 0, 25)).1) 1010 = σ 1010 ∧ XCD (x_give_25 σ R sp i7 (s7, 0, 25)).1 ∧ (x_give_25 σ R sp i7 (s7, 0, 25)).2.1 < 6 := hP25
        refine sw_iload O (xx_dt dd_X3_give 15 rfl) rfl ?_
        refine sw_bipush (x := 6) O (xx_dt dd_X3_give 16 rfl) (by decide) ?_
        refine sw_icmp_ge (tgt := 70) O (xx_dt dd_X3_give 17 rfl) (by decide) (fun q2 => ?_) (fun q2 => ?_)
        · refine sw_aload_n O (xx_dt dd_X3_give 38 rfl) rfl ?_
          refine sw_aload_n O (xx_dt dd_X3_give 39 rfl) rfl ?_
          refine sw_aload_n O (xx_dt dd_X3_give 40 rfl) rfl ?_
          refine sw_iload_n O (xx_dt dd_X3_give 41 rfl) rfl ?_
          refine sw_iload O (xx_dt dd_X3_give 42 rfl) rfl ?_
          refine sw_callVx (as := [.ref 1001, .ref 1003, .int (nI i7), .int (nI ((x_give_25 σ R sp i7 (s7, 0, 25)).2.1))]) (st := []) (st2 := []) O (ct_X3_giveByTurn hl (σ := (x_give_25 σ R sp i7 (s7, 0, 25)).1) (sp := sp) (fun j9 hj9 => by rw [show ((x_give_25 σ R sp i7 (s7, 0, 25)).1) 1010 = σ 1010 from hP25.2.1]; exact hsp j9 hj9) hP25.2.2.1 (r := i7) (t := (x_give_25 σ R sp i7 (s7, 0, 25)).2.1) (by omega) (by omega)) ce_X3_giveByTurn ml_X3_31 iv_X3_giveByTurn cl_X3 rfl (ly_1005 ((x_give_25 σ R sp i7 (s7, 0, 25)).1) h) (xx_dt dd_X3_give 43 rfl) (by first | decide | omega) rfl rfl (Nat.le_of_ble_eq_true rfl) rfl ?_
          refine sw_aload_n O (xx_dt dd_X3_give 44 rfl) rfl ?_
          refine sw_dup O (xx_dt dd_X3_give 45 rfl) rfl ?_
          refine sw_get (v := .int (((x_give_25 σ R sp i7 (s7, 0, 25)).1) 1005 1)) O (xx_dt dd_X3_give 46 rfl) cl_X3 fl_X3_22 (ly_1005 (g_giveByTurn ((x_give_25 σ R sp i7 (s7, 0, 25)).1) i7 ((x_give_25 σ R sp i7 (s7, 0, 25)).2.1) sp) h) (by decide) (congrArg Value.int (congrFun (fr_giveByTurn (by omega)) 1)) ?_
          refine sw_iload O (xx_dt dd_X3_give 47 rfl) rfl ?_
          refine sw_iadd O (xx_dt dd_X3_give 48 rfl) ?_
          refine sw_put (h2 := setC (u2 (g_giveByTurn ((x_give_25 σ R sp i7 (s7, 0, 25)).1) i7 ((x_give_25 σ R sp i7 (s7, 0, 25)).2.1) sp) 1005 1 ((((x_give_25 σ R sp i7 (s7, 0, 25)).1) 1005 1) + ((x_give_25 σ R sp i7 (s7, 0, 25)).2.2))) h) O (xx_dt dd_X3_give 49 rfl) cl_X3 fl_X3_22 (ly_1005 (g_giveByTurn ((x_give_25 σ R sp i7 (s7, 0, 25)).1) i7 ((x_give_25 σ R sp i7 (s7, 0, 25)).2.1) sp) h) (by decide) (by decide) rfl (fun _ => ⟨rfl, rfl⟩) pu_1005_1 ?_
          refine sw_iinc (y := nI (i7 + 1)) (ls2 := [.ref 1005, .ref 1001, .ref 1003, .int (nI (i7 + 1)), .int (nI ((x_give_25 σ R sp i7 (s7, 0, 25)).2.1)), .int ((x_give_25 σ R sp i7 (s7, 0, 25)).2.2), .int (nI 6), xx_d]) O (xx_dt dd_X3_give 50 rfl) rfl (nI_1 _) (by decide) rfl ?_
          refine sw_goto (tgt := 7) O (xx_dt dd_X3_give 51 rfl) (by decide) ?_
          refine sw_dum (ls2 := [.ref 1005, .ref 1001, .ref 1003, .int (nI (i7 + 1)), xx_d, xx_d, xx_d, xx_d]) ⟨.inr rfl, .inr rfl, .inr rfl, .inr rfl, .inl rfl, .inl rfl, .inl rfl, .inr rfl, trivial⟩ ?_
          exact kk7
        · exact absurd (Int32.le_refl _) q2
  · show SW Y _ _ (setC (x_give_7 σ R sp (u2 σ 1005 1 0)) h) 7 [.ref 1005, .ref 1001, .ref 1003, .int (nI R), xx_d, xx_d, xx_d, xx_d] []
    have hP7 : (x_give_7 σ R sp (u2 σ 1005 1 0)) 1001 4 = nI R ∧ (x_give_7 σ R sp (u2 σ 1005 1 0)) 1010 = σ 1010 ∧ XCD (x_give_7 σ R sp (u2 σ 1005 1 0)) := hP7
    refine sw_iload_n O (xx_dt dd_X3_give 5 rfl) rfl ?_
    refine sw_aload_n O (xx_dt dd_X3_give 6 rfl) rfl ?_
    refine sw_get (v := .int (nI R)) O (xx_dt dd_X3_give 7 rfl) cl_X6 fl_X3_26 (ly_1001 (x_give_7 σ R sp (u2 σ 1005 1 0)) h) (by decide) (congrArg Value.int hP7.1) ?_
    refine sw_icmp_ge (tgt := 96) O (xx_dt dd_X3_give 8 rfl) (by decide) (fun q1 => ?_) (fun q1 => ?_)
    · exact sw_ret O (xx_dt dd_X3_give 52 rfl) rfl (by rw [hQ]; exact ⟨rfl, by unfold g_give; rfl⟩)
    · exact absurd (Int32.le_refl _) q1
theorem fr_give {σ : XS9} {R : Nat} {sp : Nat → Nat} (hR5 : R ≤ 5) {q : Nat} (h : q ≠ 1005 ∧ (q < 1141 ∨ 1145 < q)) : g_give σ R sp q = σ q := by
  have H0 : ∀ s0, x_give_7 σ R sp s0 q = s0 q := fun s0 => xit_inv (fun s : XS9 => s q = s0 q) (N := R) (fun i s hi hP => (u2_ne h.1).trans ((fr_giveByTurn (by omega)).trans ((fx_give_25 (by omega)).trans hP))) _ _ _ (by omega) rfl
  unfold g_give
  exact (H0 _).trans (u2_ne h.1)
def x_agreeWith_16 (σ : XS9) (R B : Nat) (i2 : Nat) (s0 : Int32) : Int32 ⊕ Int32 := xitR (fun i16 s16 => (if (f_heldBy σ (nI i16) i2) = (f_blocksWon σ i16 i2) then .inl (s16 + (f_heldBy σ (nI i16) i2)) else .inr 0)) B 0 s0
def x_agreeWith_2 (σ : XS9) (R B : Nat) (s0 : Unit) : Unit ⊕ Int32 := xitR (fun i2 s2 => (match (x_agreeWith_16 σ R B i2 0) with | .inl s16 => (if s16 ≤ (σ 1010 i2) then .inl () else .inr 0) | .inr r16 => .inr r16)) R 0 s0
def f_agreeWith (σ : XS9) (R B : Nat) : Int32 := (match (x_agreeWith_2 σ R B ()) with | .inl s2 => 1 | .inr r2 => r2)
theorem ct_X3_agreeWith {l : Launch} {h : XH} (hl : l.stackTraces = false) {σ : XS9} {R : Nat} (hR : σ 1001 4 = nI R) (hR5 : R ≤ 5) {B : Nat} (hB : σ 1001 9 = nI B) (hB6 : B ≤ 6)  : XEx l m_X3_agreeWith 2 0 0 [.ref 1005, .ref 1001, .ref 1003] (setC σ h) (some (.int (f_agreeWith σ R B))) (setC σ h) := by
  refine XMet.of hl rfl rfl (Nat.le_of_ble_eq_true rfl) (fun Y O hh hQ => ?_)
  show SW Y 0 0 (setC σ h) 0 [.ref 1005, .ref 1001, .ref 1003, xx_d, xx_d, xx_d, xx_d] []
  refine sw_iconst (x := 0) O (xx_dt dd_X3_agreeWith 0 rfl) (by decide) ?_
  refine sw_istore_n (ls2 := [.ref 1005, .ref 1001, .ref 1003, .int 0, xx_d, xx_d, xx_d]) O (xx_dt dd_X3_agreeWith 1 rfl) (by decide) rfl ?_
  refine sw_forR (R := Int32) (fun i2 s2 => (match (x_agreeWith_16 σ R B i2 0) with | .inl s16 => (if s16 ≤ (σ 1010 i2) then .inl () else .inr 0) | .inr r16 => .inr r16)) (fun _ _ => True) (FR := fun r9 => f_agreeWith σ R B = r9) (hp := fun _ => setC σ h) (hd := 2) (lc := fun i2 s2 => [.ref 1005, .ref 1001, .ref 1003, .int (nI i2), xx_d, xx_d, xx_d]) (N := R) (fun i2 s2 hi2 hP2 => ⟨fun _ _ => trivial, fun kk2 kr2 => ?_⟩) R 0 () (by omega) (trivial) (fun sN2 eN2 hP2 => ?_) (fun r2 eN2 => ?_)
  · refine sw_iload_n O (xx_dt dd_X3_agreeWith 2 rfl) rfl ?_
    refine sw_aload_n O (xx_dt dd_X3_agreeWith 3 rfl) rfl ?_
    refine sw_get (v := .int (nI R)) O (xx_dt dd_X3_agreeWith 4 rfl) cl_X6 fl_X3_26 (ly_1001 σ h) (by decide) (congrArg Value.int hR) ?_
    refine sw_icmp_ge (tgt := 80) O (xx_dt dd_X3_agreeWith 5 rfl) (by decide) (fun q1 => ?_) (fun q1 => ?_)
    · exact absurd q1 (nI_ge (b := R) hi2 (by omega))
    · refine sw_iconst (x := 0) O (xx_dt dd_X3_agreeWith 6 rfl) (by decide) ?_
      refine sw_istore (ls2 := [.ref 1005, .ref 1001, .ref 1003, .int (nI i2), .int 0, xx_d, xx_d]) O (xx_dt dd_X3_agreeWith 7 rfl) (by decide) rfl ?_
      refine sw_iconst (x := 0) O (xx_dt dd_X3_agreeWith 8 rfl) (by decide) ?_
      refine sw_istore (ls2 := [.ref 1005, .ref 1001, .ref 1003, .int (nI i2), .int 0, .int 0, xx_d]) O (xx_dt dd_X3_agreeWith 9 rfl) (by decide) rfl ?_
      refine sw_forR (R := Int32) (fun i16 s16 => (if (f_heldBy σ (nI i16) i2) = (f_blocksWon σ i16 i2) then .inl (s16 + (f_heldBy σ (nI i16) i2)) else .inr 0)) (fun _ _ => True) (FR := fun r9 => f_agreeWith σ R B = r9) (hp := fun _ => setC σ h) (hd := 16) (lc := fun i16 s16 => [.ref 1005, .ref 1001, .ref 1003, .int (nI i2), .int s16, .int (nI i16), xx_d]) (N := B) (fun i16 s16 hi16 hP16 => ⟨fun _ _ => trivial, fun kk16 kr16 => ?_⟩) B 0 0 (by omega) (trivial) (fun sN16 eN16 hP16 => ?_) (fun r16 eN16 => ?_)
      · refine sw_iload O (xx_dt dd_X3_agreeWith 10 rfl) rfl ?_
        refine sw_aload_n O (xx_dt dd_X3_agreeWith 11 rfl) rfl ?_
        refine sw_get (v := .int (nI B)) O (xx_dt dd_X3_agreeWith 12 rfl) cl_X6 fl_X3_71 (ly_1001 σ h) (by decide) (congrArg Value.int hB) ?_
        refine sw_icmp_ge (tgt := 61) O (xx_dt dd_X3_agreeWith 13 rfl) (by decide) (fun q2 => ?_) (fun q2 => ?_)
        · exact absurd q2 (nI_ge (b := B) hi16 (by omega))
        · refine sw_aload_n O (xx_dt dd_X3_agreeWith 14 rfl) rfl ?_
          refine sw_iload O (xx_dt dd_X3_agreeWith 15 rfl) rfl ?_
          refine sw_iload_n O (xx_dt dd_X3_agreeWith 16 rfl) rfl ?_
          refine sw_callVx (as := [.int (nI i16), .int (nI i2)]) (st := []) (st2 := [.int (f_heldBy σ (nI i16) i2)]) O (ct_X3_heldBy hl (σ := σ) (x := nI i16) (r := i2) (by omega)) ce_X3_heldBy ml_X3_74 iv_X3_heldBy cl_X3 rfl (ly_1005 σ h) (xx_dt dd_X3_agreeWith 17 rfl) (by first | decide | omega) rfl rfl (Nat.le_of_ble_eq_true rfl) rfl ?_
          refine sw_istore (ls2 := [.ref 1005, .ref 1001, .ref 1003, .int (nI i2), .int s16, .int (nI i16), .int (f_heldBy σ (nI i16) i2)]) O (xx_dt dd_X3_agreeWith 18 rfl) (by decide) rfl ?_
          refine sw_iload O (xx_dt dd_X3_agreeWith 19 rfl) rfl ?_
          refine sw_aload_n O (xx_dt dd_X3_agreeWith 20 rfl) rfl ?_
          refine sw_iload O (xx_dt dd_X3_agreeWith 21 rfl) rfl ?_
          refine sw_iload_n O (xx_dt dd_X3_agreeWith 22 rfl) rfl ?_
          refine sw_callVx (as := [.int (nI i16), .int (nI i2)]) (st := [.int (f_heldBy σ (nI i16) i2)]) (st2 := [.int (f_blocksWon σ i16 i2), .int (f_heldBy σ (nI i16) i2)]) O (ct_X2_blocksWon hl (σ := σ) (i := i16) (r := i2) (by omega) (by omega)) ce_X2_blocksWon ml_X3_39 iv_X2_blocksWon cl_X2 rfl (ly_1003 σ h) (xx_dt dd_X3_agreeWith 23 rfl) (by first | decide | omega) rfl rfl (Nat.le_of_ble_eq_true rfl) rfl ?_
          refine sw_icmp_eq (tgt := 48) O (xx_dt dd_X3_agreeWith 24 rfl) (by decide) (fun q3 => ?_) (fun q3 => ?_)
          · refine sw_iload O (xx_dt dd_X3_agreeWith 27 rfl) rfl ?_
            refine sw_iload O (xx_dt dd_X3_agreeWith 28 rfl) rfl ?_
            refine sw_iadd O (xx_dt dd_X3_agreeWith 29 rfl) ?_
            refine sw_istore (ls2 := [.ref 1005, .ref 1001, .ref 1003, .int (nI i2), .int (s16 + (f_heldBy σ (nI i16) i2)), .int (nI i16), .int (f_heldBy σ (nI i16) i2)]) O (xx_dt dd_X3_agreeWith 30 rfl) (by decide) rfl ?_
            refine sw_iinc (y := nI (i16 + 1)) (ls2 := [.ref 1005, .ref 1001, .ref 1003, .int (nI i2), .int (s16 + (f_heldBy σ (nI i16) i2)), .int (nI (i16 + 1)), .int (f_heldBy σ (nI i16) i2)]) O (xx_dt dd_X3_agreeWith 31 rfl) rfl (nI_1 _) (by decide) rfl ?_
            refine sw_goto (tgt := 16) O (xx_dt dd_X3_agreeWith 32 rfl) (by decide) ?_
            refine sw_dum (ls2 := [.ref 1005, .ref 1001, .ref 1003, .int (nI i2), .int (s16 + (f_heldBy σ (nI i16) i2)), .int (nI (i16 + 1)), xx_d]) ⟨.inr rfl, .inr rfl, .inr rfl, .inr rfl, .inr rfl, .inr rfl, .inl rfl, trivial⟩ ?_
            exact kk16 (s16 + (f_heldBy σ (nI i16) i2)) (by simp only [if_pos q3])
          · refine sw_iconst (x := 0) O (xx_dt dd_X3_agreeWith 25 rfl) (by decide) ?_
            exact sw_iret O (xx_dt dd_X3_agreeWith 26 rfl) rfl rfl (by rw [hQ, kr16 0 (by simp only [if_neg q3])]; exact ⟨rfl, rfl⟩)
      · show SW Y _ _ (setC σ h) 16 [.ref 1005, .ref 1001, .ref 1003, .int (nI i2), .int sN16, .int (nI B), xx_d] []
        refine sw_iload O (xx_dt dd_X3_agreeWith 10 rfl) rfl ?_
        refine sw_aload_n O (xx_dt dd_X3_agreeWith 11 rfl) rfl ?_
        refine sw_get (v := .int (nI B)) O (xx_dt dd_X3_agreeWith 12 rfl) cl_X6 fl_X3_71 (ly_1001 σ h) (by decide) (congrArg Value.int hB) ?_
        refine sw_icmp_ge (tgt := 61) O (xx_dt dd_X3_agreeWith 13 rfl) (by decide) (fun q2 => ?_) (fun q2 => ?_)
        · refine sw_iload O (xx_dt dd_X3_agreeWith 33 rfl) rfl ?_
          refine sw_aload_n O (xx_dt dd_X3_agreeWith 34 rfl) rfl ?_
          refine sw_get (v := .ref 1010) O (xx_dt dd_X3_agreeWith 35 rfl) cl_X6 fl_X3_45 (ly_1001 σ h) (by decide) rfl ?_
          refine sw_iload_n O (xx_dt dd_X3_agreeWith 36 rfl) rfl ?_
          refine sw_iaload (v := .int (σ 1010 i2)) O (xx_dt dd_X3_agreeWith 37 rfl) (ly_1010 σ h) (pk_in i2 _ (by omega)) (by rw [nI_clamp (by omega)]; try exact rfl) ?_
          refine sw_icmp_le (tgt := 74) O (xx_dt dd_X3_agreeWith 38 rfl) (by decide) (fun q4 => ?_) (fun q4 => ?_)
          · refine sw_iinc (y := nI (i2 + 1)) (ls2 := [.ref 1005, .ref 1001, .ref 1003, .int (nI (i2 + 1)), .int sN16, .int (nI B), xx_d]) O (xx_dt dd_X3_agreeWith 41 rfl) rfl (nI_1 _) (by decide) rfl ?_
            refine sw_goto (tgt := 2) O (xx_dt dd_X3_agreeWith 42 rfl) (by decide) ?_
            refine sw_dum (ls2 := [.ref 1005, .ref 1001, .ref 1003, .int (nI (i2 + 1)), xx_d, xx_d, xx_d]) ⟨.inr rfl, .inr rfl, .inr rfl, .inr rfl, .inl rfl, .inl rfl, .inr rfl, trivial⟩ ?_
            exact kk2 () (by simp only [if_pos q4, x_agreeWith_16, eN16])
          · refine sw_iconst (x := 0) O (xx_dt dd_X3_agreeWith 39 rfl) (by decide) ?_
            exact sw_iret O (xx_dt dd_X3_agreeWith 40 rfl) rfl rfl (by rw [hQ, kr2 0 (by simp only [if_neg q4, x_agreeWith_16, eN16])]; exact ⟨rfl, rfl⟩)
        · exact absurd (Int32.le_refl _) q2
      · exact kr2 r16 (by simp only [x_agreeWith_16, eN16])
  · show SW Y _ _ (setC σ h) 2 [.ref 1005, .ref 1001, .ref 1003, .int (nI R), xx_d, xx_d, xx_d] []
    refine sw_iload_n O (xx_dt dd_X3_agreeWith 2 rfl) rfl ?_
    refine sw_aload_n O (xx_dt dd_X3_agreeWith 3 rfl) rfl ?_
    refine sw_get (v := .int (nI R)) O (xx_dt dd_X3_agreeWith 4 rfl) cl_X6 fl_X3_26 (ly_1001 σ h) (by decide) (congrArg Value.int hR) ?_
    refine sw_icmp_ge (tgt := 80) O (xx_dt dd_X3_agreeWith 5 rfl) (by decide) (fun q1 => ?_) (fun q1 => ?_)
    · refine sw_iconst (x := 1) O (xx_dt dd_X3_agreeWith 43 rfl) (by decide) ?_
      exact sw_iret O (xx_dt dd_X3_agreeWith 44 rfl) rfl rfl (by rw [hQ]; exact ⟨by unfold f_agreeWith; simp only [x_agreeWith_2, eN2], rfl⟩)
    · exact absurd (Int32.le_refl _) q1
  · unfold f_agreeWith; simp only [x_agreeWith_2, eN2]
