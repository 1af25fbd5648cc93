/-! ===== isSound, alike ===== -/
section
variable {τ σ : XS9}
theorem says_sound (rc : RC τ σ) (r : JR τ) (a : RA τ σ) (z9 : RZ τ) (jc : JC σ) (js : JS τ) (oz : OZ σ) (eB : aB σ = mB τ) (m : RM τ σ) (p : JP τ) (hy : HY τ) : f_isSound σ (mR τ) (mB τ) (aw σ) (mK τ) = f_MisSound τ (vS (u2 τ 5000 0 0)) := by
  have R5 := r.hR.2
  have B6 := r.hB.2
  have K60 := r.hK.2
  have A := anew_two (j := 0) (r := 0) (y := 0) (xc := -1) (xm := -1) (told a z9 jc) R5 B6 (LGK.mk rc js oz eB) K60 a z9 (fun i hi => by
    have h1 : ∀ i, i < 60 → ¬ nI (i + 1) = -1 := by decide
    have h2 : ∀ i, i < 60 → ¬ nI i = -1 - 1 := by decide
    exact ⟨fun q => absurd q (h1 i (by omega)), fun q => absurd q (h2 i (by omega))⟩) (fun i hi q => by
    have h1 : ∀ i, i < 60 → ¬ nI (i + 1) = -1 := by decide
    exact absurd q (h1 i (by omega)))
  obtain ⟨⟨g, n, Q⟩, fs, ft⟩ := A
  have hK0 : τ 5000 1 = 0 → x_runLog_11 σ 3000 2000 (-1) 0 0 0 (mB τ) (mR τ) (mK τ) (g_begin σ 3000, 0) = (g_begin σ 3000, 0) := fun c => by
    have : mK τ = 0 := by
      show cn (τ 5003 900) = 0
      rw [(r.hp0 c).2.2]
      rfl
    rw [this]
    rfl
  have ev : vS (u2 τ 5000 0 0) = if u2 τ 5000 0 0 7000 25 = nI 0 then f_MisSound_n (u2 τ 5000 0 0) (mR τ) (mB τ) (mK τ) (mC τ) (mpk τ) (mg τ) (mtn τ) (msp τ) else f_MisSound_c (u2 τ 5000 0 0) (mR τ) (mB τ) (mK τ) (mC τ) (mpk τ) (mg τ) (mtn τ) (msp τ) := by
    have q : ∀ q, q ≠ 5000 → u2 τ 5000 0 0 q = τ q := fun q hq => u2_ne hq
    have e1 : mR (u2 τ 5000 0 0) = mR τ := congrArg cn (congrFun (q 5001 (by decide)) 900)
    have e2 : mB (u2 τ 5000 0 0) = mB τ := congrArg cn (congrFun (q 5002 (by decide)) 900)
    have e3 : mK (u2 τ 5000 0 0) = mK τ := congrArg cn (congrFun (q 5003 (by decide)) 900)
    have e4 : mC (u2 τ 5000 0 0) = mC τ := congrArg (fun v => cn v / 2) (congrFun (q 5004 (by decide)) 900)
    have e5 : mg (u2 τ 5000 0 0) = mg τ := congrArg cn (congrFun (q 7000 (by decide)) 23)
    have e6 : mpk (u2 τ 5000 0 0) = mpk τ := funext fun j => congrArg (fun v => cn v / 2) (congrFun (q (5030 + j) (by omega)) 900)
    have e7 : mtn (u2 τ 5000 0 0) = mtn τ := funext fun j => congrArg cn (congrFun (q 5007 (by decide)) j)
    have e8 : msp (u2 τ 5000 0 0) = msp τ := funext fun j => congrArg cn (congrFun (q (5010 + j) (by omega)) 0)
    show (if u2 τ 5000 0 0 7000 25 = nI 0 then f_MisSound_n (u2 τ 5000 0 0) (mR (u2 τ 5000 0 0)) (mB (u2 τ 5000 0 0)) (mK (u2 τ 5000 0 0)) (mC (u2 τ 5000 0 0)) (mpk (u2 τ 5000 0 0)) (mg (u2 τ 5000 0 0)) (mtn (u2 τ 5000 0 0)) (msp (u2 τ 5000 0 0)) else f_MisSound_c (u2 τ 5000 0 0) (mR (u2 τ 5000 0 0)) (mB (u2 τ 5000 0 0)) (mK (u2 τ 5000 0 0)) (mC (u2 τ 5000 0 0)) (mpk (u2 τ 5000 0 0)) (mg (u2 τ 5000 0 0)) (mtn (u2 τ 5000 0 0)) (msp (u2 τ 5000 0 0))) = _
    rw [e1, e2, e3, e4, e5, e6, e7, e8]
  have fb : ∀ j, j < mB τ → σ 2004 j = f_MofBidderNow (u2 τ 5000 0 0) j (mR τ) (mB τ) (mpk τ) (mg τ) 1 := fun j hj => facts_b rc r a z9 m p (k := 1) hj (by decide)
  have fr : ∀ q, q < mR τ → σ 2001 q = f_MofRegionNow (u2 τ 5000 0 0) q (mR τ) (mB τ) (mC τ) (mg τ) 3 := fun q hq => facts_r rc r a (k := 3) hq (by decide) (count_eq a r)
  have codes : ∀ j, j < mB τ → σ 2002 j = f_MheldCode (u2 τ 5000 0 0) j (mg τ) ∧ bd 7775 (σ 2002 j) ∧ ∀ k, mR τ ≤ k → k < 5 → dgt (σ 2002 j) k = 0 := fun j hj => by
    have c := codes_eq rc hj B6
    refine ⟨c.2.1, c.2.2, fun k h1 h2 => ?_⟩
    by_cases c0 : τ 5000 1 = 0
    · rw [((rc.off c0).h j (by omega)).1]
      exact dgt_0
    · rw [((rc.on c0).he j hj).1]
      exact hy c0 j hj k h1 h2
  have t7 : u2 τ 5000 0 0 7000 25 = τ 7000 25 := congrFun (u2_ne (by decide)) 25
  have t51 : u2 τ 5000 0 0 5000 1 = τ 5000 1 := u2_oi (by decide)
  have tq : ∀ q, 5001 ≤ q → u2 τ 5000 0 0 q = τ q := fun q hq => u2_ne (by omega)
  unfold f_isSound f_MisSound
  rw [ev, t7]
  have eS : g_runLog σ 3000 2000 (-1) 0 0 0 (mB τ) (mR τ) (mK τ) = (x_runLog_11 σ 3000 2000 (-1) 0 0 0 (mB τ) (mR τ) (mK τ) (g_begin σ 3000, 0)).1 := rfl
  rw [eS]
  generalize x_runLog_11 σ 3000 2000 (-1) 0 0 0 (mB τ) (mR τ) (mK τ) (g_begin σ 3000, 0) = P at Q fs hK0 ⊢
  have ss : ∀ q, q < 3000 → P.1 q = σ q := fun q hq => fs q (by omega)
  -- the parts
  have pR : (∀ q, q < mR τ → P.1 1012 q ≤ P.1 (2000 + 1) q) ↔ ∀ q, q < mR τ → u2 τ 5000 0 0 (5010 + q) 2 ≤ f_MofRegionNow (u2 τ 5000 0 0) q (mR τ) (mB τ) (mC τ) (mg τ) 3 := forall_congr' fun q => forall_congr' fun hq => by
    rw [ss _ (by decide), ss (2000 + 1) (by decide), fr q hq, tq _ (by omega), (a.2.1 q (by omega)).2.2.1]
  have pE : ∀ j, j < mB τ → (¬ P.1 (2000 + 4) j < 0 ↔ 0 ≤ f_MofBidderNow (u2 τ 5000 0 0) j (mR τ) (mB τ) (mpk τ) (mg τ) 1) := fun j hj => by
    rw [ss (2000 + 4) (by decide), fb j hj]
    exact Int32.not_lt
  have pH : ∀ j, j < mB τ → (¬ f_isWithin (P.1 (2000 + 2) j) 5 (P.1 1010) = 0 ↔ ∀ q, q < mR τ → f_of (f_MheldCode (u2 τ 5000 0 0) j (mg τ)) q ≤ nI (msp τ q)) := fun j hj => by
    obtain ⟨c1, c2, c3⟩ := codes j hj
    have w := within_eq (q := fun q => if q < mR τ then msp τ q else 0) (f := σ 1010) (N := 5) c2 (fun q hq => by
      rw [(a.2.1 q hq).1]
      (try dsimp only)
      split
      · rename_i l
        exact r.hsp q l
      · rename_i l
        exact ⟨(z9 q (Nat.not_lt.mp l) hq).1, by omega⟩)
    rw [ss (2000 + 2) (by decide), ss 1010 (by decide), ← c1]
    refine ⟨fun h q hq => ?_, fun h z => ?_⟩
    · have h1 : ∀ q, q < 5 → dgt (σ 2002 j) q ≤ (if q < mR τ then msp τ q else 0) := Classical.byContradiction fun n => h (w.mpr n)
      have h2 := h1 q (by omega)
      rw [if_pos hq] at h2
      have k5 := (r.hsp q hq).2
      rw [of_d c2 (by omega)]
      exact (nle (by omega) (by omega)).mpr h2
    · refine w.mp z fun q hq => ?_
      (try dsimp only)
      split
      · rename_i l
        have h2 := h q l
        have k5 := (r.hsp q l).2
        have d5 := dgt_le (c := σ 2002 j) (r := q)
        rw [of_d c2 hq] at h2
        exact (nle (by omega) (by omega)).mp h2
      · rename_i l
        rw [c3 q (Nat.not_lt.mp l) hq]
        exact Nat.le_refl _
  have p3 : τ 5000 1 = 3 → (∀ j, j < mB τ → f_paymentOf P.1 j (aw σ) ≤ f_amountWon P.1 j) ∧ ∀ j, j < mB τ → ¬ u2 τ 5000 0 0 5005 j = -1 → u2 τ 5000 0 0 5006 j ≤ f_Bamount (u2 τ 5000 0 0) j (cn (u2 τ 5000 0 0 5005 j)) := fun c => by
    have K := (m.n3 c).1
    have ew : aw σ = mwy τ := congrArg cn K.2.2
    obtain ⟨W, b, f, fw, aw9, _, _, _, pv⟩ := m.pay r p a
    have le : ∀ j, j < mB τ → nI (f (mwy τ) j) ≤ nI (b j) := fun j hj => by
      have q3 := (fw.2.1 j (by omega)).1
      have q2 := (pv (mwy τ) r.hwy.2 j (by omega)).2.1
      exact (nle (by omega) (by omega)).mpr q2
    refine ⟨fun j hj => ?_, fun j hj ne => ?_⟩
    · have e1 : f_paymentOf P.1 j (aw σ) = nI (f (mwy τ) j) := by
        unfold f_paymentOf
        rw [ss 1000 (by decide), rc.st, if_pos c, ew, ss _ (by have := r.hwy.2; omega)]
        exact (pv (mwy τ) r.hwy.2 j (by omega)).1
      have e2 : f_amountWon P.1 j = nI (b j) := by
        rw [← (aw9 j (by omega)).1]
        unfold f_amountWon
        rw [ss 1040 (by decide), ss _ (by omega)]
      rw [e1, e2]
      exact le j hj
    · rw [tq 5005 (by decide)] at ne ⊢
      rw [tq 5006 (by decide), K.2.1 j (by omega), (pv (mwy τ) r.hwy.2 j (by omega)).1]
      unfold f_Bamount
      rw [tq _ (by omega), ← amt_w m r c hj ne, (aw9 j (by omega)).1]
      exact le j hj
  have agr : τ 5000 1 = 3 → x_agreeWith_2 P.1 (mR τ) (mB τ) () = x_MareNamed_2 (u2 τ 5000 0 0) (mR τ) (mB τ) (msp τ) (mtn τ) (mpk τ) () := fun c => agree_eq m r p a c ss t51 (fun q h1 h2 => tq q h1)
  have cls := yn.if3 (rep_yn (s := P.1) (R := mR τ) (B := mB τ)) (clk_yn (s := P.1) (R := mR τ) (B := mB τ)) (set_yn (s := P.1) (R := mR τ) (B := mB τ) (w := aw σ))
  have s7 : P.1 1000 7 = τ 5000 1 := by
    rw [ss 1000 (by decide)]
    exact rc.st
  by_cases c0 : τ 5000 1 = 0
  · rw [if_pos (show τ 7000 25 = nI 0 from rc.fl.mpr c0)]
    refine cls.eq (sn_yn (t := u2 τ 5000 0 0) (R := mR τ) (B := mB τ) (K := mK τ) (C := mC τ) (pk := mpk τ) (g := mg τ) (tn := mtn τ) (sp := msp τ)) ?_
    have hc : ∀ j, f_MheldCode (u2 τ 5000 0 0) j (mg τ) = f_MheldCode_n (u2 τ 5000 0 0) j := fun j => if_pos (by rw [t7]; exact rc.fl.mpr c0)
    have n3 : ¬ u2 τ 5000 0 0 5000 1 = 3 := fun q => absurd (c0.symm.trans (t51.symm.trans q)) (by decide)
    have n3' : ¬ P.1 1000 7 = 3 := fun q => absurd (c0.symm.trans (s7.symm.trans q)) (by decide)
    obtain ⟨b1, b2, b3, b4, b5, b6⟩ := begin_b (s := σ) (b := 3000) (by decide)
    have hP := hK0 c0
    refine ⟨fun ⟨_, ⟨h2, h3⟩, _⟩ => ⟨fun i hi => ⟨(pE i hi).mp (h3 i hi).1, fun q hq => ?_, fun q => absurd q n3⟩, pR.mp h2, fun q => absurd q n3⟩, fun ⟨h1, h2, _⟩ => ⟨⟨fun q hq => ?_, fun j hj => ?_⟩, ⟨pR.mpr h2, fun j hj => ⟨(pE j hj).mpr (h1 j hj).1, (pH j hj).mpr fun q hq => ?_⟩⟩, fun q => absurd q n3'⟩⟩
    · have := (pH i hi).mp (h3 i hi).2 q hq
      rw [hc i] at this
      exact this
    · rw [ss (2000 + 1) (by decide), hP]
      exact (b1 q (by omega)).trans ((rc.off c0).p q (by omega)).symm
    · rw [ss (2000 + 2) (by decide), hP]
      exact (b3 j (by omega)).1.trans ((rc.off c0).h j (by omega)).1.symm
    · have := (h1 j hj).2.1 q hq
      rw [hc j]
      exact this
  · have n25 : ¬ τ 7000 25 = nI 0 := fun q => c0 (rc.fl.mp q)
    rw [if_neg n25]
    refine cls.eq (sc_yn (t := u2 τ 5000 0 0) (R := mR τ) (B := mB τ) (K := mK τ) (C := mC τ) (pk := mpk τ) (g := mg τ) (tn := mtn τ) (sp := msp τ)) ?_
    have hc : ∀ j, f_MheldCode (u2 τ 5000 0 0) j (mg τ) = f_MheldCode_c (u2 τ 5000 0 0) j (mg τ) := fun j => if_neg (by rw [t7]; exact n25)
    have lg : ((∀ q, q < mR τ → P.1 (3000 + 1) q = P.1 (2000 + 1) q) ∧ ∀ j, j < mB τ → P.1 (3000 + 2) j = P.1 (2000 + 2) j) ↔ ((∀ q, q < mR τ → g_MrunAnew (u2 τ 5000 0 0) (-1) 0 0 0 (mR τ) (mB τ) (mK τ) (8000 + 1) q = u2 τ 5000 0 0 (7000 + 1) q) ∧ ∀ j, j < mB τ → g_MrunAnew (u2 τ 5000 0 0) (-1) 0 0 0 (mR τ) (mB τ) (mK τ) (8000 + 2) j = u2 τ 5000 0 0 (7000 + 2) j) := by
      refine and_congr (forall_congr' fun q => forall_congr' fun hq => ?_) (forall_congr' fun j => forall_congr' fun hj => ?_)
      · rw [ss (2000 + 1) (by decide), Q.p q hq, tq _ (by omega), show σ (2000 + 1) q = τ (7000 + 1) q from (rc.on c0).p q hq]
      · rw [ss (2000 + 2) (by decide), (Q.he j hj).1, tq _ (by omega), show σ (2000 + 2) j = τ (7000 + 2) j from ((rc.on c0).he j hj).1]
    rw [s7]
    refine ⟨fun ⟨h1, ⟨h2, h3⟩, h4⟩ => ⟨fun i hi => ⟨(pE i hi).mp (h3 i hi).1, fun q hq => ?_, fun q ne => (p3 (t51.symm.trans q)).2 i hi ne⟩, pR.mp h2, fun q => ?_, lg.mp h1⟩, fun ⟨h1, h2, h3, h4⟩ => ⟨lg.mpr h4, ⟨pR.mpr h2, fun j hj => ⟨(pE j hj).mpr (h1 j hj).1, (pH j hj).mpr fun q hq => ?_⟩⟩, fun q => ⟨(p3 q).1, ?_⟩⟩⟩
    · have := (pH i hi).mp (h3 i hi).2 q hq
      rw [hc i] at this
      exact this
    · have c := t51.symm.trans q
      rw [← agr c]
      exact (h4 c).2
    · have := (h1 j hj).2.1 q hq
      rw [hc j]
      exact this
    · rw [agr q]
      exact h3 (t51.trans q)
end
