/-! ===== what is asked of a bidder; what it pays ===== -/
section
variable {τ τ2 σ : XS9} {x y : Int32} {B R : Nat}
theorem out_eq (m : MKT τ σ) {i : Nat} (hi : i < 6) : f_isOut σ i = 0 ↔ τ (5020 + i) 4 = 0 := by
  have b := b_tst2 (x := σ 1003 5) (j := i) (by omega)
  unfold f_isOut
  by_cases c : ((σ 1003 5) &&& (1 <<< ((nI i) &&& 31))) = 0
  · rw [if_pos c]
    exact ⟨fun _ => (m.2.2 i hi).mp (b.mp c), fun _ => rfl⟩
  · rw [if_neg c]
    exact ⟨fun z => absurd z (by decide), fun z => absurd (b.mpr ((m.2.2 i hi).mpr z)) c⟩
theorem facts_b (h : RC τ σ) (r : JR τ) (a : RA τ σ) (z9 : RZ τ) (m : RM τ σ) (p : JP τ) {i k : Nat} (hi : i < mB τ) (hk : k ≤ 10) : f_bidderFact σ i k = f_MofBidderNow (u2 τ 5000 0 0) i (mR τ) (mB τ) (mpk τ) (mg τ) k := by
  have R5 := r.hR.2
  have B6 := r.hB.2
  have hi6 : i < 6 := by omega
  have e7 : ∀ q, q ≠ 5000 → u2 τ 5000 0 0 q = τ q := fun q hq => u2_ne hq
  obtain ⟨a0, a1, a2, a3⟩ := a.2.2.1 i hi6
  obtain ⟨⟨w1, w2⟩, v1, v2⟩ := codes_eq h hi B6
  have z7 : u2 τ 5000 0 0 7000 25 = 0 ↔ τ 5000 1 = 0 := by
    rw [e7 _ (by decide)]
    exact h.fl
  match k, hk with
  | 0, _ =>
    show σ 1014 i = u2 τ 5000 0 0 (5020 + i) 0
    rw [e7 _ (by omega)]
    exact a0
  | 1, _ =>
    show σ 2004 i = if u2 τ 5000 0 0 7000 25 = 0 then u2 τ 5000 0 0 (5020 + i) 1 else u2 τ 5000 0 0 (7000 + 3) i
    by_cases c : τ 5000 1 = 0
    · rw [if_pos (z7.mpr c), e7 _ (by omega), (h.off c).2.1 i hi6]
      exact a1
    · rw [if_neg (fun z => c (z7.mp z)), e7 _ (by omega)]
      exact (h.on c).el i hi
  | 2, _ =>
    show σ 1016 i = u2 τ 5000 0 0 (5020 + i) 2
    rw [e7 _ (by omega)]
    exact a2
  | 3, _ =>
    show σ 1017 i = u2 τ 5000 0 0 (5020 + i) 3
    rw [e7 _ (by omega)]
    exact a3
  | 4, _ =>
    show σ 2005 i = if u2 τ 5000 0 0 7000 25 = 0 then 2 else u2 τ 5000 0 0 (7000 + 4) i
    by_cases c : τ 5000 1 = 0
    · rw [if_pos (z7.mpr c)]
      exact (h.off c).2.2.2.1 i hi
    · rw [if_neg (fun z => c (z7.mp z)), e7 _ (by omega)]
      exact ((h.on c).wv i hi).1
  | 5, _ => exact v1
  | 6, _ => exact w1
  | 7, _ =>
    show f_total (σ 2003 i) 5 (σ 1011) = f_Mpoints (u2 τ 5000 0 0) (f_MwishedCode (u2 τ 5000 0 0) i (mg τ)) (mR τ)
    rw [← w1]
    exact last_eq (g := fun q => u2 τ 5000 0 0 (5010 + q) 1) w2 R5 (fun q hq => by
      (try dsimp only)
      rw [e7 _ (by omega)]
      exact (a.2.1 q (by omega)).2.1) (fun q h1 h2 => (a.2.1 q h2).2.1.trans (z9 q h1 h2).2.1)
  | 8, _ =>
    show σ 1020 i = nI (mpk τ i)
    rw [m.k.n hi6]
    unfold pkB
    rw [if_pos hi]
  | 9, _ =>
    show (if f_isOut σ i = 0 then (0 : Int32) else 1) = if u2 τ 5000 0 0 (5020 + i) 4 = 0 then 0 else 1
    rw [e7 _ (by omega)]
    have o := out_eq (m.all r p a).1 hi6
    by_cases c : τ (5020 + i) 4 = 0
    · rw [if_pos c, if_pos (o.mpr c)]
    · rw [if_neg c, if_neg (fun z => c (o.mp z))]
  | 10, _ =>
    show σ 2006 i = if u2 τ 5000 0 0 7000 25 = 0 then 0 else u2 τ 5000 0 0 (7000 + 5) i
    by_cases c : τ 5000 1 = 0
    · rw [if_pos (z7.mpr c)]
      exact ((h.off c).h i hi6).2.2
    · rw [if_neg (fun z => c (z7.mp z)), e7 _ (by omega)]
      exact (h.on c).co i hi
theorem says_ofBidder (h : RC τ σ) (r : JR τ) (a : RA τ σ) (z9 : RZ τ) (m : RM τ σ) (p : JP τ) : g_MofBidder τ x y (mR τ) (mB τ) (mpk τ) (mg τ) 5000 0 = lw_k [eIOB, eIAE] (o_ofBidder σ x y (mB τ)) ∧ ∀ w, o_ofBidder σ x y (mB τ) = .inl w → w = f_MofBidder τ x y (mR τ) (mB τ) (mpk τ) (mg τ) := by
  unfold g_MofBidder o_ofBidder f_MofBidder
  by_cases c1 : n_lt x (mB τ)
  · by_cases c2 : n_bt y 0 10
    · simp only [if_pos c1, if_pos c2]
      have hy := bd.bt (m := 10) c2 (by decide) rfl (by decide)
      exact fine0 (facts_b h r a z9 m p c1.2 hy.2)
    · simp only [if_pos c1, if_neg c2]
      exact bad rfl
  · simp only [if_neg c1]
    exact bad rfl
/-! credits -/
def RD (τ : XS9) : Prop := ∀ j, j < 6 → bd 30 (τ (5020 + j) 2)
theorem RD.of (h : RD τ) (e : ∀ j, j < 6 → τ2 (5020 + j) 2 = τ (5020 + j) 2) : RD τ2 := fun j hj => by
  rw [e j hj]
  exact h j hj
theorem RD.kept (h : RD τ) (m : MA τ τ2) : RD τ2 := h.of fun j hj => m _ _ (by unfold kb; omega)
theorem RD.s00 (h : RD τ) {x : Int32} : RD (u2 (u2 τ 5000 0 0) 5000 0 x) := h.kept MA.s00
theorem RD.init : RD s0M := fun j hj => by
  rw [s0M_50 (by omega)]
  exact bd.zero
theorem RD.region {x y v : Int32} (h : RD τ) (hR5 : R ≤ 5) : RD (g_Mregion τ x y v R) := by
  unfold g_Mregion
  (repeat' split) <;> first | with_reducible exact h.s00 | exact h.of fun j hj => by rw [u2_ne (by omega), uR_ne (by omega), u2_ne (by omega)] | exact h.s00
theorem RD.bidder {x y v u : Int32} (h : RD τ) (hB6 : B ≤ 6) : RD (g_Mbidder τ x y v u B) := by
  unfold g_Mbidder
  (repeat' split) <;> first | with_reducible exact h.s00 | skip
  rename_i hx hy hv hu h0 hn
  intro j hj
  by_cases e : j = B
  · rw [e, u2_ne (by omega), u2_ne (by omega), uR_eq]
    exact bd.bt (m := 30) hv (by decide) rfl (by decide)
  · rw [u2_ne (by omega), u2_ne (by omega), uR_ne (by omega), u2_ne (by omega)]
    exact h j hj
theorem RD.rules {x y : Int32} (h : RD τ) : RD (g_Mrules τ x y) := by
  unfold g_Mrules
  (repeat' split) <;> first | with_reducible exact h.s00 | exact h.of fun j hj => by rw [u2_ne (by omega), u2_ne (by omega), u2_ne (by omega)] | exact h.s00
theorem RD.knock (h : RD τ) : RD (g_Mknock τ) := by
  unfold g_Mknock
  exact h.of fun j hj => by rw [u2_ne (by omega), u2_ne (by omega)]
theorem RD.slot {q : Nat} {x : Int32} (h : RD τ) : RD (u2 τ q 3 x) := h.of fun j hj => u2_sl (by omega)
theorem RD.border {x y : Int32} (h : RD τ) (hR5 : R ≤ 5) : RD (g_Mborder τ x y R) := by
  unfold g_Mborder
  split
  · split
    · split
      · exact h.s00
      · split
        · exact (h.kept MA.s0).slot.slot
        · exact h.s00
    · exact h.s00
  · exact h.s00
theorem RD.station {x y : Int32} {C : Nat} (h : RD τ) : RD (g_Mstation τ x y R C) := by
  unfold g_Mstation g_addI
  (repeat' split) <;> first | with_reducible exact h.s00 | exact h.of fun j hj => by rw [u2_ne (by omega), u2_ne (by omega), u2_ne (by omega), u2_ne (by omega), u2_ne (by omega)] | exact h.s00
theorem RD.ask {x y : Int32} {C : Nat} (h : RD τ) : RD (g_Mask τ x y C) := by
  unfold g_Mask g_setS
  (repeat' split) <;> first | with_reducible exact h.s00 | exact h.of fun j hj => by rw [u2_ne (by omega), u2_ne (by omega), u2_ne (by omega)] | exact h.s00
/-! what is due -/
theorem l_div {m : Nat} (hm : m < 2147483648) : Int64.toInt32 (Int64.ofNat m / 100) = nI (m / 100) := by
  have h100 : (100 : Int64).toInt = 100 := by decide
  have e : (Int64.ofNat m / 100) = Int64.ofNat (m / 100) := by
    refine Int64.toInt_inj.mp ?_
    rw [Int64.toInt_div_of_ne_right _ _ (by decide), Int64.toInt_ofNat_of_lt (by omega), Int64.toInt_ofNat_of_lt (by omega), h100, Int.tdiv_eq_ediv_of_nonneg (by omega)]
    omega
  rw [e]
  exact Int64.toInt32_ofNat'
theorem due_eq {P c : Nat} (hP : P ≤ 1800000) (hc : c ≤ 30) : nI P * (100 - nI c) / 100 = nI (P * (100 - c) / 100) ∧ Int64.toInt32 (Int32.toInt64 (nI P) * Int32.toInt64 (100 - nI c) / 100) = nI (P * (100 - c) / 100) := by
  have e1 : (100 : Int32) - nI c = nI (100 - c) := nI_minus (a := 100) (b := c) (by omega)
  have b : P * (100 - c) ≤ 180000000 := calc P * (100 - c) ≤ 1800000 * 100 := Nat.mul_le_mul hP (by omega)
    _ ≤ 180000000 := by decide
  have m9 : Int32.maxValue.toInt = 2147483647 := rfl
  have t1 : Int32.toInt64 (nI P) = Int64.ofNat P := Int32.toInt64_ofNat' (by rw [m9]; omega)
  have t2 : Int32.toInt64 (nI (100 - c)) = Int64.ofNat (100 - c) := Int32.toInt64_ofNat' (by rw [m9]; omega)
  rw [e1, t1, t2, nI_mul, ← Int64.ofNat_mul]
  exact ⟨nI_div (m := P * (100 - c)) (k := 100) (by omega) (by decide) (by decide), l_div (by omega)⟩
theorem paid_eq (h : RM τ σ) (r : JR τ) (p : JP τ) (a : RA τ σ) (hst : σ 1000 7 = τ 5000 1) {i : Nat} (hi : i < mB τ) : ∃ P, P ≤ 300000 ∧ f_paymentOf σ i (aw σ) = nI P ∧ ((τ 5000 1 = 3 ∧ τ 5006 i = nI P) ∨ (¬ τ 5000 1 = 3 ∧ P = 0)) := by
  have B6 := r.hB.2
  unfold f_paymentOf
  rw [hst]
  by_cases c : τ 5000 1 = 3
  · have K := (h.n3 c).1
    have ew : aw σ = mwy τ := congrArg cn K.2.2
    obtain ⟨W, b, f, fw, _, _, _, _, pv⟩ := h.pay r p a
    obtain ⟨q1, q2, _⟩ := pv (mwy τ) r.hwy.2 i (by omega)
    have q3 := (fw.2.1 i (by omega)).1
    rw [if_pos c, ew]
    exact ⟨f (mwy τ) i, by omega, q1, .inl ⟨c, (K.2.1 i (by omega)).trans q1⟩⟩
  · rw [if_neg c]
    exact ⟨0, by decide, rfl, .inr ⟨c, rfl⟩⟩
theorem due_m (h : RM τ σ) (r : JR τ) (p : JP τ) (a : RA τ σ) (hst : σ 1000 7 = τ 5000 1) (d : RD τ) {t : XS9} (e1 : t 5000 1 = τ 5000 1) (e : ∀ q, 5001 ≤ q → q < 6000 → t q = τ q) {i : Nat} (hi : i < mB τ) : f_dueOf σ i (aw σ) = f_Mdue t i B := by
  have B6 := r.hB.2
  obtain ⟨P, hP, eP, hh⟩ := paid_eq h r p a hst hi
  obtain ⟨d1, d2⟩ := d i (by omega)
  have ec : σ 1016 i = τ (5020 + i) 2 := (a.2.2.1 i (by omega)).2.2.1
  obtain ⟨q1, q2⟩ := due_eq (P := P) (c := cn (τ (5020 + i) 2)) (by omega) d2
  rw [← d1] at q1 q2
  unfold f_dueOf f_Mdue
  rw [eP, ec, q1, e1, e 5006 (by decide) (by decide), e (5020 + i) (by omega) (by omega)]
  rcases hh with ⟨c, k⟩ | ⟨c, k⟩
  · rw [if_pos c, k]
    exact q2.symm
  · rw [if_neg c, k, Nat.zero_mul]
    rfl
theorem says_pays (h : RM τ σ) (r : JR τ) (p : JP τ) (a : RA τ σ) (hst : σ 1000 7 = τ 5000 1) (d : RD τ) : g_Mpays τ x y (mB τ) 5000 0 = lw_k [eIOB] (o_pays σ x y (mB τ) (aw σ)) ∧ ∀ w, o_pays σ x y (mB τ) (aw σ) = .inl w → w = f_Mpays τ x y (mB τ) := by
  unfold g_Mpays o_pays f_Mpays
  by_cases c1 : n_lt x (mB τ)
  · by_cases c2 : y = 0
    · simp only [if_pos c1, if_pos c2]
      refine fine0 ?_
      obtain ⟨P, hP, eP, hh⟩ := paid_eq h r p a hst c1.2
      unfold f_Mpaid
      rw [eP, u2_oi (by decide), u2_ne (by decide)]
      rcases hh with ⟨c, k⟩ | ⟨c, k⟩
      · rw [if_pos c, k]
      · rw [if_neg c, k]
        rfl
    · simp only [if_pos c1, if_neg c2]
      exact fine0 (due_m h r p a hst d (u2_oi (by decide)) (fun q h1 h2 => u2_ne (by omega)) c1.2)
  · simp only [if_neg c1]
    exact bad rfl
end
