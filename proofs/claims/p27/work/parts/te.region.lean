/-! ===== what is asked of a region ===== -/
section
variable {τ σ : XS9} {x y : Int32}
theorem wished_n {σ : XS9} {b g B r : Nat} (hr : r < 5) (h : ∀ i, i < B → bd 7775 (σ (b + 500 + g) i)) : f_KwishedIn σ b r B g = nI (nsum (fun i => dgt (σ (b + 500 + g) i) r) B) := by
  show xsum (fun i => f_of (σ (b + 500 + g) i) r) B = _
  exact xsum_n fun i hi => of_d (h i hi) hr
theorem nsum_0 {N : Nat} : nsum (fun _ => 0) N = 0 := by
  induction N with
  | zero => rfl
  | succ n ih =>
    show nsum (fun _ => 0) n + 0 = 0
    rw [ih]
theorem together0 {f : Nat → Int32} {r : Nat} (hr : r < 5) (h : ∀ j, j < 6 → f j = 0) : f_together 6 f r = 0 := by
  rw [together_x, xsum_cut (N := 0) (M := 6) (fun j a b => by
    (try dsimp only)
    rw [h j b, many0 hr]) (Nat.zero_le _)]
  rfl
theorem heldT {q R B g w n : Nat} (hq5 : q < 5) (hB6 : B ≤ 6) (Q : KQ 2000 7000 R B g w n σ τ) : f_together 6 (σ 2002) q = f_KheldIn (u2 τ 5000 0 0) 7000 q B g := by
  have e7 : u2 τ 5000 0 0 (7000 + 2) = τ (7000 + 2) := u2_ne (by decide)
  have hE : ∀ j, j < B → σ 2002 j = τ (7000 + 2) j ∧ bd 7775 (τ (7000 + 2) j) := Q.he
  rw [together_n hq5 hB6 (fun i hi => by rw [(hE i hi).1]; exact (hE i hi).2) (fun j h1 h2 => Q.hz j h1 h2), held_n hq5 (fun i hi => by rw [e7]; exact (hE i hi).2)]
  refine congrArg nI (nsum_cg fun i hi => ?_)
  (try dsimp only)
  rw [e7, (hE i hi).1]
theorem wishedT {q R B g w n : Nat} (hq5 : q < 5) (hB6 : B ≤ 6) (Q : KQ 2000 7000 R B g w n σ τ) : f_together 6 (σ 2003) q = f_KwishedIn (u2 τ 5000 0 0) 7000 q B g := by
  have e7 : u2 τ 5000 0 0 (7000 + 500 + g) = τ (7000 + 500 + g) := u2_ne (by omega)
  have hE : ∀ j, j < B → σ 2003 j = τ (7000 + 500 + g) j ∧ bd 7775 (τ (7000 + 500 + g) j) := Q.wi
  rw [together_n hq5 hB6 (fun i hi => by rw [(hE i hi).1]; exact (hE i hi).2) (fun j h1 h2 => Q.wz j h1 h2), wished_n hq5 (fun i hi => by rw [e7]; exact (hE i hi).2)]
  refine congrArg nI (nsum_cg fun i hi => ?_)
  (try dsimp only)
  rw [e7, (hE i hi).1]
theorem facts_r (h : RC τ σ) (r : JR τ) (a : RA τ σ) {q k : Nat} (hq : q < mR τ) (hk : k ≤ 8) (hc : f_countIn σ (nI q) (mC τ) = f_MstationsIn (u2 τ 5000 0 0) (nI q) (mC τ)) : f_regionFact σ (mC τ) q k = f_MofRegionNow (u2 τ 5000 0 0) q (mR τ) (mB τ) (mC τ) (mg τ) k := by
  have R5 := r.hR.2
  have B6 := r.hB.2
  have hq5 : q < 5 := by omega
  have e7 : ∀ q, q ≠ 5000 → u2 τ 5000 0 0 q = τ q := fun q hq => u2_ne hq
  obtain ⟨a0, a1, a2, a3⟩ := a.2.1 q hq5
  have z7 : u2 τ 5000 0 0 7000 25 = 0 ↔ τ 5000 1 = 0 := by
    rw [e7 _ (by decide)]
    exact h.fl
  match k, hk with
  | 0, _ =>
    show σ 1010 q = u2 τ 5000 0 0 (5010 + q) 0
    rw [e7 _ (by omega)]
    exact a0
  | 1, _ =>
    show σ 1011 q = u2 τ 5000 0 0 (5010 + q) 1
    rw [e7 _ (by omega)]
    exact a1
  | 2, _ =>
    show σ 1012 q = u2 τ 5000 0 0 (5010 + q) 2
    rw [e7 _ (by omega)]
    exact a2
  | 3, _ =>
    show σ 2001 q = if u2 τ 5000 0 0 7000 25 = 0 then u2 τ 5000 0 0 (5010 + q) 2 else u2 τ 5000 0 0 (7000 + 1) q
    by_cases c : τ 5000 1 = 0
    · rw [if_pos (z7.mpr c), e7 _ (by omega), (h.off c).p q hq5]
      exact a2
    · rw [if_neg (fun z => c (z7.mp z)), e7 _ (by omega)]
      exact (h.on c).p q hq
  | 4, _ =>
    show f_together 6 (σ 2002) q = if u2 τ 5000 0 0 7000 25 = 0 then 0 else f_KheldIn (u2 τ 5000 0 0) 7000 q (mB τ) (mg τ)
    by_cases c : τ 5000 1 = 0
    · rw [if_pos (z7.mpr c)]
      exact together0 hq5 fun j hj => ((h.off c).h j hj).1
    · have Q := h.on c
      rw [if_neg (fun z => c (z7.mp z))]
      exact heldT hq5 B6 Q
  | 5, _ =>
    show f_together 6 (σ 2002) q - σ 1010 q = if u2 τ 5000 0 0 7000 25 = 0 then 0 - u2 τ 5000 0 0 (5010 + q) 0 else f_KheldIn (u2 τ 5000 0 0) 7000 q (mB τ) (mg τ) - u2 τ 5000 0 0 (5010 + q) 0
    by_cases c : τ 5000 1 = 0
    · rw [if_pos (z7.mpr c), together0 hq5 (fun j hj => ((h.off c).h j hj).1), e7 _ (by omega), a0]
    · rw [if_neg (fun z => c (z7.mp z)), heldT hq5 B6 (h.on c), a0, e7 (5010 + q) (by omega)]
  | 6, _ =>
    show f_together 6 (σ 2003) q = if u2 τ 5000 0 0 7000 25 = 0 then 0 else f_KwishedIn (u2 τ 5000 0 0) 7000 q (mB τ) (mg τ)
    by_cases c : τ 5000 1 = 0
    · rw [if_pos (z7.mpr c)]
      exact together0 hq5 fun j hj => ((h.off c).h j hj).2.1
    · rw [if_neg (fun z => c (z7.mp z))]
      exact wishedT hq5 B6 (h.on c)
  | 7, _ =>
    show σ 1013 q = u2 τ 5000 0 0 (5010 + q) 3
    rw [e7 _ (by omega)]
    exact a3
  | 8, _ => exact hc
theorem count_eq (a : RA τ σ) (r : JR τ) {v : Int32} : f_countIn σ v (mC τ) = f_MstationsIn (u2 τ 5000 0 0) v (mC τ) := by
  have C10 := r.hS.2
  unfold f_countIn f_MstationsIn x_countIn_4 x_MstationsIn_4
  refine xit_cg (N := mC τ) (fun i s hi => ?_) (mC τ) 0 0 (Nat.zero_add _)
  (try dsimp only)
  rw [u2_ne (show 5004 ≠ 5000 by decide), ← (a.2.2.2.2.1 i (by omega)).2]
  by_cases c : σ 1151 i = v
  · rw [if_pos c, if_pos c]
  · rw [if_neg c, if_neg c, Int32.add_zero]
theorem says_ofRegion (h : RC τ σ) (r : JR τ) (a : RA τ σ) : g_MofRegion τ x y (mR τ) (mB τ) (mC τ) (mg τ) 5000 0 = lw_k [eIOB, eIAE] (o_ofRegion σ x y (mR τ) (mC τ)) ∧ ∀ w, o_ofRegion σ x y (mR τ) (mC τ) = .inl w → w = f_MofRegion τ x y (mR τ) (mB τ) (mC τ) (mg τ) := by
  unfold g_MofRegion o_ofRegion f_MofRegion
  by_cases c1 : n_lt x (mR τ)
  · by_cases c2 : n_bt y 0 8
    · simp only [if_pos c1, if_pos c2]
      have hy := bd.bt (m := 8) c2 (by decide) rfl (by decide)
      exact fine0 (facts_r h r a c1.2 hy.2 (count_eq a r))
    · simp only [if_pos c1, if_neg c2]
      exact bad rfl
  · simp only [if_neg c1]
    exact bad rfl
end
