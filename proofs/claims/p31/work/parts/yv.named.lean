/-! ===== the blocks' holders are counted alike ===== -/
theorem hvw_val {w : Nat → Nat} {t b : Nat} : ∀ k, hvw w t b k = -1 ∨ ∃ j, j < 6 ∧ hvw w t b k = nI j
  | 0 => .inl rfl
  | k + 1 => by
    show (if cuw w t k ≤ b ∧ b < cuw w t (k + 1) then nI ((t + k) % 6) else hvw w t b k) = -1 ∨ ∃ j, j < 6 ∧ (if cuw w t k ≤ b ∧ b < cuw w t (k + 1) then nI ((t + k) % 6) else hvw w t b k) = nI j
    by_cases c : cuw w t k ≤ b ∧ b < cuw w t (k + 1)
    · rw [if_pos c]
      exact .inr ⟨_, Nat.mod_lt _ (by decide), rfl⟩
    · rw [if_neg c]
      exact hvw_val k
section
variable {τ σ s t : XS9} {R B N i r : Nat} {pk tn sp : Nat → Nat} {h : Nat → Int32}
def hcnt (h : Nat → Int32) (i N : Nat) : Int32 := xsum (fun b => if h b = nI i then (1 : Int32) else 0) N
theorem named_cnt (hh : ∀ b, b < N → h b = -1 ∨ ∃ j, j < 6 ∧ h b = nI j) (hH : ∀ u : XS9, (∀ q, q ≠ 20000 → u q = t q) → ∀ b, b < N → f_MholderNow u r (nI b) B tn = h b) (hN : sp r = N) : (∀ q, q ≠ 20000 → x_MareNamed_22 B sp tn r (uR t 20000 (rowN 6)) q = t q) ∧ ∀ i, i < 6 → x_MareNamed_22 B sp tn r (uR t 20000 (rowN 6)) 20000 i = hcnt h i N := by
  unfold x_MareNamed_22
  rw [hN]
  refine xit_ind (fun k (u : XS9) => (∀ q, q ≠ 20000 → u q = t q) ∧ ∀ i, i < 6 → u 20000 i = hcnt h i k) (N := N) (fun k u hk hP => ?_) N 0 _ (Nat.zero_add _) ⟨fun q hq => uR_ne hq, fun i hi => ?_⟩
  · obtain ⟨p1, p2⟩ := hP
    have e := hH u p1 k hk
    (try dsimp only)
    rw [e]
    have nx : ∀ i, hcnt h i (k + 1) = hcnt h i k + (if h k = nI i then 1 else 0) := fun i => by
      unfold hcnt
      rw [xsum_s]
    rcases hh k hk with z | ⟨j, j6, z⟩
    · rw [if_pos z]
      refine ⟨p1, fun i hi => ?_⟩
      rw [nx i, z, if_neg (fun q => absurd (show (-1 : Int32) = nI i from q) (by
        have : ∀ i, i < 6 → ¬ (-1 : Int32) = nI i := by decide
        exact this i hi)), Int32.add_zero]
      exact p2 i hi
    · have zn : ¬ nI j = -1 := by
        have : ∀ j, j < 6 → ¬ nI j = -1 := by decide
        exact this j j6
      rw [z, if_neg zn, cn_nI (by omega)]
      refine ⟨fun q hq => (u2_ne hq).trans (p1 q hq), fun i hi => ?_⟩
      rw [nx i, z]
      by_cases c : i = j
      · rw [c, u2_at, if_pos rfl, p2 j j6]
      · rw [u2_oi c, if_neg (fun q => c (nI_inj (by omega) (by omega) q).symm), Int32.add_zero]
        exact p2 i hi
  · rw [uR_eq]
    unfold rowN
    rw [if_neg (by omega), if_neg (by omega)]
    rfl
theorem held_cnt : f_heldBy s (nI i) r = hcnt (s (1141 + r)) i 5 := by
  unfold f_heldBy x_heldBy_5 hcnt
  exact xit_cg (N := 5) (fun k a hk => by
    (try dsimp only)
    by_cases c : s (1141 + r) k = nI i
    · rw [if_pos c, if_pos c]
    · rw [if_neg c, if_neg c, Int32.add_zero]) 5 0 0 rfl
/-- what a winner won of a region -/
theorem won_r (m : RM τ σ) (r9 : JR τ) (hs : τ 5000 1 = 3) (hi : i < mB τ) (hr : r < mR τ) : f_blocksWon σ i r = if τ 5005 i = -1 then 0 else f_of (τ (5030 + i) (2 * cn (τ 5005 i))) r := by
  have R5 := r9.hR.2
  have B6 := r9.hB.2
  have k6 := (r9.hpk i hi).2
  unfold f_blocksWon
  rw [← (m.n3 hs).1.1 i (by omega)]
  rcases r9.hkp hs i hi with z | ⟨n, n1, n2⟩
  · rw [if_pos z, if_pos (by rw [z]; decide)]
  · have ne : ¬ τ 5005 i = -1 := fun q => by
      rw [n2] at q
      have : ∀ n, n < 6 → ¬ nI n = -1 := by decide
      exact this n (by omega) q
    have n0 : ¬ nI n < (0 : Int32) := fun q => absurd ((nlt (a := n) (b := 0) (by omega) (by omega)).mp q) (by omega)
    have n6 : ¬ (6 : Int32) ≤ nI n := fun q => absurd ((nle (a := 6) (b := n) (by omega) (by omega)).mp q) (by omega)
    have ec : Int32.toNatClampNeg (nI n) = n := cn_nI (by omega)
    rw [if_neg ne, n2, if_neg n0, if_neg n6, ec, cn_nI (by omega), m.k.cd hi n1]
    exact many_of (Dm_bd r9 hi n1) (by omega)
theorem amt_w (m : RM τ σ) (r9 : JR τ) (hs : τ 5000 1 = 3) (hi : i < mB τ) (ne : ¬ τ 5005 i = -1) : f_amountWon σ i = τ (5030 + i) (2 * cn (τ 5005 i) + 1) := by
  have B6 := r9.hB.2
  have k6 := (r9.hpk i hi).2
  unfold f_amountWon
  rw [← (m.n3 hs).1.1 i (by omega)]
  rcases r9.hkp hs i hi with z | ⟨n, n1, n2⟩
  · exact absurd z ne
  · have n0 : ¬ nI n < (0 : Int32) := fun q => absurd ((nlt (a := n) (b := 0) (by omega) (by omega)).mp q) (by omega)
    have n6 : ¬ (6 : Int32) ≤ nI n := fun q => absurd ((nle (a := 6) (b := n) (by omega) (by omega)).mp q) (by omega)
    have ec : Int32.toNatClampNeg (nI n) = n := cn_nI (by omega)
    rw [n2, if_neg n0, if_neg n6, ec, cn_nI (by omega)]
    exact m.k.a hi n1
theorem agree_eq (m : RM τ σ) (r9 : JR τ) (p : JP τ) (a : RA τ σ) (hs : τ 5000 1 = 3) (es : ∀ q, q < 3000 → s q = σ q) (e1 : t 5000 1 = τ 5000 1) (e : ∀ q, 5001 ≤ q → q < 6000 → t q = τ q) : x_agreeWith_2 s (mR τ) (mB τ) () = x_MareNamed_2 t (mR τ) (mB τ) (msp τ) (mtn τ) pk () := by
  have R5 := r9.hR.2
  have B6 := r9.hB.2
  have NM := m.n3 hs
  have cnt : ∀ r, r < mR τ → (∀ q, q ≠ 20000 → x_MareNamed_22 (mB τ) (msp τ) (mtn τ) r (uR t 20000 (rowN 6)) q = t q) ∧ ∀ i, i < 6 → x_MareNamed_22 (mB τ) (msp τ) (mtn τ) r (uR t 20000 (rowN 6)) 20000 i = f_heldBy s (nI i) r := fun r hr => by
    obtain ⟨n1, n2⟩ := named_cnt (t := t) (r := r) (B := mB τ) (tn := mtn τ) (sp := msp τ) (h := fun b => hvw (wK τ r) (mtn τ r) b 6) (N := msp τ r) (fun b _ => hvw_val 6) (fun u hu b hb => by
      have k5 := (r9.hsp r hr).2
      have H := (NM3.holds r9 m.k p hs).of (v := u) fun q hq => (hu q (by omega)).trans (e q (by omega) (by omega))
      unfold f_MholderNow
      rw [if_pos (by rw [hu _ (by decide), e1]; exact hs)]
      exact H.at hr B6 (by omega)) rfl
    refine ⟨n1, fun i hi => (n2 i hi).trans ?_⟩
    have k5 := (r9.hsp r hr).2
    rw [held_cnt]
    unfold hcnt
    refine Eq.symm ((xsum_cut (N := msp τ r) (M := 5) (fun b h1 h2 => ?_) k5).trans (xsum_cg fun b hb => ?_))
    · (try dsimp only)
      rw [es _ (by omega), NM.2.1 r hr b h2]
      unfold hro
      rw [if_neg (show ¬ b < msp τ r by omega)]
      have : ∀ i, i < 6 → ¬ (-1 : Int32) = nI i := by decide
      exact if_neg (this i hi)
    · (try dsimp only)
      rw [es _ (by omega), NM.2.1 r hr b (by omega)]
      unfold hro
      rw [if_pos hb]
  have inner : ∀ r, r < mR τ → x_agreeWith_16 s (mR τ) (mB τ) r 0 = x_MareNamed_73 t (mB τ) (msp τ) (mtn τ) pk r 0 := fun r hr => by
    obtain ⟨n1, n2⟩ := cnt r hr
    unfold x_agreeWith_16 x_MareNamed_73
    refine xitR_cg (fun i acc hi => ?_) (mB τ) 0 0 (Nat.zero_add _)
    (try dsimp only)
    have w := won_r m r9 hs hi hr
    have ew : f_blocksWon s i r = f_blocksWon σ i r := by
      unfold f_blocksWon
      rw [es _ (by decide), es _ (by omega)]
    have c := n2 i (by omega)
    generalize x_MareNamed_22 (mB τ) (msp τ) (mtn τ) r (uR t 20000 (rowN 6)) = U at n1 c ⊢
    have eb : f_Bcode U i (cn (τ 5005 i)) = τ (5030 + i) (2 * cn (τ 5005 i)) := by
      unfold f_Bcode
      rw [n1 _ (by omega), e _ (by omega) (by omega)]
    rw [ew, w, c, e 5005 (by decide) (by decide), eb]
    by_cases k : τ 5005 i = -1
    · rw [if_pos k, if_pos k]
      by_cases q : f_heldBy s (nI i) r = 0
      · rw [if_pos q, if_pos q, q]
      · rw [if_neg q, if_neg q]
    · rw [if_neg k, if_neg k]
      by_cases q : f_heldBy s (nI i) r = f_of (τ (5030 + i) (2 * cn (τ 5005 i))) r
      · rw [if_pos q, if_pos q, q]
      · rw [if_neg q, if_neg q]
  unfold x_agreeWith_2 x_MareNamed_2
  refine xitR_cg (fun r u hr => ?_) (mR τ) 0 () (Nat.zero_add _)
  (try dsimp only)
  rw [inner r hr, es _ (by decide), (a.2.1 r (by omega)).1, (r9.hsp r hr).1]
  generalize x_MareNamed_73 t (mB τ) (msp τ) (mtn τ) pk r 0 = w
  cases w with
  | inl v => rfl
  | inr v => rfl
end
