/-! ===== payments, alike on both sides ===== -/
def sOj (a p : Nat → Nat) (S j : Nat) : Nat := if S.testBit j = true then a j else p j
def sOs (a p : Nat → Nat) (S : Nat) : Nat := nsum (sOj a p S) 6
/-- by how much a set is left short -/
def oO (W a p : Nat → Nat) (S : Nat) : Int := (W S : Int) - (sOs a p S : Int)
/-- what worths and amounts are -/
def FWs (W a : Nat → Nat) (B : Nat) : Prop := (∀ S, S < 64 → W S ≤ 1800000 ∧ W S ≤ W 63 ∧ W (S &&& (2 ^ B - 1)) = W S) ∧ (∀ j, j < 6 → a j ≤ 300000 ∧ a j ≤ W 63 ∧ W 63 ≤ W (bclr 63 j) + a j) ∧ W 63 = nsum a 6 ∧ ∀ j, B ≤ j → j < 6 → a j = 0
/-- payments of the reference's: of nobody else anything -/
def PYm (a p : Nat → Nat) (B qa : Nat) (t : XS9) : Prop := (∀ j, j < 6 → t qa j = nI (p j)) ∧ ∀ j, j < B → f_Camount t j = nI (a j) ∧ (t 9001 j = -1 → a j = 0)
def stF (_ : Nat) (s53 : XS9) : XS9 ⊕ XS9 := (if (f_strongest s53) = (-1) then .inr s53 else .inl (g_raiseOutside s53 (f_strongest s53) (f_objection s53 (cn (f_strongest s53)) 2)))
def vE (w : XS9 ⊕ XS9) : XS9 := match w with | .inl s => s | .inr s => s
section
variable {s t : XS9} {W a p : Nat → Nat} {S B qa w m : Nat}
theorem nsum_cut {d : Nat → Nat} {N M : Nat} (h : ∀ j, N ≤ j → j < M → d j = 0) (hN : N ≤ M) : nsum d M = nsum d N := by
  induction M with
  | zero =>
    obtain rfl : N = 0 := by omega
    rfl
  | succ M ih =>
    by_cases e : N = M + 1
    · rw [e]
    · show nsum d M + d M = _
      rw [h M (by omega) (by omega), Nat.add_zero]
      exact ih (fun j h1 h2 => h j h1 (by omega)) (by omega)
theorem nsum_plus {d e : Nat → Nat} {N : Nat} : nsum (fun j => d j + e j) N = nsum d N + nsum e N := by
  induction N with
  | zero => rfl
  | succ n ih =>
    show nsum (fun j => d j + e j) n + (d n + e n) = nsum d n + d n + (nsum e n + e n)
    rw [ih]
    omega
theorem xsub {v : Nat → Nat} {x : Int32} {N : Nat} : xit (fun i (x : Int32) => x - nI (v i)) N 0 x = x - nI (nsum v N) := by
  induction N with
  | zero => exact (Int32.sub_zero x).symm
  | succ n ih =>
    rw [xit_last, ih]
    show x - nI (nsum v n) - nI (v n) = x - nI (nsum v n + v n)
    rw [Int32.sub_sub, nI_plus]
theorem obj_cw (hS : S < 64) (ha : ∀ j, j < 6 → s 1131 j = nI (a j)) (hp : ∀ j, j < 6 → s (1131 + w) j = nI (p j)) (hW : s 1041 S = nI (W S)) : f_objection s S w = nI (W S) - nI (sOs a p S) := by
  unfold f_objection
  rw [hW]
  refine Eq.trans (xit_cg (N := 6) (step' := fun i (x : Int32) => x - nI (sOj a p S i)) (fun i x hi => ?_) 6 0 (nI (W S)) rfl) xsub
  (try dsimp only)
  unfold sOj
  cases hb : S.testBit i with
  | false => rw [if_pos ((tst_c hS hi).mpr hb), if_neg (by decide), hp i hi]
  | true =>
    rw [if_neg (fun z => by rw [(tst_c hS hi).mp z] at hb; cases hb), if_pos rfl]
    exact congrArg (fun v => x - v) (ha i hi)
theorem obj_m (hS : S < 64) (hB6 : B ≤ 6) (P : PYm a p B qa t) (hpa : ∀ j, j < 6 → p j ≤ a j) (hz : ∀ j, B ≤ j → j < 6 → a j = 0) (hW : t 9003 S = nI (W S)) : f_Cobjection t S qa B = nI (W S) - nI (sOs a p S) := by
  unfold f_Cobjection f_Cworth
  rw [hW]
  have cut : sOs a p S = nsum (sOj a p S) B := nsum_cut (fun j h1 h2 => by
    unfold sOj
    have z := hz j h1 h2
    have := hpa j h2
    split <;> omega) hB6
  rw [cut]
  refine Eq.trans (xit_cg (N := B) (step' := fun i (x : Int32) => x - nI (sOj a p S i)) (fun i x hi => ?_) B 0 (nI (W S)) (Nat.zero_add _)) xsub
  (try dsimp only)
  obtain ⟨q1, q2⟩ := P.2 i hi
  unfold sOj
  cases hb : S.testBit i with
  | false =>
    rw [if_neg (fun z => by rw [(tst_m hS (by omega)).mp z] at hb; cases hb), if_neg (show ¬ false = true by decide), P.1 i (by omega)]
    by_cases c : t 9001 i = -1
    · have := hpa i (by omega)
      rw [if_pos c, show p i = 0 by have := q2 c; omega]
      rfl
    · rw [if_neg c]
  | true => rw [if_pos ((tst_m hS (by omega)).mpr hb), if_pos rfl, q1]
theorem sO_le (ha : ∀ j, j < 6 → a j ≤ 300000) (hp : ∀ j, j < 6 → p j ≤ a j) : sOs a p S ≤ 1800000 := nsum_le (k := 300000) fun j hj => by
  have := ha j hj
  have := hp j hj
  unfold sOj
  split <;> omega
theorem o_int {u v : Nat} (hu : u ≤ 1800000) (hv : v ≤ 1800000) : (nI u - nI v).toInt = (u : Int) - (v : Int) := by
  have a := toI_nI (k := u) (by omega)
  have b := toI_nI (k := v) (by omega)
  rw [i32_sub (by omega) (by omega), a, b]
/-- the program's strongest set -/
theorem strong_c (hF : FWs W a B) (P : PY a p s) (hpa : ∀ j, j < 6 → p j ≤ a j) (hW : ∀ S, S < 64 → s 1041 S = nI (W S)) : (f_strongest s = -1 ∧ ∀ S, S < 64 → oO W a p S ≤ 0) ∨ ∃ m, m < 64 ∧ f_strongest s = nI m ∧ 0 < oO W a p m ∧ (∀ S, S < 64 → oO W a p S ≤ oO W a p m) ∧ ∀ S, S < m → oO W a p S < oO W a p m := by
  have ob : ∀ S, S < 64 → (f_objection s S 2).toInt = oO W a p S := fun S hS => by
    rw [obj_cw (p := p) hS (fun j hj => (P j hj).1) (fun j hj => (P j hj).2) (hW S hS)]
    exact o_int (hF.1 S hS).1 (sO_le (fun j hj => (hF.2.1 j hj).1) hpa)
  have H := xit_ind (step := fun i7 (s7 : Int32 × Int32) => (if (f_objection s i7 2) ≤ s7.2 then (s7.1, s7.2) else (nI i7, f_objection s i7 2))) (fun i v => (v.1 = -1 ∧ v.2 = 0 ∧ ∀ S, S < i → oO W a p S ≤ 0) ∨ ∃ m, m < i ∧ v.1 = nI m ∧ v.2.toInt = oO W a p m ∧ 0 < oO W a p m ∧ (∀ S, S < i → oO W a p S ≤ oO W a p m) ∧ ∀ S, S < m → oO W a p S < oO W a p m) (N := 64) (fun i v hi hP => ?_) 64 0 (-1, 0) rfl (.inl ⟨rfl, rfl, fun S hS => absurd hS (by omega)⟩)
  · rcases H with ⟨h1, _, h3⟩ | ⟨m, h1, h2, _, h4, h5, h6⟩
    · exact .inl ⟨h1, h3⟩
    · exact .inr ⟨m, h1, h2, h4, h5, h6⟩
  · (try dsimp only)
    rcases hP with ⟨h1, h2, h3⟩ | ⟨m, h1, h2, h3, h4, h5, h6⟩
    · by_cases c : oO W a p i ≤ 0
      · rw [if_pos (show f_objection s i 2 ≤ v.2 by rw [i_le, ob i hi, h2]; exact c)]
        refine .inl ⟨h1, h2, fun S hS => ?_⟩
        by_cases e : S = i
        · rw [e]
          exact c
        · exact h3 S (by omega)
      · rw [if_neg (show ¬ f_objection s i 2 ≤ v.2 by rw [i_le, ob i hi, h2]; exact c)]
        refine .inr ⟨i, by omega, rfl, ob i hi, by omega, fun S hS => ?_, fun S hS => ?_⟩
        · by_cases e : S = i
          · rw [e]
            exact Int.le_refl _
          · have := h3 S (by omega)
            omega
        · have := h3 S hS
          omega
    · by_cases c : oO W a p i ≤ oO W a p m
      · rw [if_pos (show f_objection s i 2 ≤ v.2 by rw [i_le, ob i hi, h3]; exact c)]
        refine .inr ⟨m, by omega, h2, h3, h4, fun S hS => ?_, h6⟩
        by_cases e : S = i
        · rw [e]
          exact c
        · exact h5 S (by omega)
      · rw [if_neg (show ¬ f_objection s i 2 ≤ v.2 by rw [i_le, ob i hi, h3]; exact c)]
        refine .inr ⟨i, by omega, rfl, ob i hi, by omega, fun S hS => ?_, fun S hS => ?_⟩
        · by_cases e : S = i
          · rw [e]
            exact Int.le_refl _
          · have := h5 S (by omega)
            omega
        · have := h5 S hS
          omega
/-- the reference's -/
theorem strong_m (hF : FWs W a B) (hB6 : B ≤ 6) (P : PYm a p B qa t) (hpa : ∀ j, j < 6 → p j ≤ a j) (hW : ∀ S, S < 64 → t 9003 S = nI (W S)) : x_Cpay2_94 t qa B 0 < 2 ^ B ∧ (∀ S, S < 2 ^ B → oO W a p S ≤ oO W a p (x_Cpay2_94 t qa B 0)) ∧ (∀ S, S < x_Cpay2_94 t qa B 0 → oO W a p S < oO W a p (x_Cpay2_94 t qa B 0)) ∧ ∀ S, S < 64 → (f_Cobjection t S qa B).toInt = oO W a p S := by
  have p6 := pow_le6 hB6
  have ob : ∀ S, S < 64 → (f_Cobjection t S qa B).toInt = oO W a p S := fun S hS => by
    rw [obj_m hS hB6 P hpa hF.2.2.2 (hW S hS)]
    exact o_int (hF.1 S hS).1 (sO_le (fun j hj => (hF.2.1 j hj).1) hpa)
  have H := xit_ind (step := fun i94 (s94 : Nat) => (if (f_Cobjection t (1 + i94) qa B) ≤ (f_Cobjection t s94 qa B) then s94 else 1 + i94)) (fun i m => m ≤ i ∧ (∀ S, S ≤ i → oO W a p S ≤ oO W a p m) ∧ ∀ S, S < m → oO W a p S < oO W a p m) (N := 2 ^ B - 1) (fun i m hi hP => ?_) (2 ^ B - 1) 0 0 (Nat.zero_add _) ⟨Nat.le_refl _, fun S hS => by rw [show S = 0 by omega]; exact Int.le_refl _, fun S hS => absurd hS (by omega)⟩
  · obtain ⟨h1, h2, h3⟩ := H
    have p0 : 0 < 2 ^ B := Nat.pow_pos (by decide)
    have h1 : x_Cpay2_94 t qa B 0 ≤ 2 ^ B - 1 := h1
    exact ⟨by omega, fun S hS => h2 S (by omega), h3, ob⟩
  · obtain ⟨h1, h2, h3⟩ := hP
    (try dsimp only)
    by_cases c : oO W a p (1 + i) ≤ oO W a p m
    · rw [if_pos (show f_Cobjection t (1 + i) qa B ≤ f_Cobjection t m qa B by rw [i_le, ob _ (by omega), ob _ (by omega)]; exact c)]
      refine ⟨by omega, fun S hS => ?_, h3⟩
      by_cases e : S = 1 + i
      · rw [e]
        exact c
      · exact h2 S (by omega)
    · rw [if_neg (show ¬ f_Cobjection t (1 + i) qa B ≤ f_Cobjection t m qa B by rw [i_le, ob _ (by omega), ob _ (by omega)]; exact c)]
      refine ⟨by omega, fun S hS => ?_, fun S hS => ?_⟩
      · by_cases e : S = 1 + i
        · rw [e]
          exact Int.le_refl _
        · have := h2 S (by omega)
          omega
      · have := h2 S (by omega)
        omega
theorem and_lo (hS : S < 64) (hB6 : B ≤ 6) : (S &&& (2 ^ B - 1)) ≤ S ∧ (S &&& (2 ^ B - 1)) < 2 ^ B ∧ (∀ j, j < 6 → (S &&& (2 ^ B - 1)).testBit j = (S.testBit j && decide (j < B))) ∧ (S < 2 ^ B → (S &&& (2 ^ B - 1)) = S) := by
  have : ∀ S, S < 64 → ∀ B, B < 7 → (S &&& (2 ^ B - 1)) ≤ S ∧ (S &&& (2 ^ B - 1)) < 2 ^ B ∧ (∀ j, j < 6 → (S &&& (2 ^ B - 1)).testBit j = (S.testBit j && decide (j < B))) ∧ (S < 2 ^ B → (S &&& (2 ^ B - 1)) = S) := by decide +kernel
  exact this S hS B (by omega)
theorem oO_lo (hF : FWs W a B) (hB6 : B ≤ 6) (hpa : ∀ j, j < 6 → p j ≤ a j) (hS : S < 64) : oO W a p (S &&& (2 ^ B - 1)) = oO W a p S := by
  obtain ⟨l1, l2, l3, _⟩ := and_lo (B := B) hS hB6
  unfold oO
  rw [(hF.1 S hS).2.2, show sOs a p (S &&& (2 ^ B - 1)) = sOs a p S from nsum_cg fun j hj => by
    unfold sOj
    rw [l3 j hj]
    by_cases c : j < B
    · rw [decide_eq_true c, Bool.and_true]
    · have z := hF.2.2.2 j (by omega) hj
      have := hpa j hj
      rw [decide_eq_false c, Bool.and_false, if_neg (by decide)]
      split <;> omega]
/-- both find the same set, or none -/
theorem strong_eq (hF : FWs W a B) (hB6 : B ≤ 6) (P : PY a p s) (Q : PYm a p B qa t) (hpa : ∀ j, j < 6 → p j ≤ a j) (hWc : ∀ S, S < 64 → s 1041 S = nI (W S)) (hWm : ∀ S, S < 64 → t 9003 S = nI (W S)) : (f_strongest s = -1 ∧ (∀ S, S < 64 → oO W a p S ≤ 0) ∧ ¬ 0 < f_Cobjection t (x_Cpay2_94 t qa B 0) qa B) ∨ ∃ m, m < 2 ^ B ∧ f_strongest s = nI m ∧ x_Cpay2_94 t qa B 0 = m ∧ 0 < oO W a p m ∧ 0 < f_Cobjection t m qa B := by
  obtain ⟨m1, m2, m3, m4⟩ := strong_m hF hB6 Q hpa hWm
  have p6 := pow_le6 hB6
  rcases strong_c hF P hpa hWc with ⟨h1, h2⟩ | ⟨m, h1, h2, h3, h4, h5⟩
  · refine .inl ⟨h1, h2, fun z => ?_⟩
    rw [i_lt, m4 _ (by omega)] at z
    have := h2 (x_Cpay2_94 t qa B 0) (by omega)
    have z0 : (0 : Int32).toInt = 0 := rfl
    omega
  · obtain ⟨l1, l2, l3, l4⟩ := and_lo (B := B) h1 hB6
    have mB : m < 2 ^ B := by
      rcases Nat.lt_or_ge m (2 ^ B) with l | l
      · exact l
      · have a1 := h5 (m &&& (2 ^ B - 1)) (by omega)
        rw [oO_lo hF hB6 hpa h1] at a1
        omega
    have em : x_Cpay2_94 t qa B 0 = m := by
      rcases Nat.lt_trichotomy (x_Cpay2_94 t qa B 0) m with l | l | l
      · have a1 := h5 _ l
        have a2 := m2 m mB
        omega
      · exact l
      · have a1 := m3 _ l
        have a2 := h4 (x_Cpay2_94 t qa B 0) (by omega)
        omega
    refine .inr ⟨m, mB, h2, em, h3, ?_⟩
    rw [i_lt, m4 _ h1]
    exact h3
/-! the reference's raise -/
theorem ps_rest {n9 : Nat} {u9 : (Nat → Nat) × Nat} (h : ∀ k, n9 ≤ k → k < 6 → rmS a S u9.1 k = 0 ∨ u9.2 = 0) : ∀ (f i : Nat), i + f = 6 → n9 ≤ i → xit (stS a S) f i u9 = u9
  | 0, i, e, hi => rfl
  | f + 1, i, e, hi => by
    show xit (stS a S) f (i + 1) (stS a S i u9) = u9
    rw [show stS a S i u9 = u9 from if_pos ((h i hi (by omega)).symm)]
    exact ps_rest h f (i + 1) (by omega) (by omega)
end
