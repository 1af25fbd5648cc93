/-! ===== bits ===== -/
section
variable {σ τ s t : XS9} {x y laid : Int32} {i j m C ch u qa : Nat} {rg : Nat → Nat}
theorem b_one : ∀ i, i < 32 → bt 1 i = decide (i = 0) := by decide +kernel
theorem b_bit (hj : j < 32) (hi : i < 32) : bt ((1 : Int32) <<< ((nI j) &&& 31)) i = decide (i = j) := by
  rw [b_shl j hj 1 hi]
  by_cases e : i = j
  · subst e
    rw [Nat.sub_self, b_one 0 (by decide)]
    simp
  · by_cases l : j ≤ i
    · rw [b_one (i - j) (by omega)]
      simp only [decide_eq_true l, Bool.true_and]
      rw [decide_eq_false (by omega), decide_eq_false e]
    · rw [decide_eq_false l, decide_eq_false e, Bool.false_and]
theorem b_tst1 (hj : j < 32) : (((x >>> ((nI j) &&& 31)) &&& 1) = 1 ↔ bt x j = true) ∧ (((x >>> ((nI j) &&& 31)) &&& 1) = 0 ↔ bt x j = false) := by
  have e : ∀ i, i < 32 → bt ((x >>> ((nI j) &&& 31)) &&& 1) i = (decide (i = 0) && bt x j) := fun i hi => by
    rw [b_and, b_one i hi, b_sshr j hj x hi]
    by_cases z : i = 0
    · subst z
      rw [if_pos (by omega), Nat.add_zero, Bool.and_comm]
    · rw [decide_eq_false z, Bool.and_false, Bool.false_and]
  cases h : bt x j with
  | true =>
    have v : (x >>> ((nI j) &&& 31)) &&& 1 = 1 := b_ext fun i hi => by rw [e i hi, h, b_one i hi, Bool.and_true]
    rw [v]
    exact ⟨⟨fun _ => rfl, fun _ => rfl⟩, ⟨fun q => absurd q (by decide), fun q => absurd q (by decide)⟩⟩
  | false =>
    have v : (x >>> ((nI j) &&& 31)) &&& 1 = 0 := b_ext fun i hi => by rw [e i hi, h, b_0, Bool.and_false]
    rw [v]
    exact ⟨⟨fun q => absurd q (by decide), fun q => absurd q (by decide)⟩, ⟨fun _ => rfl, fun _ => rfl⟩⟩
theorem b_tst2 (hj : j < 32) : (x &&& ((1 : Int32) <<< ((nI j) &&& 31))) = 0 ↔ bt x j = false := by
  refine ⟨fun h => ?_, fun h => b_ext fun i hi => ?_⟩
  · have := congrArg (fun v => bt v j) h
    rw [b_0] at this
    rw [b_and, b_bit hj hj, decide_eq_true rfl, Bool.and_true] at this
    exact this
  · rw [b_and, b_bit hj hi, b_0]
    by_cases e : i = j
    · rw [e, h, Bool.false_and]
    · rw [decide_eq_false e, Bool.and_false]
theorem b_dis : (x &&& y) = 0 ↔ ∀ i, i < 32 → bt x i = true → bt y i = false := by
  refine ⟨fun h i hi hx => ?_, fun h => b_ext fun i hi => ?_⟩
  · have := congrArg (fun v => bt v i) h
    rw [b_0] at this
    rw [b_and, hx, Bool.true_and] at this
    exact this
  · rw [b_and, b_0]
    cases e : bt x i with
    | true => rw [h i hi e, Bool.and_false]
    | false => rw [Bool.false_and]
theorem b_lo (hm : m < 2 ^ i) (hk : i ≤ j) : bt (nI m) j = false := by
  show (BitVec.ofNat 32 m).getLsbD j = false
  rw [BitVec.getLsbD_ofNat, Nat.testBit_lt_two_pow (Nat.lt_of_lt_of_le hm (Nat.pow_le_pow_right (by decide) hk)), Bool.and_false]
theorem bsubm {t m : Nat} (ht : t < 10) (hm : m < 2 ^ t) : nI (m + 2 ^ t) - ((1 : Int32) <<< (nI t &&& 31)) = nI m := by
  have e : ∀ t, t < 10 → ((1 : Int32) <<< (nI t &&& 31)) = nI (2 ^ t) := by decide +kernel
  rw [e t ht, nI_minus (Nat.le_add_left _ _), Nat.add_sub_cancel]
end
