/-! ===== small numbers ===== -/
theorem nI_mul (a b : Nat) : nI a * nI b = nI (a * b) := (Int32.ofNat_mul a b).symm
theorem nI_plus (a b : Nat) : nI a + nI b = nI (a + b) := (Int32.ofNat_add a b).symm
theorem nI_minus {a b : Nat} (h : b ≤ a) : nI a - nI b = nI (a - b) := (Int32.ofNat_sub a b h).symm
theorem nI_div {m k : Nat} (hm : m < 2147483648) (hk0 : 0 < k) (hk : k < 2147483648) : nI m / nI k = nI (m / k) := by
  have h1 : m / k ≤ m := Nat.div_le_self _ _
  refine Int32.toInt_inj.mp ?_
  rw [Int32.toInt_div_of_ne_right _ _ (fun e => by have h9 := congrArg Int32.toInt e; rw [nI_toInt hk] at h9; have h8 : (-1 : Int32).toInt = -1 := rfl; omega), nI_toInt hm, nI_toInt hk, nI_toInt (by omega)]
  rw [Int.tdiv_eq_ediv_of_nonneg (by omega)]
  omega
theorem nI_rem {m k : Nat} (hm : m < 2147483648) (hk0 : 0 < k) (hk : k < 2147483648) : nI m - nI m / nI k * nI k = nI (m % k) := by
  rw [nI_div hm hk0 hk, nI_mul, nI_minus (Nat.div_mul_le_self m k)]
  congr 1
  have := Nat.div_add_mod m k
  rw [Nat.mul_comm] at this
  omega
theorem or_bit {S i : Nat} (hS : S < 64) (hi : i < 6) : nI S ||| ((1 : Int32) <<< (nI i &&& 31)) = nI (S ||| 2 ^ i) := by
  have : ∀ S, S < 64 → ∀ i, i < 6 → nI S ||| ((1 : Int32) <<< (nI i &&& 31)) = nI (S ||| 2 ^ i) := by decide +kernel
  exact this S hS i hi
theorem or_bit_lt {S i : Nat} (hS : S < 64) (hi : i < 6) : S ||| 2 ^ i < 64 := by
  have : ∀ S, S < 64 → ∀ i, i < 6 → S ||| 2 ^ i < 64 := by decide +kernel
  exact this S hS i hi
theorem one_bit {i : Nat} (hi : i < 6) : (1 : Int32) <<< (nI i &&& 31) = nI (2 ^ i) := by
  have : ∀ i, i < 6 → (1 : Int32) <<< (nI i &&& 31) = nI (2 ^ i) := by decide +kernel
  exact this i hi
theorem one_bit_lt {i : Nat} (hi : i < 6) : 2 ^ i < 64 := by
  have : ∀ i, i < 6 → 2 ^ i < 64 := by decide
  exact this i hi
