/-! ===== clear, alike on both sides ===== -/
section
variable {τ σ : XS9} {x : Int32} {C ch : Nat}
theorem bt_nt {m j : Nat} (hj : j < 32) : bt (nI m) j = m.testBit j := by
  show (BitVec.ofNat 32 m).getLsbD j = m.testBit j
  rw [BitVec.getLsbD_ofNat, decide_eq_true hj, Bool.true_and]
/-- the asks of a set -/
def asN (t : Nat → Nat) (m C : Nat) : Nat := nsum (fun j => if m.testBit j then t j else 0) C
theorem asN_c {s : XS9} {t : Nat → Nat} {m : Nat} (hC10 : C ≤ 10) (h : ∀ j, j < C → s 1150 j = nI (t j)) : f_asksOf s (nI m) C = nI (asN t m C) := by
  have e : f_asksOf s (nI m) C = xsum (fun j => if m.testBit j then nI (t j) else 0) C := by
    unfold f_asksOf x_asksOf_4 xsum
    refine xit_cg (N := C) (fun j a hj => ?_) C 0 0 (Nat.zero_add _)
    have q := b_tst2 (x := nI m) (j := j) (by omega)
    rw [bt_nt (by omega)] at q
    (try dsimp only)
    cases z : m.testBit j with
    | true =>
      rw [if_neg (fun y => by rw [q.mp y] at z; cases z), if_pos rfl, h j hj]
    | false =>
      rw [if_pos (q.mpr z), if_neg (by decide), Int32.add_zero]
  rw [e]
  exact xsum_n fun j hj => by
    (try dsimp only)
    split <;> rfl
theorem asN_m {s : XS9} {p : XS9 × Int32 × Int32} {t : Nat → Nat} {m : Nat} (hC10 : C ≤ 10) (h : ∀ j, j < C → s 5004 (2 * j + 1) = nI (t j)) : x_MclearNow_41 s C p m 0 = nI (asN t m C) := by
  have e : x_MclearNow_41 s C p m 0 = xsum (fun j => if m.testBit j then nI (t j) else 0) C := by
    unfold x_MclearNow_41 xsum
    refine xit_cg (N := C) (fun j a hj => ?_) C 0 0 (Nat.zero_add _)
    have q := b_tst1 (x := nI m) (j := j) (by omega)
    rw [bt_nt (by omega)] at q
    (try dsimp only)
    cases z : m.testBit j with
    | true => rw [q.1.mpr z, Int32.one_mul, h j hj, if_pos rfl]
    | false => rw [q.2.mpr z, Int32.zero_mul, if_neg (by decide)]
  rw [e]
  exact xsum_n fun j hj => by
    (try dsimp only)
    split <;> rfl
theorem nsum_mono {d d2 : Nat → Nat} {N : Nat} (h : ∀ i, i < N → d i ≤ d2 i) : nsum d N ≤ nsum d2 N := by
  induction N with
  | zero => exact Nat.le_refl _
  | succ n ih =>
    have a := ih fun i hi => h i (by omega)
    have b := h n (by omega)
    show nsum d n + d n ≤ nsum d2 n + d2 n
    omega
theorem nsum_lt {d d2 : Nat → Nat} {N i : Nat} (h : ∀ i, i < N → d i ≤ d2 i) (hi : i < N) (hl : d i < d2 i) : nsum d N < nsum d2 N := by
  induction N with
  | zero => omega
  | succ n ih =>
    have b := h n (by omega)
    show nsum d n + d n < nsum d2 n + d2 n
    by_cases e : i = n
    · subst e
      have a := nsum_mono (d := d) (d2 := d2) (N := i) fun k hk => h k (by omega)
      omega
    · have a := ih (fun k hk => h k (by omega)) (by omega)
      omega
theorem all_bit {j : Nat} (hj : j < C) : (2 ^ C - 1).testBit j = true := by
  rw [Nat.testBit_two_pow_sub_one]
  exact decide_eq_true hj
theorem miss_bit : ∀ (C m : Nat), m < 2 ^ C - 1 → ∃ j, j < C ∧ m.testBit j = false := by
  intro C m h
  refine Classical.byContradiction fun n => ?_
  have e : m = 2 ^ C - 1 := by
    refine Nat.eq_of_testBit_eq fun j => ?_
    rw [Nat.testBit_two_pow_sub_one]
    rcases Nat.lt_or_ge j C with z | z
    · rw [decide_eq_true z]
      cases y : m.testBit j with
      | true => rfl
      | false => exact absurd ⟨j, z, y⟩ n
    · rw [decide_eq_false (Nat.not_lt_of_le z)]
      exact Nat.testBit_lt_two_pow (Nat.lt_of_lt_of_le (by omega) (Nat.pow_le_pow_right (by decide) z))
  omega
theorem asN_lt {t : Nat → Nat} {m : Nat} (h1 : ∀ j, j < C → 1 ≤ t j) (hm : m < 2 ^ C - 1) : asN t m C < asN t (2 ^ C - 1) C := by
  obtain ⟨j, hj, hb⟩ := miss_bit C m hm
  refine nsum_lt (i := j) (fun i hi => ?_) hj ?_
  · (try dsimp only)
    rw [all_bit hi, if_pos rfl]
    split
    · exact Nat.le_refl _
    · exact Nat.zero_le _
  · (try dsimp only)
    rw [all_bit hj, if_pos rfl, hb, if_neg (by decide)]
    exact h1 j hj
theorem asN_le {t : Nat → Nat} {m k : Nat} (h : ∀ j, j < C → t j ≤ k) : asN t m C ≤ k * C := nsum_le fun j hj => by
  (try dsimp only)
  split
  · exact h j hj
  · exact Nat.zero_le _
/-- the set that is left -/
theorem left_eq {C m : Nat} (hC10 : C ≤ 10) (hm : m < 2 ^ C) : nI (2 ^ C - 1) - nI m = nI (2 ^ C - 1) &&& (nI m ^^^ (-1)) := by
  rw [nI_minus (by omega)]
  have p10 := pow_le10 hC10
  refine b_ext fun i hi => ?_
  rw [b_and, b_xor, b_m1 i hi, bt_nt hi, bt_nt hi, bt_nt hi, Nat.testBit_two_pow_sub_one, show 2 ^ C - 1 - m = 2 ^ C - (m + 1) by omega, Nat.testBit_two_pow_sub_succ hm, Bool.xor_true]
end
