/-! ===== what the cells name ===== -/
def cbd (C : XS9) : Prop := cn (C 5001 900) ≤ 5 ∧ cn (C 5002 900) ≤ 6 ∧ cn (C 5003 900) ≤ 60 ∧ (∀ j, j < 10 → cn (C (5030 + j) 900) ≤ 20) ∧ ∀ b, (b = 7000 ∨ b = 8000) → cn (C b 21) ≤ 60 ∧ cn (C b 22) ≤ 60 ∧ cn (C b 23) < 200 ∧ cn (C b 24) < 200
theorem box_ref {v : Int32} {e a : Nat} (h : Value.ref (xx_box v e) = .ref a) : a < 456 ∨ a = e := by
  have h9 : (_ : Nat) = a := Value.ref.inj h
  unfold xx_box at h9
  by_cases hs : xx_small v
  · rw [if_pos hs] at h9
    have := (small_nat hs).2
    left
    omega
  · rw [if_neg hs] at h9
    exact .inr h9.symm
theorem lyB_ref {C : XS9} {b i j a : Nat} {s : Nat → Int32} {c : XC} (hb : b = 7000 ∨ b = 8000) (h1 : cn (C b 21) ≤ 60) (h2 : cn (C b 22) ≤ 60) (h3 : cn (C b 23) < 200) (h4 : cn (C b 24) < 200) (e : lyB C b i s = some c) (hj : j < c.2.1) (hv : c.2.2 j = .ref a) : 5000 ≤ a ∧ a < 10200 := by
  unfold lyB at e
  by_cases w0 : i < 8
  · rw [if_pos w0] at e
    split at e <;> first | (cases e; done) | (cases e; dsimp only at hj hv; revert hv; (repeat' split) <;> intro hv <;> first | (cases hv; done) | (have h9 : (_ : Nat) = a := Value.ref.inj hv; omega))
  rw [if_neg w0] at e
  by_cases u0 : i < 200
  · rw [if_pos u0] at e
    split at e <;> first | (cases e; done) | (cases e; cases hv)
  rw [if_neg u0] at e
  by_cases u1 : i < 300
  · rw [if_pos u1] at e
    split at e <;> first | (cases e; done) | (cases e; cases hv)
  rw [if_neg u1] at e
  by_cases u2 : i < 700
  · rw [if_pos u2] at e
    split at e <;> first | (cases e; done) | (cases e; cases hv)
  rw [if_neg u2] at e
  by_cases u3 : i < 900
  · rw [if_pos u3] at e
    split at e <;> first | (cases e; done) | (cases e; cases hv)
  rw [if_neg u3] at e
  cases e
theorem lyQ_ref {z : Int64} {C : XS9} {r j a : Nat} {s : Nat → Int32} {c : XC} (hb : cbd C) (e : lyQ z C r s = some c) (hj : j < c.2.1) (hv : c.2.2 j = .ref a) : a < 456 ∨ (5000 ≤ a ∧ (r ≠ 5004 → a < 10200)) := by
  obtain ⟨b1, b2, b3, b4, b5⟩ := hb
  unfold lyQ at e
  by_cases w0 : r < 5010
  · rw [if_pos w0] at e
    by_cases x4 : r = 5004
    · subst x4
      cases e
      have h9 := box_ref hv
      rcases h9 with h9 | h9
      · exact .inl h9
      · right
        have := nmS_r (σ := C) j
        exact ⟨by omega, fun h => absurd rfl h⟩
    · right
      split at e <;> first | (cases e; done) | (exact absurd rfl x4) | (cases e; dsimp only at hj hv; revert hv; (repeat' split) <;> intro hv <;> first | (cases hv; done) | (have h9 : (_ : Nat) = a := Value.ref.inj hv; omega))
  rw [if_neg w0] at e
  by_cases u0 : r < 5020
  · rw [if_pos u0] at e
    split at e <;> first | (cases e; done) | (cases e; cases hv)
  rw [if_neg u0] at e
  by_cases u1 : r < 5030
  · rw [if_pos u1] at e
    right
    split at e
    · cases e
      dsimp only at hj hv
      by_cases k0 : j = 5
      · rw [if_pos k0] at hv
        have h9 : (_ : Nat) = a := Value.ref.inj hv
        omega
      · rw [if_neg k0] at hv
        cases hv
    · cases e
  rw [if_neg u1] at e
  by_cases u2 : r < 5040
  · rw [if_pos u2] at e
    split at e
    · cases e
      have h8 := b4 (r - 5030) (by omega)
      rw [show 5030 + (r - 5030) = r by omega] at h8
      have hj' : j < cn (C r 900) := hj
      rcases box_ref hv with h9 | h9
      · exact .inl h9
      · right
        unfold nmP at h9
        omega
    · cases e
  rw [if_neg u2] at e
  by_cases u3 : r < 5200
  · rw [if_pos u3] at e
    cases e
  rw [if_neg u3] at e
  by_cases u4 : r < 5300
  · rw [if_pos u4] at e
    right
    split at e
    · cases e
      dsimp only at hj hv
      by_cases k0 : j = 0
      · rw [if_pos k0] at hv
        cases hv
      · rw [if_neg k0] at hv
        have h9 : (_ : Nat) = a := Value.ref.inj hv
        omega
    · cases e
  rw [if_neg u4] at e
  by_cases u5 : r < 6000
  · rw [if_pos u5] at e
    cases e
  rw [if_neg u5] at e
  by_cases u6 : r < 6100
  · rw [if_pos u6] at e
    split at e <;> first | (cases e; done) | (cases e; cases hv)
  rw [if_neg u6] at e
  by_cases u7 : r < 6200
  · rw [if_pos u7] at e
    split at e <;> first | (cases e; done) | (cases e; cases hv)
  rw [if_neg u7] at e
  by_cases u8 : r < 6300
  · rw [if_pos u8] at e
    split at e <;> first | (cases e; done) | (cases e; cases hv)
  rw [if_neg u8] at e
  by_cases u9 : r < 6400
  · rw [if_pos u9] at e
    split at e <;> first | (cases e; done) | (cases e; cases hv)
  rw [if_neg u9] at e
  by_cases v0 : r < 7000
  · rw [if_pos v0] at e
    cases e
  rw [if_neg v0] at e
  by_cases v1 : r < 8000
  · rw [if_pos v1] at e
    split at e
    · cases e
    · obtain ⟨q1, q2, q3, q4⟩ := b5 7000 (.inl rfl)
      have := lyB_ref (.inl rfl) q1 q2 q3 q4 e hj hv
      exact .inr ⟨this.1, fun _ => this.2⟩
  rw [if_neg v1] at e
  by_cases v2 : r < 9000
  · rw [if_pos v2] at e
    split at e
    · cases e
    · obtain ⟨q1, q2, q3, q4⟩ := b5 8000 (.inr rfl)
      have := lyB_ref (.inr rfl) q1 q2 q3 q4 e hj hv
      exact .inr ⟨this.1, fun _ => this.2⟩
  rw [if_neg v2] at e
  by_cases v3 : r < 9010
  · rw [if_pos v3] at e
    split at e
    · cases e
    · right
      split at e <;> first | (cases e; done) | (cases e; dsimp only at hj hv; revert hv; (repeat' split) <;> intro hv <;> first | (cases hv; done) | (have h9 : (_ : Nat) = a := Value.ref.inj hv; omega))
  rw [if_neg v3] at e
  by_cases v4 : r < 10000
  · rw [if_pos v4] at e
    cases e
  rw [if_neg v4] at e
  by_cases v5 : r < 10200
  · rw [if_pos v5] at e
    split at e <;> first | (cases e; done) | (cases e; cases hv)
  rw [if_neg v5] at e
  by_cases v6 : r < 10300
  · rw [if_pos v6] at e
    split at e <;> first | (cases e; done) | (cases e; cases hv)
  rw [if_neg v6] at e
  by_cases v7 : r < 20000
  · rw [if_pos v7] at e
    cases e
  rw [if_neg v7] at e
  by_cases v8 : r < 20010
  · rw [if_pos v8] at e
    split at e <;> first | (cases e; done) | (cases e; cases hv)
  rw [if_neg v8] at e
  cases e
theorem lyK_ref {b i j a : Nat} {s : Nat → Int32} {c : XC} (hb : b = 2000 ∨ b = 3000) (hi : i < 1000) (e : lyK b i s = some c) (hj : j < c.2.1) (hv : c.2.2 j = .ref a) : 1000 ≤ a ∧ a < 4000 := by
  unfold lyK at e
  (repeat' split at e) <;> first | (cases e; done) | (cases e; dsimp only at hj hv; revert hv; (repeat' split) <;> intro hv <;> first | (cases hv; done) | (have h9 : (_ : Nat) = a := Value.ref.inj hv; omega))
theorem lyC_ref {r j a : Nat} {s : Nat → Int32} {c : XC} (hr : 1000 ≤ r ∧ r < 4000) (e : lyC r s = some c) (hj : j < c.2.1) (hv : c.2.2 j = .ref a) : 1000 ≤ a ∧ a < 4000 := by
  unfold lyC at e
  by_cases w0 : 3000 ≤ r
  · rw [if_pos w0] at e
    exact lyK_ref (.inr rfl) (by omega) e hj hv
  rw [if_neg w0] at e
  by_cases w1 : 2000 ≤ r
  · rw [if_pos w1] at e
    exact lyK_ref (.inl rfl) (by omega) e hj hv
  rw [if_neg w1] at e
  by_cases x1 : 1021 < r ∧ r ≤ 1027
  · rw [if_pos x1] at e; cases e; cases hv
  rw [if_neg x1] at e
  by_cases x2 : 1030 < r ∧ r ≤ 1036
  · rw [if_pos x2] at e; cases e; cases hv
  rw [if_neg x2] at e
  by_cases x3 : 1050 < r ∧ r ≤ 1114
  · rw [if_pos x3] at e; cases e; cases hv
  rw [if_neg x3] at e
  by_cases x4 : 1120 < r ∧ r ≤ 1124
  · rw [if_pos x4] at e; cases e; cases hv
  rw [if_neg x4] at e
  by_cases x5 : 1130 < r ∧ r ≤ 1133
  · rw [if_pos x5] at e; cases e; cases hv
  rw [if_neg x5] at e
  by_cases x6 : 1140 < r ∧ r ≤ 1145
  · rw [if_pos x6] at e; cases e; cases hv
  rw [if_neg x6] at e
  split at e <;> first | (cases e; done) | (cases e; cases hv; done) | (cases e; dsimp only at hj hv; revert hv; (repeat' split) <;> intro hv <;> first | (cases hv; done) | (have h9 : (_ : Nat) = a := Value.ref.inj hv; omega))
/-- no cell of the two sides names what lies between 4000 and 5000 -/
theorem mc_ref {h0 : XH} {z : Int64} {τ σ : XS9} {r j a : Nat} {c : XC} (h0b : ∀ r, 1000 ≤ r → h0 r = none) (h0c : ∀ (r : Nat) (c : XC) (j a : Nat), h0 r = some c → j < c.2.1 → c.2.2 j = .ref a → a < 1000) (hb : cbd (ctl τ)) (e : setM z τ (setC σ h0) r = some c) (hj : j < c.2.1) (hv : c.2.2 j = .ref a) : a < 4000 ∨ (5000 ≤ a ∧ (r ≠ 5004 → a < 10200)) := by
  unfold setM at e
  by_cases w : 5000 ≤ r ∧ r < 20010
  · rw [if_pos w] at e
    cases e9 : lyQ z (ctl τ) r (τ r) with
    | none =>
      rw [e9] at e
      have e' : setC σ h0 r = some c := e
      rw [setC_out (by omega), h0b r (by omega)] at e'
      cases e'
    | some c9 =>
      rw [e9] at e
      cases e
      rcases lyQ_ref hb e9 hj hv with h | h
      · left; omega
      · exact .inr h
  · rw [if_neg w] at e
    left
    unfold setC at e
    by_cases w2 : 1000 ≤ r ∧ r < 4000
    · rw [if_pos w2] at e
      exact (lyC_ref w2 e hj hv).2
    · rw [if_neg w2] at e
      have := h0c r c j a e hj hv
      omega
