/-! ===== pure facts: counts and flags of the reference's memory ===== -/
def ev (m : Nat) (v : Int32) : Prop := v = nI (2 * (cn v / 2)) ∧ cn v / 2 ≤ m
theorem ev.nat {m n : Nat} (h : n ≤ m) (hm : m < 1073741824) : ev m (nI (2 * n)) := by
  have e : cn (nI (2 * n)) = 2 * n := cn_nI (by omega)
  unfold ev
  rw [e, show 2 * n / 2 = n by omega]
  exact ⟨rfl, h⟩
theorem ev.zero {m : Nat} : ev m 0 := ⟨rfl, Nat.zero_le _⟩
def JA (σ : XS9) : Prop := bd 5 (σ 5001 900) ∧ bd 6 (σ 5002 900) ∧ bd 60 (σ 5003 900) ∧ (σ 5000 1 = 0 → σ 7000 20 = 0 ∧ σ 5003 900 = 0) ∧ (σ 7000 25 = 0 ∨ (σ 7000 25 = 1 ∧ σ 7000 20 = 1)) ∧ (σ 5000 1 = 1 → σ 7000 25 = 1 ∧ σ 7000 20 = 1) ∧
  (∀ b, (b = 7000 ∨ b = 8000) → bd 60 (σ b 21) ∧ bd 60 (σ b 22) ∧ bd 199 (σ b 23) ∧ bd 199 (σ b 24)) ∧ σ 7000 22 = σ 7000 21 ∧ (∀ j, j < 10 → ev 6 (σ (5030 + j) 900)) ∧ (∀ j, j < 6 → bd 3 (σ (5020 + j) 3)) ∧ (∀ j k, j < 6 → k < 6 → bd 7775 (σ (5030 + j) (2 * k))) ∧
  ev 10 (σ 5004 900) ∧ (∀ q, q < cn (σ 5004 900) / 2 → n_lt (σ 5004 (2 * q)) (cn (σ 5001 900))) ∧ (∀ r, r < 5 → bd 5 (σ 5007 r)) ∧ (∀ r, r < 5 → bd 5 (σ (5010 + r) 0)) ∧ (σ 5000 1 = 3 → ∀ j, j < cn (σ 5002 900) → σ 5005 j = -1 ∨ n_lt (σ 5005 j) (cn (σ (5030 + j) 900) / 2)) ∧ bd 2 (σ 5000 7)
def JF (σ : XS9) : Prop := (σ 9000 20 = 0 ∧ σ 8000 20 = 0) ∧ ∀ q, 20000 ≤ q → q < 20010 → σ q 20 = 0
theorem JF.mem {σ : XS9} (h : JF σ) : mem_eq σ σ := ⟨fun _ _ _ _ _ => rfl, ⟨⟨h.1.1, h.1.1⟩, h.1.2, h.1.2⟩, fun q a b => ⟨h.2 q a b, h.2 q a b⟩⟩
/-- the places that JA speaks of -/
def kr (q i : Nat) : Prop := (q = 5000 ∧ (i = 1 ∨ i = 7)) ∨ ((q = 5001 ∨ q = 5002 ∨ q = 5003) ∧ i = 900) ∨ (q = 5004 ∧ (i = 900 ∨ i % 2 = 0)) ∨ q = 5005 ∨ q = 5007 ∨ (5010 ≤ q ∧ q ≤ 5014 ∧ i = 0) ∨ (5020 ≤ q ∧ q ≤ 5025 ∧ i = 3) ∨ (5030 ≤ q ∧ q ≤ 5039 ∧ (i = 900 ∨ i % 2 = 0)) ∨ (q = 7000 ∧ 20 ≤ i ∧ i ≤ 25) ∨ (q = 8000 ∧ 21 ≤ i ∧ i ≤ 24)
theorem JA.of {σ σ' : XS9} (h : JA σ) (e : ∀ q i, kr q i → σ' q i = σ q i) : JA σ' := by
  have k : ∀ q i, kr q i → σ' q i = σ q i := e
  obtain ⟨h1, h2, h3, h4, h5, h6, h7, h8, h9, h10, h11, h12, h13, h14, h15, h16, h17⟩ := h
  have e1 := e 5001 900 (by unfold kr; omega)
  have e2 := e 5002 900 (by unfold kr; omega)
  have e3 := e 5003 900 (by unfold kr; omega)
  have e4 := e 5004 900 (by unfold kr; omega)
  have s1 := e 5000 1 (by unfold kr; omega)
  have s7 := e 5000 7 (by unfold kr; omega)
  have f20 := e 7000 20 (by unfold kr; omega)
  have f21 := e 7000 21 (by unfold kr; omega)
  have f22 := e 7000 22 (by unfold kr; omega)
  have f25 := e 7000 25 (by unfold kr; omega)
  refine ⟨by rw [e1]; exact h1, by rw [e2]; exact h2, by rw [e3]; exact h3, by rw [s1, f20, e3]; exact h4, by rw [f25, f20]; exact h5, by rw [s1, f25, f20]; exact h6, fun b hb => ?_, by rw [f22, f21]; exact h8, fun j hj => ?_, fun j hj => ?_, fun j k hj hk => ?_, by rw [e4]; exact h12, fun q hq => ?_, fun r hr => ?_, fun r hr => ?_, fun hs j hj => ?_, by rw [s7]; exact h17⟩
  · rw [e b 21 (by unfold kr; omega), e b 22 (by unfold kr; omega), e b 23 (by unfold kr; omega), e b 24 (by unfold kr; omega)]
    exact h7 b hb
  · rw [e _ _ (by unfold kr; omega)]; exact h9 j hj
  · rw [e _ _ (by unfold kr; omega)]; exact h10 j hj
  · rw [e _ _ (by unfold kr; omega)]; exact h11 j k hj hk
  · rw [e4] at hq
    rw [e _ _ (by unfold kr; omega), e1]
    exact h13 q hq
  · rw [e _ _ (by unfold kr; omega)]; exact h14 r hr
  · rw [e _ _ (by unfold kr; omega)]; exact h15 r hr
  · rw [s1] at hs
    rw [e2] at hj
    have hj6 : j < 6 := by have := h2.2; omega
    rw [e 5005 j (by unfold kr; omega), e (5030 + j) 900 (by unfold kr; omega)]
    exact h16 hs j hj
theorem JA.set {σ : XS9} (h : JA σ) {q i : Nat} {x : Int32} (hq : ¬ kr q i) : JA (u2 σ q i x) := h.of fun q9 i9 hk => by
  by_cases e : q9 = q
  · subst e
    exact u2_oi (fun e2 => hq (by rw [← e2]; exact hk))
  · rw [u2_ne e]
theorem JF.set {σ : XS9} (h : JF σ) {q i : Nat} {x : Int32} (hq : (i ≠ 20 ∨ (q ≠ 9000 ∧ q ≠ 8000 ∧ (q < 20000 ∨ 20010 ≤ q))) ∨ x = 0) : JF (u2 σ q i x) := by
  have g : ∀ q9, (q9 = 9000 ∨ q9 = 8000 ∨ (20000 ≤ q9 ∧ q9 < 20010)) → σ q9 20 = 0 → u2 σ q i x q9 20 = 0 := fun q9 h9 z => by
    by_cases e1 : q9 = q
    · by_cases e2 : 20 = i
      · subst e1
        subst e2
        rw [u2_at]
        rcases hq with w | w
        · omega
        · exact w
      · rw [show u2 σ q i x q9 20 = σ q9 20 from by subst e1; exact u2_oi e2]
        exact z
    · rw [u2_ne e1]
      exact z
  exact ⟨⟨g _ (.inl rfl) h.1.1, g _ (.inr (.inl rfl)) h.1.2⟩, fun q9 a b => g _ (.inr (.inr ⟨a, b⟩)) (h.2 q9 a b)⟩
theorem JF.rows {σ σ' : XS9} (h : JF σ) (e : ∀ q, (q = 9000 ∨ q = 8000 ∨ (20000 ≤ q ∧ q < 20010)) → σ' q 20 = σ q 20) : JF σ' := ⟨⟨(e _ (.inl rfl)).trans h.1.1, (e _ (.inr (.inl rfl))).trans h.1.2⟩, fun q a b => (e q (.inr (.inr ⟨a, b⟩))).trans (h.2 q a b)⟩
def JR (σ : XS9) : Prop := JA σ ∧ JF σ
theorem kr50 {i : Nat} (hi : i ≠ 1 ∧ i ≠ 7) : ¬ kr 5000 i := fun k => by unfold kr at k; omega
theorem JR.set {σ : XS9} (h : JR σ) {q i : Nat} {x : Int32} (hq : ¬ kr q i) (h9 : i ≠ 20 ∨ (q ≠ 9000 ∧ q ≠ 8000 ∧ (q < 20000 ∨ 20010 ≤ q))) : JR (u2 σ q i x) := ⟨h.1.set hq, h.2.set (.inl h9)⟩
theorem JR.s0 {σ : XS9} (h : JR σ) {x : Int32} : JR (u2 σ 5000 0 x) := h.set (kr50 (by decide)) (.inl (by decide))
theorem JR.s00 {σ : XS9} (h : JR σ) {x : Int32} : JR (u2 (u2 σ 5000 0 0) 5000 0 x) := h.s0.s0
/-- what is made in rows from 9000 on and dropped behind -/
theorem JR.hi {σ σ' : XS9} (h : JR σ) (e : ∀ q, q < 8000 ∨ q = 8000 → σ' q = σ q) (f : JF σ') : JR σ' := ⟨h.1.of fun q i hk => by rw [e q (by unfold kr at hk; omega)], f⟩
