/-! ===== pure facts: counts and flags of the reference's memory ===== -/
def ev (m : Nat) (v : Int32) : Prop := v = nI (2 * (cn v / 2)) ∧ cn v / 2 ≤ m
theorem ev.nat {m n : Nat} (h : n ≤ m) (hm : m < 1073741824) : ev m (nI (2 * n)) := by
  have e : cn (nI (2 * n)) = 2 * n := cn_nI (by omega)
  unfold ev
  rw [e, show 2 * n / 2 = n by omega]
  exact ⟨rfl, h⟩
theorem ev.zero {m : Nat} : ev m 0 := ⟨rfl, Nat.zero_le _⟩
def JA (σ : XS9) : Prop := bd 5 (σ 5001 900) ∧ bd 6 (σ 5002 900) ∧ bd 60 (σ 5003 900) ∧ (σ 5000 1 = 0 → σ 7000 20 = 0 ∧ σ 5003 900 = 0) ∧ (σ 7000 25 = 0 ∨ (σ 7000 25 = 1 ∧ σ 7000 20 = 1)) ∧ (σ 5000 1 = 1 → σ 7000 25 = 1 ∧ σ 7000 20 = 1) ∧
  (∀ b, (b = 7000 ∨ b = 8000) → bd 60 (σ b 21) ∧ bd 60 (σ b 22) ∧ bd 199 (σ b 23) ∧ bd 199 (σ b 24)) ∧ σ 7000 22 = σ 7000 21 ∧ (∀ j, j < 10 → ev 6 (σ (5030 + j) 900)) ∧ (∀ j, j < 6 → bd 3 (σ (5020 + j) 3)) ∧ (∀ j k, j < 6 → k < 6 → bd 7775 (σ (5030 + j) (2 * k))) ∧
  ev 10 (σ 5004 900) ∧ (∀ q, q < cn (σ 5004 900) / 2 → n_lt (σ 5004 (2 * q)) (cn (σ 5001 900))) ∧ (∀ r, r < 5 → bd 5 (σ 5007 r)) ∧ (∀ r, r < 5 → bd 5 (σ (5010 + r) 0)) ∧ (σ 5000 1 = 3 → ∀ j, j < cn (σ 5002 900) → σ 5005 j = -1 ∨ n_lt (σ 5005 j) (cn (σ (5030 + j) 900) / 2)) ∧ bd 2 (σ 5000 7)
def JF (σ : XS9) : Prop := (σ 9000 20 = 0 ∧ σ 8000 20 = 0) ∧ ∀ q, 20000 ≤ q → q < 20010 → σ q 20 = 0
theorem JF.mem {σ : XS9} (h : JF σ) : mem_eq σ σ := ⟨fun _ _ _ _ _ => rfl, ⟨⟨h.1.1, h.1.1⟩, h.1.2, h.1.2⟩, fun q a b => ⟨h.2 q a b, h.2 q a b⟩⟩
/-- the places that JA speaks of -/
def kr (q i : Nat) : Prop := (q = 5000 ∧ (i = 1 ∨ i = 7)) ∨ ((q = 5001 ∨ q = 5002 ∨ q = 5003) ∧ i = 900) ∨ (q = 5004 ∧ (i = 900 ∨ i % 2 = 0)) ∨ q = 5005 ∨ q = 5007 ∨ (5010 ≤ q ∧ q ≤ 5014 ∧ i = 0) ∨ (5020 ≤ q ∧ q ≤ 5025 ∧ i = 3) ∨ (5030 ≤ q ∧ q ≤ 5039 ∧ (i = 900 ∨ i % 2 = 0)) ∨ (q = 7000 ∧ 20 ≤ i ∧ i ≤ 25) ∨ (q = 8000 ∧ 21 ≤ i ∧ i ≤ 24)
theorem kr_5000_1 : kr 5000 1 := by unfold kr; omega
theorem kr_5000_7 : kr 5000 7 := by unfold kr; omega
theorem kr_5001_900 : kr 5001 900 := by unfold kr; omega
theorem kr_5002_900 : kr 5002 900 := by unfold kr; omega
theorem kr_5003_900 : kr 5003 900 := by unfold kr; omega
theorem kr_5004_900 : kr 5004 900 := by unfold kr; omega
theorem kr_7000_20 : kr 7000 20 := by unfold kr; omega
theorem kr_7000_21 : kr 7000 21 := by unfold kr; omega
theorem kr_7000_22 : kr 7000 22 := by unfold kr; omega
theorem kr_7000_23 : kr 7000 23 := by unfold kr; omega
theorem kr_7000_24 : kr 7000 24 := by unfold kr; omega
theorem kr_7000_25 : kr 7000 25 := by unfold kr; omega
theorem kr_07 {r : Nat} : kr 5007 r := by unfold kr; omega
theorem kr_05 {j : Nat} : kr 5005 j := by unfold kr; omega
theorem kr_04 {q : Nat} : kr 5004 (2 * q) := by unfold kr; omega
theorem kr_30 {j : Nat} (h : j < 10) : kr (5030 + j) 900 := by unfold kr; omega
theorem kr_3k {j k : Nat} (h : j < 10) : kr (5030 + j) (2 * k) := by unfold kr; omega
theorem kr_20 {j : Nat} (h : j < 6) : kr (5020 + j) 3 := by unfold kr; omega
theorem kr_10 {r : Nat} (h : r < 5) : kr (5010 + r) 0 := by unfold kr; omega
theorem kr_bj {b j : Nat} (hb : b = 7000 ∨ b = 8000) (h1 : 21 ≤ j) (h2 : j ≤ 24) : kr b j := by
  rcases hb with rfl | rfl
  · unfold kr; omega
  · unfold kr; omega
theorem JA.of {σ σ' : XS9} (h : JA σ) (e : ∀ q i, kr q i → σ' q i = σ q i) : JA σ' := by
  have k : ∀ q i, kr q i → σ' q i = σ q i := e
  obtain ⟨h1, h2, h3, h4, h5, h6, h7, h8, h9, h10, h11, h12, h13, h14, h15, h16, h17⟩ := h
  have e1 := e 5001 900 kr_5001_900
  have e2 := e 5002 900 kr_5002_900
  have e3 := e 5003 900 kr_5003_900
  have e4 := e 5004 900 kr_5004_900
  have s1 := e 5000 1 kr_5000_1
  have s7 := e 5000 7 kr_5000_7
  have f20 := e 7000 20 kr_7000_20
  have f21 := e 7000 21 kr_7000_21
  have f22 := e 7000 22 kr_7000_22
  have f25 := e 7000 25 kr_7000_25
  refine ⟨by rw [e1]; exact h1, by rw [e2]; exact h2, by rw [e3]; exact h3, by rw [s1, f20, e3]; exact h4, by rw [f25, f20]; exact h5, by rw [s1, f25, f20]; exact h6, fun b hb => ?_, by rw [f22, f21]; exact h8, fun j hj => ?_, fun j hj => ?_, fun j k hj hk => ?_, by rw [e4]; exact h12, fun q hq => ?_, fun r hr => ?_, fun r hr => ?_, fun hs j hj => ?_, by rw [s7]; exact h17⟩
  · rw [e b 21 (kr_bj hb (by decide) (by decide)), e b 22 (kr_bj hb (by decide) (by decide)), e b 23 (kr_bj hb (by decide) (by decide)), e b 24 (kr_bj hb (by decide) (by decide))]
    exact h7 b hb
  · rw [e _ _ (kr_30 (by omega))]; exact h9 j hj
  · rw [e _ _ (kr_20 (by omega))]; exact h10 j hj
  · rw [e _ _ (kr_3k (by omega))]; exact h11 j k hj hk
  · rw [e4] at hq
    rw [e _ _ kr_04, e1]
    exact h13 q hq
  · rw [e _ _ kr_07]; exact h14 r hr
  · rw [e _ _ (kr_10 (by omega))]; exact h15 r hr
  · rw [s1] at hs
    rw [e2] at hj
    have hj6 : j < 6 := by have := h2.2; omega
    rw [e 5005 j kr_05, e (5030 + j) 900 (kr_30 (by omega))]
    exact h16 hs j hj
theorem JA.set {σ : XS9} (h : JA σ) {q i : Nat} {x : Int32} (hq : ¬ kr q i) : JA (u2 σ q i x) := h.of fun q9 i9 hk => by
  by_cases e : q9 = q
  · subst e
    exact u2_oi (fun e2 => hq (by rw [← e2]; exact hk))
  · rw [u2_ne e]
theorem JF.set {σ : XS9} (h : JF σ) {q i : Nat} {x : Int32} (hq : (i ≠ 20 ∨ (q ≠ 9000 ∧ q ≠ 8000 ∧ (q < 20000 ∨ 20010 ≤ q))) ∨ x = 0) : JF (u2 σ q i x) := by
  have g : ∀ q9, (q9 = 9000 ∨ q9 = 8000 ∨ (20000 ≤ q9 ∧ q9 < 20010)) → σ q9 20 = 0 → u2 σ q i x q9 20 = 0 := fun q9 h9 z => by
    by_cases e1 : q9 = q
    · by_cases e2 : 20 = i
      · subst e1
        subst e2
        rw [u2_at]
        rcases hq with w | w
        · omega
        · exact w
      · rw [show u2 σ q i x q9 20 = σ q9 20 from by subst e1; exact u2_oi e2]
        exact z
    · rw [u2_ne e1]
      exact z
  exact ⟨⟨g _ (.inl rfl) h.1.1, g _ (.inr (.inl rfl)) h.1.2⟩, fun q9 a b => g _ (.inr (.inr ⟨a, b⟩)) (h.2 q9 a b)⟩
theorem JF.rows {σ σ' : XS9} (h : JF σ) (e : ∀ q, (q = 9000 ∨ q = 8000 ∨ (20000 ≤ q ∧ q < 20010)) → σ' q 20 = σ q 20) : JF σ' := ⟨⟨(e _ (.inl rfl)).trans h.1.1, (e _ (.inr (.inl rfl))).trans h.1.2⟩, fun q a b => (e q (.inr (.inr ⟨a, b⟩))).trans (h.2 q a b)⟩
def JR (σ : XS9) : Prop := JA σ ∧ JF σ
theorem kr50 {i : Nat} (hi : i ≠ 1 ∧ i ≠ 7) : ¬ kr 5000 i := fun k => by unfold kr at k; omega
theorem JR.set {σ : XS9} (h : JR σ) {q i : Nat} {x : Int32} (hq : ¬ kr q i) (h9 : i ≠ 20 ∨ (q ≠ 9000 ∧ q ≠ 8000 ∧ (q < 20000 ∨ 20010 ≤ q))) : JR (u2 σ q i x) := ⟨h.1.set hq, h.2.set (.inl h9)⟩
theorem JR.s0 {σ : XS9} (h : JR σ) {x : Int32} : JR (u2 σ 5000 0 x) := h.set (kr50 (by decide)) (.inl (by decide))
theorem JR.s00 {σ : XS9} (h : JR σ) {x : Int32} : JR (u2 (u2 σ 5000 0 0) 5000 0 x) := h.s0.s0
/-- what is made in rows from 9000 on and dropped behind -/
theorem JR.hi {σ σ' : XS9} (h : JR σ) (e : ∀ q, q < 8000 ∨ q = 8000 → σ' q = σ q) (f : JF σ') : JR σ' := ⟨h.1.of fun q i hk => by rw [e q (by unfold kr at hk; omega)], f⟩
theorem u2_o {σ : XS9} {r i q j : Nat} {x : Int32} (h : q = r → j = i → False) : u2 σ r i x q j = σ q j := by
  by_cases e : q = r
  · subst e
    exact u2_oi (fun e2 => h rfl e2)
  · rw [u2_ne e]
/-! the reference's methods keep it -/
theorem JA.addRegion {σ σ2 : XS9} {R : Nat} {x : Int32} (hR : σ 5001 900 = nI R) (hR5 : R < 5) (hx : bd 5 x) (n1 : σ2 5001 900 = nI (R + 1)) (n2 : σ2 (5010 + R) 0 = x) (h : JA σ) (e : ∀ q i, kr q i → (¬ (q = 5001 ∧ i = 900) ∧ ¬ (q = 5010 + R ∧ i = 0)) → σ2 q i = σ q i) : JA σ2 := by
  obtain ⟨h1, h2, h3, h4, h5, h6, h7, h8, h9, h10, h11, h12, h13, h14, h15, h16, h17⟩ := h
  refine ⟨?_, ?_, ?_, ?_, ?_, ?_, ?_, ?_, ?_, ?_, ?_, ?_, ?_, ?_, ?_, ?_, ?_⟩
  · rw [n1]; exact bd.nat (by omega) (by decide)
  · rw [e 5002 900 kr_5002_900 (by omega)]; exact h2
  · rw [e 5003 900 kr_5003_900 (by omega)]; exact h3
  · rw [e 5000 1 kr_5000_1 (by omega), e 7000 20 kr_7000_20 (by omega), e 5003 900 kr_5003_900 (by omega)]; exact h4
  · rw [e 7000 25 kr_7000_25 (by omega), e 7000 20 kr_7000_20 (by omega)]; exact h5
  · rw [e 5000 1 kr_5000_1 (by omega), e 7000 25 kr_7000_25 (by omega), e 7000 20 kr_7000_20 (by omega)]; exact h6
  · intro b hb
    rw [e b 21 (kr_bj hb (by decide) (by decide)) (by omega), e b 22 (kr_bj hb (by decide) (by decide)) (by omega), e b 23 (kr_bj hb (by decide) (by decide)) (by omega), e b 24 (kr_bj hb (by decide) (by decide)) (by omega)]; exact h7 b hb
  · rw [e 7000 22 kr_7000_22 (by omega), e 7000 21 kr_7000_21 (by omega)]; exact h8
  · intro j hj
    rw [e (5030 + j) 900 (kr_30 (by omega)) (by omega)]; exact h9 j hj
  · intro j hj
    rw [e (5020 + j) 3 (kr_20 (by omega)) (by omega)]; exact h10 j hj
  · intro j k hj hk
    rw [e (5030 + j) (2 * k) (kr_3k (by omega)) (by omega)]; exact h11 j k hj hk
  · rw [e 5004 900 kr_5004_900 (by omega)]; exact h12
  · intro q hq
    rw [e 5004 900 kr_5004_900 (by omega)] at hq
    have hq10 : q < 10 := by have := h12.2; omega
    have h9 := h13 q hq
    rw [hR, cn_nI (by omega)] at h9
    rw [e 5004 (2 * q) kr_04 (by omega), n1, cn_nI (by omega)]; exact ⟨h9.1, by have := h9.2; omega⟩
  · intro r hr
    rw [e 5007 r kr_07 (by omega)]; exact h14 r hr
  · intro r hr
    by_cases er : r = R
    · rw [er, n2]; exact hx
    · rw [e (5010 + r) 0 (kr_10 (by omega)) (by omega)]; exact h15 r hr
  · intro hs j hj
    rw [e 5000 1 kr_5000_1 (by omega)] at hs
    rw [e 5002 900 kr_5002_900 (by omega)] at hj
    have hj6 : j < 6 := by have := h2.2; omega
    rw [e 5005 j kr_05 (by omega), e (5030 + j) 900 (kr_30 (by omega)) (by omega)]; exact h16 hs j hj
  · rw [e 5000 7 kr_5000_7 (by omega)]; exact h17
theorem JA.addBidder {σ σ2 : XS9} {B : Nat} {u : Int32} (hB6 : B < 6) (hu : bd 3 u) (hs0 : σ 5000 1 = 0) (n1 : σ2 5002 900 = nI (B + 1)) (n2 : σ2 (5020 + B) 3 = u) (n3 : σ2 (5030 + B) 900 = 0) (h : JA σ) (e : ∀ q i, kr q i → (¬ (q = 5002 ∧ i = 900) ∧ ¬ (q = 5020 + B ∧ i = 3) ∧ ¬ (q = 5030 + B ∧ i = 900)) → σ2 q i = σ q i) : JA σ2 := by
  obtain ⟨h1, h2, h3, h4, h5, h6, h7, h8, h9, h10, h11, h12, h13, h14, h15, h16, h17⟩ := h
  refine ⟨?_, ?_, ?_, ?_, ?_, ?_, ?_, ?_, ?_, ?_, ?_, ?_, ?_, ?_, ?_, ?_, ?_⟩
  · rw [e 5001 900 kr_5001_900 (by omega)]; exact h1
  · rw [n1]; exact bd.nat (by omega) (by decide)
  · rw [e 5003 900 kr_5003_900 (by omega)]; exact h3
  · rw [e 5000 1 kr_5000_1 (by omega), e 7000 20 kr_7000_20 (by omega), e 5003 900 kr_5003_900 (by omega)]; exact h4
  · rw [e 7000 25 kr_7000_25 (by omega), e 7000 20 kr_7000_20 (by omega)]; exact h5
  · rw [e 5000 1 kr_5000_1 (by omega), e 7000 25 kr_7000_25 (by omega), e 7000 20 kr_7000_20 (by omega)]; exact h6
  · intro b hb
    rw [e b 21 (kr_bj hb (by decide) (by decide)) (by omega), e b 22 (kr_bj hb (by decide) (by decide)) (by omega), e b 23 (kr_bj hb (by decide) (by decide)) (by omega), e b 24 (kr_bj hb (by decide) (by decide)) (by omega)]; exact h7 b hb
  · rw [e 7000 22 kr_7000_22 (by omega), e 7000 21 kr_7000_21 (by omega)]; exact h8
  · intro j hj
    by_cases er : j = B
    · rw [er, n3]; exact ev.zero
    · rw [e (5030 + j) 900 (kr_30 (by omega)) (by omega)]; exact h9 j hj
  · intro j hj
    by_cases er : j = B
    · rw [er, n2]; exact hu
    · rw [e (5020 + j) 3 (kr_20 (by omega)) (by omega)]; exact h10 j hj
  · intro j k hj hk
    rw [e (5030 + j) (2 * k) (kr_3k (by omega)) (by omega)]; exact h11 j k hj hk
  · rw [e 5004 900 kr_5004_900 (by omega)]; exact h12
  · intro q hq
    rw [e 5004 900 kr_5004_900 (by omega)] at hq
    have hq10 : q < 10 := by have := h12.2; omega
    rw [e 5004 (2 * q) kr_04 (by omega), e 5001 900 kr_5001_900 (by omega)]; exact h13 q hq
  · intro r hr
    rw [e 5007 r kr_07 (by omega)]; exact h14 r hr
  · intro r hr
    rw [e (5010 + r) 0 (kr_10 (by omega)) (by omega)]; exact h15 r hr
  · intro hs
    rw [e 5000 1 kr_5000_1 (by omega), hs0] at hs
    exact absurd hs (by decide)
  · rw [e 5000 7 kr_5000_7 (by omega)]; exact h17
theorem JA.addStation {σ σ2 : XS9} {R C : Nat} {x : Int32} (hS : σ 5004 900 = nI (2 * C)) (hC : C < 10) (hR : σ 5001 900 = nI R) (hR5 : R ≤ 5) (hx : n_lt x R) (n1 : σ2 5004 900 = nI (2 * (C + 1))) (n2 : σ2 5004 (2 * C) = x) (h : JA σ) (e : ∀ q i, kr q i → (¬ (q = 5004 ∧ i = 900) ∧ ¬ (q = 5004 ∧ i = 2 * C)) → σ2 q i = σ q i) : JA σ2 := by
  obtain ⟨h1, h2, h3, h4, h5, h6, h7, h8, h9, h10, h11, h12, h13, h14, h15, h16, h17⟩ := h
  refine ⟨?_, ?_, ?_, ?_, ?_, ?_, ?_, ?_, ?_, ?_, ?_, ?_, ?_, ?_, ?_, ?_, ?_⟩
  · rw [e 5001 900 kr_5001_900 (by omega)]; exact h1
  · rw [e 5002 900 kr_5002_900 (by omega)]; exact h2
  · rw [e 5003 900 kr_5003_900 (by omega)]; exact h3
  · rw [e 5000 1 kr_5000_1 (by omega), e 7000 20 kr_7000_20 (by omega), e 5003 900 kr_5003_900 (by omega)]; exact h4
  · rw [e 7000 25 kr_7000_25 (by omega), e 7000 20 kr_7000_20 (by omega)]; exact h5
  · rw [e 5000 1 kr_5000_1 (by omega), e 7000 25 kr_7000_25 (by omega), e 7000 20 kr_7000_20 (by omega)]; exact h6
  · intro b hb
    rw [e b 21 (kr_bj hb (by decide) (by decide)) (by omega), e b 22 (kr_bj hb (by decide) (by decide)) (by omega), e b 23 (kr_bj hb (by decide) (by decide)) (by omega), e b 24 (kr_bj hb (by decide) (by decide)) (by omega)]; exact h7 b hb
  · rw [e 7000 22 kr_7000_22 (by omega), e 7000 21 kr_7000_21 (by omega)]; exact h8
  · intro j hj
    rw [e (5030 + j) 900 (kr_30 (by omega)) (by omega)]; exact h9 j hj
  · intro j hj
    rw [e (5020 + j) 3 (kr_20 (by omega)) (by omega)]; exact h10 j hj
  · intro j k hj hk
    rw [e (5030 + j) (2 * k) (kr_3k (by omega)) (by omega)]; exact h11 j k hj hk
  · rw [n1]; exact ev.nat (by omega) (by decide)
  · intro q hq
    rw [n1, cn_nI (by omega)] at hq
    rw [e 5001 900 kr_5001_900 (by omega)]
    by_cases er : q = C
    · rw [er, n2, hR, cn_nI (by omega)]; exact hx
    · rw [e 5004 (2 * q) kr_04 (by omega)]; exact h13 q (by rw [hS, cn_nI (by omega)]; omega)
  · intro r hr
    rw [e 5007 r kr_07 (by omega)]; exact h14 r hr
  · intro r hr
    rw [e (5010 + r) 0 (kr_10 (by omega)) (by omega)]; exact h15 r hr
  · intro hs j hj
    rw [e 5000 1 kr_5000_1 (by omega)] at hs
    rw [e 5002 900 kr_5002_900 (by omega)] at hj
    have hj6 : j < 6 := by have := h2.2; omega
    rw [e 5005 j kr_05 (by omega), e (5030 + j) 900 (kr_30 (by omega)) (by omega)]; exact h16 hs j hj
  · rw [e 5000 7 kr_5000_7 (by omega)]; exact h17
theorem JA.addOffer {σ σ2 : XS9} {j9 p : Nat} {c : Int32} (hj9 : j9 < 6) (hp : p < 6) (hc : bd 7775 c) (hs2 : σ 5000 1 = 2) (n1 : σ2 (5030 + j9) 900 = nI (2 * (p + 1))) (n2 : σ2 (5030 + j9) (2 * p) = c) (h : JA σ) (e : ∀ q i, kr q i → (¬ (q = 5030 + j9 ∧ i = 900) ∧ ¬ (q = 5030 + j9 ∧ i = 2 * p)) → σ2 q i = σ q i) : JA σ2 := by
  obtain ⟨h1, h2, h3, h4, h5, h6, h7, h8, h9, h10, h11, h12, h13, h14, h15, h16, h17⟩ := h
  refine ⟨?_, ?_, ?_, ?_, ?_, ?_, ?_, ?_, ?_, ?_, ?_, ?_, ?_, ?_, ?_, ?_, ?_⟩
  · rw [e 5001 900 kr_5001_900 (by omega)]; exact h1
  · rw [e 5002 900 kr_5002_900 (by omega)]; exact h2
  · rw [e 5003 900 kr_5003_900 (by omega)]; exact h3
  · rw [e 5000 1 kr_5000_1 (by omega), e 7000 20 kr_7000_20 (by omega), e 5003 900 kr_5003_900 (by omega)]; exact h4
  · rw [e 7000 25 kr_7000_25 (by omega), e 7000 20 kr_7000_20 (by omega)]; exact h5
  · rw [e 5000 1 kr_5000_1 (by omega), e 7000 25 kr_7000_25 (by omega), e 7000 20 kr_7000_20 (by omega)]; exact h6
  · intro b hb
    rw [e b 21 (kr_bj hb (by decide) (by decide)) (by omega), e b 22 (kr_bj hb (by decide) (by decide)) (by omega), e b 23 (kr_bj hb (by decide) (by decide)) (by omega), e b 24 (kr_bj hb (by decide) (by decide)) (by omega)]; exact h7 b hb
  · rw [e 7000 22 kr_7000_22 (by omega), e 7000 21 kr_7000_21 (by omega)]; exact h8
  · intro j hj
    by_cases er : j = j9
    · rw [er, n1]; exact ev.nat (by omega) (by decide)
    · rw [e (5030 + j) 900 (kr_30 (by omega)) (by omega)]; exact h9 j hj
  · intro j hj
    rw [e (5020 + j) 3 (kr_20 (by omega)) (by omega)]; exact h10 j hj
  · intro j k hj hk
    by_cases er : j = j9 ∧ k = p
    · rw [er.1, er.2, n2]; exact hc
    · rw [e (5030 + j) (2 * k) (kr_3k (by omega)) (by omega)]; exact h11 j k hj hk
  · rw [e 5004 900 kr_5004_900 (by omega)]; exact h12
  · intro q hq
    rw [e 5004 900 kr_5004_900 (by omega)] at hq
    have hq10 : q < 10 := by have := h12.2; omega
    rw [e 5004 (2 * q) kr_04 (by omega), e 5001 900 kr_5001_900 (by omega)]; exact h13 q hq
  · intro r hr
    rw [e 5007 r kr_07 (by omega)]; exact h14 r hr
  · intro r hr
    rw [e (5010 + r) 0 (kr_10 (by omega)) (by omega)]; exact h15 r hr
  · intro hs
    rw [e 5000 1 kr_5000_1 (by omega), hs2] at hs
    exact absurd hs (by decide)
  · rw [e 5000 7 kr_5000_7 (by omega)]; exact h17
section
variable {σ : XS9} {R B C K g w : Nat}
theorem JR.region {x y v : Int32} (h : JR σ) (hR : σ 5001 900 = nI R) (hR5 : R ≤ 5) : JR (g_Mregion σ x y v R) := by
  unfold g_Mregion
  split
  · rename_i hx
    split
    · split
      · split
        · split
          · exact h.s00
          · rename_i hn
            have hR6 : R < 5 := Nat.lt_of_le_of_ne hR5 (fun q => hn (by rw [q]; rfl))
            refine ⟨h.1.addRegion hR hR6 (bd.bt hx (by decide) rfl (by decide)) u2_at (by rw [u2_ne (by omega), uR_eq]; rfl) (fun q i hk hn9 => ?_), (h.2.set (q := 5000) (i := 0) (x := 0) (.inl (.inl (by decide)))).rows fun q hq => by rw [u2_ne (by omega), uR_ne (by omega)]⟩
            rw [u2_o (fun a b => hn9.1 ⟨a, b⟩)]
            by_cases e1 : q = 5010 + R
            · first | (have h9 := hn9.2; clear hn9; unfold kr at hk; omega) | (unfold kr at hk; omega)
            · rw [uR_ne e1, u2_o (fun a b => by first | (clear hn9; unfold kr at hk; omega) | (unfold kr at hk; omega))]
        · exact h.s00
      · exact h.s00
    · exact h.s00
  · exact h.s00
theorem JR.bidder {x y v u : Int32} (h : JR σ) (hB6 : B ≤ 6) : JR (g_Mbidder σ x y v u B) := by
  unfold g_Mbidder
  split
  · split
    · split
      · split
        · rename_i hu
          split
          · rename_i hs0
            split
            · exact h.s00
            · rename_i hn
              have hB5 : B < 6 := Nat.lt_of_le_of_ne hB6 (fun q => hn (by rw [q]; rfl))
              refine ⟨h.1.addBidder hB5 (bd.bt hu (by decide) rfl (by decide)) hs0 u2_at (by rw [u2_ne (by omega), u2_ne (by omega), uR_eq]; rfl) (by rw [u2_ne (by omega), u2_at]) (fun q i hk hn9 => ?_), (h.2.set (q := 5000) (i := 0) (x := 0) (.inl (.inl (by decide)))).rows fun q hq => by rw [u2_ne (by omega), u2_ne (by omega), uR_ne (by omega)]⟩
              rw [u2_o (fun a b => hn9.1 ⟨a, b⟩), u2_o (fun a b => hn9.2.2 ⟨a, b⟩)]
              by_cases e1 : q = 5020 + B
              · first | (have h9 := hn9.2.1; clear hn9; unfold kr at hk; omega) | (unfold kr at hk; omega)
              · rw [uR_ne e1, u2_o (fun a b => by first | (clear hn9; unfold kr at hk; omega) | (unfold kr at hk; omega))]
          · exact h.s00
        · exact h.s00
      · exact h.s00
    · exact h.s00
  · exact h.s00
theorem JR.border {x y : Int32} (h : JR σ) (hR5 : R ≤ 5) : JR (g_Mborder σ x y R) := by
  have k1 : ∀ c, c < R → ¬ kr (5010 + c) 3 := fun c hc k => by unfold kr at k; omega
  unfold g_Mborder
  split
  · rename_i hx
    split
    · rename_i hy
      split
      · exact h.s00
      · split
        · exact (h.s0.set (k1 _ hx.2) (.inl (by decide))).set (k1 _ hy.2) (.inl (by decide))
        · exact h.s00
    · exact h.s00
  · exact h.s00
theorem JR.rules {x y : Int32} (h : JR σ) : JR (g_Mrules σ x y) := by
  unfold g_Mrules
  split
  · split
    · exact (h.s0.set (kr50 (by decide)) (.inl (by decide))).set (kr50 (by decide)) (.inl (by decide))
    · exact h.s00
  · exact h.s00
theorem JR.step {x : Int32} (h : JR σ) : JR (g_Mstep σ x) := by
  unfold g_Mstep
  split
  · split
    · exact h.s0.set (kr50 (by decide)) (.inl (by decide))
    · exact h.s00
  · exact h.s00
theorem JR.wish {x y v : Int32} (h : JR σ) (hg : g < 200) : JR (g_Mwish σ x y v R B g) := by
  unfold g_Mwish
  split
  · split
    · split
      · split
        · split
          · exact h.s00
          · exact h.s0.set (q := 7000 + 500 + g) (fun k => by unfold kr at k; omega) (.inr (by omega))
        · exact h.s00
      · exact h.s00
    · exact h.s00
  · exact h.s00
theorem JR.waive {x : Int32} (h : JR σ) (hw : w < 200) : JR (g_Mwaive σ x B g w) := by
  unfold g_Mwaive
  split
  · split
    · split
      · exact h.s00
      · split
        · exact (h.s0.set (q := 7000 + 4) (fun k => by unfold kr at k; omega) (.inr (by omega))).set (q := 7000 + 700 + w) (fun k => by unfold kr at k; omega) (.inr (by omega))
        · exact h.s00
    · exact h.s00
  · exact h.s00
theorem JR.knock (h : JR σ) : JR (g_Mknock σ) := h.s0.set (kr50 (by decide)) (.inl (by decide))
theorem JR.station {x y : Int32} (h : JR σ) (hR : σ 5001 900 = nI R) (hR5 : R ≤ 5) (hS : σ 5004 900 = nI (2 * C)) (hC10 : C ≤ 10) : JR (g_Mstation σ x y R C) := by
  unfold g_Mstation
  split
  · rename_i hx
    split
    · split
      · exact h.s00
      · rename_i hn
        have hC : C < 10 := Nat.lt_of_le_of_ne hC10 (fun q => hn (by rw [q]; rfl))
        have hx1 : n_lt (nI (cn x)) R := by rw [← hx.1]; exact hx
        unfold g_addI
        refine ⟨JA.addStation (x := nI (cn x)) (R := R) (C := C) hS hC hR hR5 hx1 ?_ ?_ h.1 (fun q i hk hn9 => ?_), h.2.rows fun q hq => by rw [u2_ne (by omega), u2_ne (by omega), u2_ne (by omega), u2_ne (by omega), u2_ne (by omega)]⟩
        · rw [u2_at]
          congr 1
        · rw [u2_oi (by omega), u2_oi (by omega), u2_oi (by omega), u2_at]
        · rw [u2_o (fun a b => hn9.1 ⟨a, b⟩), u2_o (fun a b => by first | (clear hn9; unfold kr at hk; omega) | (unfold kr at hk; omega)), u2_o (fun a b => hn9.1 ⟨a, b⟩), u2_o (fun a b => hn9.2 ⟨a, b⟩), u2_o (fun a b => by first | (clear hn9; unfold kr at hk; omega) | (unfold kr at hk; omega))]
    · exact h.s00
  · exact h.s00
theorem JR.ask {x y : Int32} (h : JR σ) : JR (g_Mask σ x y C) := by
  have k1 : ∀ c, ¬ kr 5004 (2 * c + 1) ∨ 2 * c + 1 = 900 := fun c => .inl fun k => by unfold kr at k; omega
  unfold g_Mask
  split
  · split
    · unfold g_setS
      exact (h.s0.set (q := 5004) (fun k => by unfold kr at k; omega) (.inr (by omega))).set (q := 5004) (fun k => by unfold kr at k; omega) (.inr (by omega))
    · exact h.s00
  · exact h.s00
theorem power_ok : ∀ R, R ≤ 5 → ∃ p, p ≤ 7776 ∧ f_power R = nI p := by
  intro R hR
  match R, hR with
  | 0, _ => exact ⟨1, by decide, rfl⟩
  | 1, _ => exact ⟨6, by decide, rfl⟩
  | 2, _ => exact ⟨36, by decide, rfl⟩
  | 3, _ => exact ⟨216, by decide, rfl⟩
  | 4, _ => exact ⟨1296, by decide, rfl⟩
  | 5, _ => exact ⟨7776, by decide, rfl⟩
theorem JR.offer {x y v : Int32} {pk : Nat → Nat} (h : JR σ) (hR5 : R ≤ 5) (hB6 : B ≤ 6) (hpk : ∀ j, j < B → σ (5030 + j) 900 = nI (2 * pk j) ∧ pk j ≤ 6) : JR (g_Moffer σ x y v R B pk) := by
  unfold g_Moffer
  split
  · rename_i hx
    have hx2 := hx.2
    obtain ⟨p1, p2⟩ := hpk (cn x) hx2
    split
    · exact h.s00
    · rename_i hy0
      split
      · exact h.s00
      · rename_i hyp
        have hc : bd 7775 y := by
          obtain ⟨p, hp1, hp2⟩ := power_ok R hR5
          obtain ⟨e1, e2⟩ := cn_of (Int32.not_lt.mp hy0)
          refine ⟨e1, ?_⟩
          rw [hp2] at hyp
          have h3 := Int32.lt_iff_toInt_lt.mp (Int32.not_le.mp hyp)
          rw [toI_nI (by omega)] at h3
          omega
        split
        · split
          · rename_i hs2
            split
            · exact h.s00
            · rename_i h6
              have hp6 : pk (cn x) < 6 := (nI_ltI (a := pk (cn x)) (b := 6) (by omega) (by omega)).mp (Int32.not_le.mp h6)
              split
              · exact h.s00
              · split
                · exact h.s00
                · split
                  · exact h.s00
                  · split
                    · unfold g_Madd g_addI
                      refine ⟨JA.addOffer (j9 := cn x) (p := pk (cn x)) (c := y) (by omega) hp6 hc hs2 ?_ ?_ h.1 (fun q i hk hn9 => ?_), h.2.rows fun q hq => by rw [u2_ne (by omega), u2_ne (by omega), u2_ne (by omega), u2_ne (by omega), u2_ne (by omega)]⟩
                      · rw [u2_at]
                        congr 1
                      · rw [u2_oi (by omega), u2_oi (by omega), u2_oi (by omega), u2_at]
                      · rw [u2_o (fun a b => hn9.1 ⟨a, b⟩), u2_o (fun a b => by first | (clear hn9; unfold kr at hk; omega) | (unfold kr at hk; omega)), u2_o (fun a b => hn9.1 ⟨a, b⟩), u2_o (fun a b => hn9.2 ⟨a, b⟩), u2_o (fun a b => by first | (clear hn9; unfold kr at hk; omega) | (unfold kr at hk; omega))]
                    · exact h.s00
          · exact h.s00
        · exact h.s00
  · exact h.s00
end
