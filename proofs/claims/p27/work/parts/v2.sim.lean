/-! ===== both searches do the same ===== -/
def vXR {S : Type} (w : S ⊕ (S × Int32)) : Int32 := match w with | .inl _ => 0 | .inr r => r.2
def mXR {S : Type} (w : S ⊕ (S × Int32)) : S := match w with | .inl s => s | .inr r => r.1
theorem two_loops {S T : Type} {stepC : Nat → S → S ⊕ (S × Int32)} {stepM : Nat → T → T ⊕ (T × Int32)} {s : S} {t : T} {u ch : Nat} (A : Nat → Prop) (V : Nat → Int32) (hu : u ≤ ch)
    (hC : ∀ k, k ≤ u → k < ch → (¬ A k → stepC k s = .inl s) ∧ (A k → V k = 0 → stepC k s = .inl s) ∧ (A k → ¬ V k = 0 → ∃ s', stepC k s = .inr (s', 1)))
    (hCe : u = ch → stepC u s = .inr (s, 0))
    (hM : ∀ k, k < u → (¬ A k → stepM k t = .inl t) ∧ (A k → V k = 0 → stepM k t = .inl t) ∧ (A k → ¬ V k = 0 → ∃ t', stepM k t = .inr (t', 1)))
    (hMu : u < ch → A u ∧ (V u = 0 → ∃ t', stepM u t = .inr (t', 0)) ∧ (¬ V u = 0 → ∃ t', stepM u t = .inr (t', 1))) :
    ∀ n k, k + n = u → vXR (xitR stepC (n + 1) k s) = vXR (xitR stepM (ch - k) k t) ∧ (vXR (xitR stepC (n + 1) k s) = 0 → mXR (xitR stepC (n + 1) k s) = s)
  | 0, k, e => by
    obtain rfl : k = u := by omega
    rcases Nat.lt_or_ge k ch with l | l
    · obtain ⟨a, b, c⟩ := hMu l
      obtain ⟨p, q, r⟩ := hC k (Nat.le_refl k) l
      rw [show ch - k = (ch - k - 1) + 1 by omega]
      unfold xitR
      by_cases v : V k = 0
      · obtain ⟨t', e2⟩ := b v
        rw [q a v, e2]
        exact ⟨rfl, fun _ => rfl⟩
      · obtain ⟨t', e2⟩ := c v
        obtain ⟨s', e3⟩ := r a v
        rw [e3, e2]
        exact ⟨rfl, fun z => absurd z (by show ¬ (1 : Int32) = 0; decide)⟩
    · rw [show ch - k = 0 by omega]
      unfold xitR
      rw [hCe (by omega)]
      exact ⟨rfl, fun _ => rfl⟩
  | n + 1, k, e => by
    have ih := two_loops A V hu hC hCe hM hMu n (k + 1) (by omega)
    obtain ⟨p, q, r⟩ := hC k (by omega) (by omega)
    obtain ⟨p2, q2, r2⟩ := hM k (by omega)
    rw [show ch - k = (ch - (k + 1)) + 1 by omega]
    have un : ∀ {S R : Type} (step : Nat → S → S ⊕ R) (f i : Nat) (s : S), xitR step (f + 1) i s = (match step i s with | .inl s' => xitR step f (i + 1) s' | .inr r => .inr r) := fun _ _ _ _ => rfl
    rw [un stepC, un stepM]
    by_cases a : A k
    · by_cases v : V k = 0
      · rw [q a v, q2 a v]
        exact ih
      · obtain ⟨s', e3⟩ := r a v
        obtain ⟨t', e2⟩ := r2 a v
        rw [e3, e2]
        exact ⟨rfl, fun z => absurd z (by show ¬ (1 : Int32) = 0; decide)⟩
    · rw [p a, p2 a]
      exact ih
def STC (qa ch i u : Nat) (s t : XS9) : Prop := u ≤ ch ∧ ∀ c, c < ch → s 1153 c = t qa c ∧ ∃ m, m < 2 ^ i ∧ t qa c = nI m ∧ (m = 0 ↔ u ≤ c)
section
variable {s0 t0 s t : XS9} {x : Int32} {i C ch u qa : Nat} {rg : Nat → Nat}
theorem STC.mono {i' : Nat} (h : STC qa ch i u s t) (hi : i ≤ i') : STC qa ch i' u s t := ⟨h.1, fun c hc => by
  obtain ⟨a, m, b, c2, d⟩ := h.2 c hc
  exact ⟨a, m, Nat.lt_of_lt_of_le b (Nat.pow_le_pow_right (by decide) hi), c2, d⟩⟩
theorem STC.cln (h : STC qa ch i u s t) : cln qa ch i t := fun c hc => by
  obtain ⟨a, m, b, c2, d⟩ := h.2 c hc
  exact ⟨m, b, c2⟩
theorem STC.put (h : STC qa ch i u s t) (hi : i < 10) {k : Nat} (hk : k < ch) (hku : k ≤ u) : STC qa ch (i + 1) (max u (k + 1)) (u2 s 1153 k ((s 1153 k) ||| (1 <<< ((nI i) &&& 31)))) (u2 t qa k ((t qa k) ||| (1 <<< ((nI i) &&& 31)))) := by
  refine ⟨by have := h.1; omega, fun c hc => ?_⟩
  obtain ⟨a, m, b, c2, d⟩ := h.2 c hc
  by_cases e : c = k
  · subst e
    rw [u2_at, u2_at, a, c2, (bset hi b).1]
    refine ⟨rfl, m + 2 ^ i, by rw [Nat.pow_succ]; omega, rfl, fun z => ?_, fun z => ?_⟩
    · have := Nat.pow_pos (n := i) (show 0 < 2 by decide)
      omega
    · omega
  · rw [u2_oi e, u2_oi e]
    refine ⟨a, m, by rw [Nat.pow_succ]; omega, c2, d.trans ⟨fun z => by omega, fun z => by omega⟩⟩
theorem cp_end (hC10 : C ≤ 10) : f_Mcp t x C C rg qa ch = 1 := by
  have x3 : x_MpkStep_3 x C C C = C := by
    unfold x_MpkStep_3
    rw [Nat.sub_self]
    rfl
  cases C with
  | zero =>
    show f_MpkStep t (fun (_ : XS9) (_ : Nat) => (0 : Int32)) (fun (s : XS9) (_ : Nat) => s) x 0 0 rg qa ch = 1
    unfold f_MpkStep
    rw [if_pos (by rw [x3])]
  | succ C' =>
    show f_MpkStep t _ _ x (C' + 1) (C' + 1) rg qa ch = 1
    unfold f_MpkStep
    rw [if_pos (by rw [x3])]
end
