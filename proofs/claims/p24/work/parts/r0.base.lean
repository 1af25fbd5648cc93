/-! ===== a row that is filled ===== -/
theorem fill_at {a : Nat} {x : Int32} {j : Nat} : ∀ (f i : Nat) (s : XS9), (j < i → s a j = x) → j < i + f → xit (fun i5 (s5 : XS9) => u2 s5 a i5 x) f i s a j = x
  | 0, i, s, h1, h2 => h1 (by omega)
  | f + 1, i, s, h1, h2 => fill_at f (i + 1) (u2 s a i x) (fun h3 => by
      by_cases e : j = i
      · subst e
        exact u2_at
      · show u2 s a i x a j = x
        rw [u2_oi e]
        exact h1 (by omega)) (by omega)
/-! loops with an invariant by number -/
theorem xit_ind {S : Type} {step : Nat → S → S} (P : Nat → S → Prop) {N : Nat} (h : ∀ i s, i < N → P i s → P (i + 1) (step i s)) : ∀ (f i : Nat) (s : S), i + f = N → P i s → P N (xit step f i s)
  | 0, i, s, e, hP => by
    obtain rfl : i = N := by omega
    exact hP
  | f + 1, i, s, e, hP => xit_ind P h f (i + 1) (step i s) (by omega) (h i s (by omega) hP)
theorem xit_two {S T : Type} {f : Nat → S → S} {g : Nat → T → T} (P : Nat → S → T → Prop) {N : Nat} (h : ∀ i s t, i < N → P i s t → P (i + 1) (f i s) (g i t)) : ∀ (n i : Nat) (s : S) (t : T), i + n = N → P i s t → P N (xit f n i s) (xit g n i t)
  | 0, i, s, t, e, hP => by
    obtain rfl : i = N := by omega
    exact hP
  | n + 1, i, s, t, e, hP => xit_two P h n (i + 1) (f i s) (g i t) (by omega) (h i s t (by omega) hP)
