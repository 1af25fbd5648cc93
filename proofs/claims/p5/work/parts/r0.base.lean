/-! ===== a row that is filled ===== -/
theorem fill_at {a : Nat} {x : Int32} {j : Nat} : ∀ (f i : Nat) (s : XS9), (j < i → s a j = x) → j < i + f → xit (fun i5 (s5 : XS9) => u2 s5 a i5 x) f i s a j = x
  | 0, i, s, h1, h2 => h1 (by omega)
  | f + 1, i, s, h1, h2 => fill_at f (i + 1) (u2 s a i x) (fun h3 => by
      by_cases e : j = i
      · subst e
        exact u2_at
      · show u2 s a i x a j = x
        rw [u2_oi e]
        exact h1 (by omega)) (by omega)
