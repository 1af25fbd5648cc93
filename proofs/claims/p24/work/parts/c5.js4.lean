/-! ===== pure facts: the clock's beginning keeps JS ===== -/
theorem Kinit_rest {σ : XS9} {b R B q : Nat} (h1 : q ≠ b + 1) (h3 : q ≠ b + 3) (h4 : q ≠ b + 4) : g_Kinit σ b R B q = g_clk0 σ b q := by
  unfold g_Kinit x_Kinit_132
  refine (xit_keep (fun s : XS9 => s q) (fun i s => ?_) B 0 _).trans ?_
  · (try dsimp only)
    rw [u2_ne h4, u2_ne h3]
  · unfold x_Kinit_95
    refine (xit_keep (fun s : XS9 => s q) (fun i s => ?_) R 0 _).trans rfl
    (try dsimp only)
    rw [u2_ne h1]
theorem clk0_row {σ : XS9} {b q : Nat} (hb : q ≠ b) (h : q = b + 1 ∨ q = b + 2 ∨ q = b + 3 ∨ q = b + 4 ∨ q = b + 5 ∨ q = b + 500 + 0 ∨ q = b + 700 + 0) : g_clk0 σ b q = fun _ => 0 := by
  unfold g_clk0
  rw [if_neg hb, if_pos h]
theorem JS.opn {τ : XS9} {R B : Nat} (h : JS τ) (r : JR τ) : JS (g_Mopen τ R B) := by
  unfold g_Mopen
  split
  · rename_i hs0
    split
    · exact h.s00 r
    · split
      · exact h.s00 r
      · have k : ∀ q, (q < 7000 ∨ 8000 ≤ q) → u2 (g_Kinit (u2 (u2 τ 5000 0 0) 5000 1 1) 7000 R B) 7000 25 1 q = u2 (u2 τ 5000 0 0) 5000 1 1 q := fun q hq => by rw [u2_ne (by omega), fr_Kinit (by omega)]
        have z : ∀ i, i ≠ 20 → i ≠ 25 → u2 (g_Kinit (u2 (u2 τ 5000 0 0) 5000 1 1) 7000 R B) 7000 25 1 7000 i = 0 := fun i h1 h2 => by rw [u2_oi h2, Kinit_row, clk0_at h1 h2]
        have c : ∀ q i, (q = 7002 ∨ q = 7500 ∨ q = 7700) → u2 (g_Kinit (u2 (u2 τ 5000 0 0) 5000 1 1) 7000 R B) 7000 25 1 q i = 0 := fun q i hq => by rw [u2_ne (by omega), Kinit_rest (by omega) (by omega) (by omega), clk0_row (by omega) (by omega)]
        generalize u2 (g_Kinit (u2 (u2 τ 5000 0 0) 5000 1 1) 7000 R B) 7000 25 1 = t at k z c
        have hg : mg t = 0 := by show cn (t 7000 23) = 0; rw [z _ (by decide) (by decide)]; rfl
        have hw : mw t = 0 := by show cn (t 7000 24) = 0; rw [z _ (by decide) (by decide)]; rfl
        have hn : mn t = 0 := by show cn (t 7000 21) = 0; rw [z _ (by decide) (by decide)]; rfl
        have hK : mK t = 0 := by
          show cn (t 5003 900) = 0
          rw [k _ (by omega), u2_ne (by decide), u2_ne (by decide), (r.hp0 hs0).2.2]
          rfl
        refine ⟨fun _ => ?_, fun _ j hj => ?_, fun i j hi hj => ?_⟩
        · rw [hg, hw, hn, hK]
          refine ⟨⟨fun i hi => ?_, fun i hi => ?_⟩, fun j hj => ?_, rfl, rfl, rfl, by decide⟩
          · rw [c _ _ (by omega)]
            exact bd.zero
          · rw [c _ _ (by omega)]
            exact bd.zero
          · left
            exact c _ _ (by omega)
        · show cn (t (5030 + j) 900) / 2 = 0
          rw [k _ (by omega), u2_ne (by omega), u2_ne (by omega)]
          exact h.2.1 (.inl hs0) j hj
        · rw [hK] at hi
          exact absurd hi (Nat.not_lt_zero i)
  · exact h.s00 r
