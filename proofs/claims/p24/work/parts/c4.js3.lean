/-! ===== pure facts: bidder, waive, the clock's beginning ===== -/
section
variable {τ : XS9} {R B : Nat}
theorem JS.bidder {x y v u : Int32} (h : JS τ) (r : JR τ) (hB6 : B ≤ 6) : JS (g_Mbidder τ x y v u B) := by
  unfold g_Mbidder
  split
  · split
    · split
      · split
        · split
          · rename_i hs0
            split
            · exact h.s00 r
            · have e : ∀ q, q ≠ 5002 → q ≠ 5020 + B → q ≠ 5030 + B → u2 (u2 (uR (u2 τ 5000 0 0) (5020 + B) (fun k => match k with | 0 => x | 1 => y | 2 => v | 3 => u | _ => 0)) (5030 + B) 900 0) 5002 900 (nI (B + 1)) q = u2 τ 5000 0 0 q := fun q a b c => by rw [u2_ne a, u2_ne c, uR_ne b]
              have ep : ∀ j, j ≠ B → u2 (u2 (uR (u2 τ 5000 0 0) (5020 + B) (fun k => match k with | 0 => x | 1 => y | 2 => v | 3 => u | _ => 0)) (5030 + B) 900 0) 5002 900 (nI (B + 1)) (5030 + j) 900 = τ (5030 + j) 900 := fun j hj => by rw [u2_ne (by omega), u2_ne (by omega), uR_ne (by omega), u2_ne (by omega)]
              have ep0 : u2 (u2 (uR (u2 τ 5000 0 0) (5020 + B) (fun k => match k with | 0 => x | 1 => y | 2 => v | 3 => u | _ => 0)) (5030 + B) 900 0) 5002 900 (nI (B + 1)) (5030 + B) 900 = 0 := by rw [u2_ne (by omega), u2_at]
              generalize u2 (u2 (uR (u2 τ 5000 0 0) (5020 + B) (fun k => match k with | 0 => x | 1 => y | 2 => v | 3 => u | _ => 0)) (5030 + B) 900 0) 5002 900 (nI (B + 1)) = t at e ep ep0
              have s1 : t 5000 1 = 0 := by rw [e _ (by omega) (by omega) (by omega), u2_oi (by decide)]; exact hs0
              refine ⟨fun hs => ?_, fun hs j hj => ?_, fun i j hi hj => ?_⟩
              · rw [s1] at hs
                exact absurd hs (by decide)
              · show cn (t (5030 + j) 900) / 2 = 0
                by_cases ej : j = B
                · rw [ej, ep0]
                  rfl
                · rw [ep j ej]
                  exact h.2.1 (.inl hs0) j hj
              · have eK : mK t = mK τ := congrArg cn (by rw [e _ (by omega) (by omega) (by omega), u2_ne (by omega)])
                rw [eK] at hi
                have := r.hK.2
                rw [e _ (by omega) (by omega) (by omega), e _ (by omega) (by omega) (by omega), u2_ne (by omega), u2_ne (by omega)]
                exact h.2.2 i j hi hj
          · exact h.s00 r
        · exact h.s00 r
      · exact h.s00 r
    · exact h.s00 r
  · exact h.s00 r
theorem JS.waive {x : Int32} (h : JS τ) (r : JR τ) : JS (g_Mwaive τ x (mB τ) (mg τ) (mw τ)) := by
  have hg2 := r.hg.2
  have hw2 := r.hw.2
  unfold g_Mwaive
  split
  · split
    · rename_i hs
      split
      · exact h.s00 r
      · split
        · obtain ⟨a, b, c, d, f, g9⟩ := h.1 hs
          have e : ∀ q, q ≠ 5000 → q ≠ 7004 → q ≠ 7000 + 700 + mw τ → u2 (u2 (u2 τ 5000 0 0) (7000 + 4) (cn x) ((τ (7000 + 4) (cn x)) - 1)) (7000 + 700 + mw τ) (cn x) 1 q = τ q := fun q h1 h2 h3 => by rw [u2_ne h3, u2_ne (by omega), u2_ne h1]
          have ew7 : ∀ j, u2 (u2 (u2 τ 5000 0 0) (7000 + 4) (cn x) ((τ (7000 + 4) (cn x)) - 1)) (7000 + 700 + mw τ) (cn x) 1 (7000 + 700 + mw τ) j = 1 ∨ u2 (u2 (u2 τ 5000 0 0) (7000 + 4) (cn x) ((τ (7000 + 4) (cn x)) - 1)) (7000 + 700 + mw τ) (cn x) 1 (7000 + 700 + mw τ) j = τ (7000 + 700 + mw τ) j := fun j => by
            by_cases ej : j = cn x
            · left
              rw [ej, u2_at]
            · right
              rw [u2_oi ej, u2_ne (by omega), u2_ne (by omega)]
          have s1 : u2 (u2 (u2 τ 5000 0 0) (7000 + 4) (cn x) ((τ (7000 + 4) (cn x)) - 1)) (7000 + 700 + mw τ) (cn x) 1 5000 1 = τ 5000 1 := by rw [u2_ne (by omega), u2_ne (by omega), u2_oi (by decide)]
          generalize u2 (u2 (u2 τ 5000 0 0) (7000 + 4) (cn x) ((τ (7000 + 4) (cn x)) - 1)) (7000 + 700 + mw τ) (cn x) 1 = t at e ew7 s1
          have eg : mg t = mg τ := congrArg cn (by rw [e _ (by omega) (by omega) (by omega)])
          have ew : mw t = mw τ := congrArg cn (by rw [e _ (by omega) (by omega) (by omega)])
          have en : mn t = mn τ := congrArg cn (by rw [e _ (by omega) (by omega) (by omega)])
          have eK : mK t = mK τ := congrArg cn (by rw [e _ (by omega) (by omega) (by omega)])
          refine ⟨fun _ => ?_, fun hs9 j hj => ?_, fun i j hi hj => ?_⟩
          · rw [eg, ew, en, eK]
            refine ⟨⟨fun i hi => ?_, fun i hi => ?_⟩, fun j hj => ?_, c, d, f, g9⟩
            · rw [e _ (by omega) (by omega) (by omega)]
              exact a.1 i hi
            · rw [e _ (by omega) (by omega) (by omega)]
              exact a.2 i hi
            · rcases ew7 j with q | q
              · exact .inr q
              · unfold zo
                rw [q]
                exact b j hj
          · rw [s1] at hs9
            show cn (t (5030 + j) 900) / 2 = 0
            rw [e _ (by omega) (by omega) (by omega)]
            exact h.2.1 hs9 j hj
          · rw [eK] at hi
            have := r.hK.2
            rw [e _ (by omega) (by omega) (by omega), e _ (by omega) (by omega) (by omega)]
            exact h.2.2 i j hi hj
        · exact h.s00 r
    · exact h.s00 r
  · exact h.s00 r
end
