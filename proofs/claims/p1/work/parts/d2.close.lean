/-! ===== pure facts: close keeps the class's side of the relation ===== -/
theorem VC.endClock {s : XS9} (hJ : JC s) {R B K : Nat} {gr : Nat → Nat} (hB6 : B ≤ 6) (hg : ∀ i, i < 6 → gr i < 4) : g_endClock s R B K gr 1001 = s 1001 ∧ g_endClock s R B K gr 1000 7 = 2 := by
  have hx : XCT (u2 s 1000 7 2) := fun i hi => by
    rw [u2_ne (by omega)]
    exact hJ.hct i hi
  have H := endClock_loop (σ := s) (R := R) (K := K) hB6 hg (s0 := u2 s 1000 7 2) hx
  unfold g_endClock
  refine ⟨?_, ?_⟩
  · rw [fr_find (by omega), H.2 _ (by omega), u2_ne (by decide)]
  · rw [fr_find (by omega), H.2 _ (by omega), u2_at]
theorem VC.close {σ : XS9} (hJ : JC σ) (hK : KB σ) {x : Int32} {R B : Nat} {gr : Nat → Nat} (hR5 : R ≤ 5) (hB6 : B ≤ 6) (hg : ∀ i, i < 6 → gr i < 4) : VC σ (g_close σ x R B gr) := by
  unfold g_close
  split
  · split
    · rename_i h1
      have go : (JC (x_close_14 σ x R B gr σ) ∧ KB (x_close_14 σ x R B gr σ)) ∧ x_close_14 σ x R B gr σ 1001 = σ 1001 ∧ (x_close_14 σ x R B gr σ 1000 7 = 1 ∨ x_close_14 σ x R B gr σ 1000 7 = 2) := by
        unfold x_close_14
        refine xitB_inv (fun s => (JC s ∧ KB s) ∧ s 1001 = σ 1001 ∧ (s 1000 7 = 1 ∨ s 1000 7 = 2)) (N := cn x) (fun i s hi hP => ?_) (cn x) 0 _ (Nat.zero_add _) ⟨⟨hJ, hK⟩, rfl, .inl h1⟩
        have h60 := hP.1.1.hK.2
        have C1 : JC (g_closeRound s 2000 (s 1000 8) B R (cn (s 2000 9))) ∧ KB (g_closeRound s 2000 (s 1000 8) B R (cn (s 2000 9))) := ⟨hP.1.1.closeRound, hP.1.2.closeRound hP.1.2.2.2.2.2.2 hR5 hB6 h60⟩
        have C2 : g_closeRound s 2000 (s 1000 8) B R (cn (s 2000 9)) 1001 = σ 1001 := (fr_closeRound (by omega)).trans hP.2.1
        have C3 : g_closeRound s 2000 (s 1000 8) B R (cn (s 2000 9)) 1000 = s 1000 := fr_closeRound (by omega)
        refine ⟨fun s' e => ?_, fun s' e => ?_⟩
        · by_cases c1 : s 1000 7 = 1
          · rw [if_pos c1] at e
            by_cases c2 : f_closeRound s 2000 (s 1000 8) B R (cn (s 2000 9)) = 0
            · rw [if_pos c2] at e
              rw [← Sum.inl.inj e]
              exact ⟨C1, C2, by rw [C3]; exact hP.2.2⟩
            · rw [if_neg c2] at e
              rw [← Sum.inl.inj e]
              have E := VC.endClock C1.1 (R := R) (K := min (cn (s 2000 9)) 59) hB6 hg
              exact ⟨JK.endClock C1.1 C1.2 hB6 (by omega) hg, E.1.trans C2, .inr E.2⟩
          · rw [if_neg c1] at e
            exact absurd e (by intro e; cases e)
        · by_cases c1 : s 1000 7 = 1
          · rw [if_pos c1] at e
            by_cases c2 : f_closeRound s 2000 (s 1000 8) B R (cn (s 2000 9)) = 0
            · rw [if_pos c2] at e
              exact absurd e (by intro e; cases e)
            · rw [if_neg c2] at e
              exact absurd e (by intro e; cases e)
          · rw [if_neg c1] at e
            rw [← Sum.inr.inj e]
            exact hP
      refine ⟨by rw [go.2.1], by rw [go.2.1], ?_⟩
      rw [h1]
      rcases go.2.2 with q | q <;> rw [q] <;> exact ⟨fun z => absurd z (by decide), fun z => absurd z (by decide)⟩
    · exact VC.rfl'
  · exact VC.rfl'
