/-! ===== the clock: some closes at once ===== -/
section
variable {τ σ : XS9} {gr : Nat → Nat} {R B : Nat}
def PCl (R B : Nat) (τ σ : XS9) : Prop := (RC τ σ ∧ RA τ σ ∧ RZ τ) ∧ (JC σ ∧ KB σ) ∧ (JR τ ∧ JS τ ∧ JP τ) ∧ mR τ = R ∧ mB τ = B
def stCl (R B : Nat) (gr : Nat → Nat) (_ : Nat) (s14 : XS9) : XS9 ⊕ XS9 := (if (s14 1000 7) = 1 then (if (f_closeRound s14 2000 (s14 1000 8) B R (cn (s14 2000 9))) = 0 then .inl (g_closeRound s14 2000 (s14 1000 8) B R (cn (s14 2000 9))) else .inl (g_endClock (g_closeRound s14 2000 (s14 1000 8) B R (cn (s14 2000 9))) R B (min (cn (s14 2000 9)) 59) gr)) else .inr s14)
def stMc (_ : Nat) (s37 : XS9) : XS9 ⊕ XS9 := (if (s37 5000 1) = 1 then .inl (g_clo s37) else .inr s37)
theorem PCl.fin {t : XS9} (P : PCl R B τ σ) (hs : τ 5000 1 = 1) (j : JC t ∧ KB t) (v : VA σ t) (x : RC (g_clo τ) t) : PCl R B (g_clo τ) t := by
  obtain ⟨⟨h, a, z⟩, ⟨jc, kb⟩, ⟨r, js, jp⟩, eR, eB⟩ := P
  have ca := clo_all r js jp hs
  have m := MA.clo r js hs
  refine ⟨⟨x, a.kept m v, z.kept m⟩, j, ca.1, ?_, ?_⟩
  · exact (congrArg cn ca.2.1.1).trans eR
  · exact (congrArg cn ca.2.1.2.1).trans eB
theorem close_loop (hg : ∀ i, i < 6 → gr i < 4) : ∀ (f i : Nat) (τ σ : XS9), PCl R B τ σ → PCl R B (xitB stMc f i τ) (xitB (stCl R B gr) f i σ)
  | 0, _, _, _, P => P
  | f + 1, i, τ, σ, P => by
    have P0 := P
    obtain ⟨⟨h, a, z⟩, ⟨jc, kb⟩, ⟨r, js, jp⟩, eR, eB⟩ := P0
    by_cases hs : τ 5000 1 = 1
    · have hc : σ 1000 7 = 1 := h.st.trans hs
      have X := h.clo a z jc r js hs hg
      have hR5 := r.hR.2
      have hB6 := r.hB.2
      rw [eR] at hR5
      rw [eB] at hB6
      rw [eR, eB] at X
      have h60 := jc.hK.2
      have C1 : JC (g_closeRound σ 2000 (σ 1000 8) B R (cn (σ 2000 9))) ∧ KB (g_closeRound σ 2000 (σ 1000 8) B R (cn (σ 2000 9))) := ⟨jc.closeRound, kb.closeRound kb.2.2.2.2.2 hR5 hB6 h60⟩
      have C2 : VA σ (g_closeRound σ 2000 (σ 1000 8) B R (cn (σ 2000 9))) := VA.rows fun q hq => fr_closeRound (by omega)
      rw [xitB_l (show stMc i τ = .inl (g_clo τ) from if_pos hs)]
      by_cases c : f_closeRound σ 2000 (σ 1000 8) B R (cn (σ 2000 9)) = 0
      · rw [if_pos c] at X
        rw [xitB_l (show stCl R B gr i σ = .inl (g_closeRound σ 2000 (σ 1000 8) B R (cn (σ 2000 9))) from (if_pos hc).trans (if_pos c))]
        exact close_loop hg f (i + 1) _ _ (P.fin hs C1 C2 X)
      · rw [if_neg c] at X
        rw [xitB_l (show stCl R B gr i σ = .inl (g_endClock (g_closeRound σ 2000 (σ 1000 8) B R (cn (σ 2000 9))) R B (min (cn (σ 2000 9)) 59) gr) from (if_pos hc).trans (if_neg c))]
        exact close_loop hg f (i + 1) _ _ (P.fin hs (JK.endClock C1.1 C1.2 hB6 (by omega) hg) (C2.trans (VA.endClock C1.1 hB6 hg)) X)
    · rw [xitB_r (show stMc i τ = .inr τ from if_neg hs), xitB_r (show stCl R B gr i σ = .inr σ from if_neg (fun e => hs (h.st.symm.trans e)))]
      exact P
theorem PCl.s0 (P : PCl R B τ σ) : PCl R B (u2 τ 5000 0 0) σ := by
  obtain ⟨⟨h, a, z⟩, j, ⟨r, js, jp⟩, eR, eB⟩ := P
  refine ⟨⟨h.kept r MK.s0 VK.rfl', a.kept MA.s0 VA.rfl', z.kept MA.s0⟩, j, ⟨r.s0, js.s0 r, jp.s0⟩, ?_, ?_⟩
  · refine Eq.trans ?_ eR
    show cn (u2 _ _ _ _ 5001 900) = _
    rw [u2_ne (by decide)]
  · refine Eq.trans ?_ eB
    show cn (u2 _ _ _ _ 5002 900) = _
    rw [u2_ne (by decide)]
theorem PCl.close {x : Int32} (P : PCl R B τ σ) (hg : ∀ i, i < 6 → gr i < 4) : RC (g_Mclose τ x) (g_close σ x R B gr) := by
  have P0 := P.s0
  have h := P.1.1
  have r := P.2.2.1.1
  unfold g_Mclose g_close
  by_cases c1 : n_bt x 1 9
  · by_cases c2 : τ 5000 1 = 1
    · rw [if_pos c1, if_pos c2, if_pos c1, if_pos (h.st.trans c2)]
      exact (close_loop hg (cn x) 0 _ _ P0).1.1
    · rw [if_pos c1, if_neg c2, if_pos c1, if_neg (fun e => c2 (h.st.symm.trans e))]
      exact h.kept r MK.s00 VK.rfl'
  · rw [if_neg c1, if_neg c1]
    exact h.kept r MK.s00 VK.rfl'
theorem RC.init : RC s0M s0C := by
  refine ⟨rfl, ⟨rfl, by decide⟩, rfl, rfl, fun e => absurd rfl e, fun _ => ⟨fun _ _ => rfl, fun _ _ => rfl, fun _ _ => ⟨rfl, rfl, rfl⟩, fun j hj => absurd hj (Nat.not_lt_zero _), rfl⟩, ⟨fun _ => rfl, fun _ => rfl⟩, ⟨fun k hk => absurd hk (Nat.not_lt_zero _), fun k hk => absurd hk (Nat.not_lt_zero _), fun k hk => absurd hk (Nat.not_lt_zero _), fun k hk => absurd hk (Nat.not_lt_zero _), fun k hk => absurd hk (Nat.not_lt_zero _)⟩⟩
end
