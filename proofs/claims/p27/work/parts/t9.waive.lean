/-! ===== the clock: waivers, and the close of rounds ===== -/
section
variable {τ τ2 σ σ2 : XS9} {R B g w n : Nat}
theorem hasW {s : XS9} {b j : Nat} (hj : j < 32) : f_hasWaived s b j = 0 ↔ bt (s b 12) j = false := by
  unfold f_hasWaived
  rw [← b_tst2 hj]
  split
  · rename_i e
    exact ⟨fun _ => e, fun _ => rfl⟩
  · rename_i e
    exact ⟨fun z => absurd z (by decide), fun z => absurd z e⟩
theorem hasW_or {s s2 : XS9} {b i j : Nat} (hi : i < 32) (hj : j < 32) (e : s2 b 12 = (s b 12) ||| (1 <<< ((nI i) &&& 31))) : f_hasWaived s2 b j = 0 ↔ (j ≠ i ∧ f_hasWaived s b j = 0) := by
  rw [hasW hj, hasW hj, e, b_or, b_bit hi hj]
  by_cases q : j = i
  · rw [decide_eq_true q, Bool.or_true]
    exact ⟨fun z => absurd z (by decide), fun z => absurd q z.1⟩
  · rw [decide_eq_false q, Bool.or_false]
    exact ⟨fun z => ⟨q, z⟩, fun z => z.2⟩
theorem RC.waive {x : Int32} (h : RC τ σ) (r : JR τ) (hB : mB τ = B) (hg : mg τ = g) (hw : mw τ = w) : RC (g_Mwaive τ x B g w) (g_waive σ x B) := by
  have B6 := r.hB.2
  have W2 := r.hw.2
  have K60 := r.hK.2
  have N60 := r.hn.2.1
  have G2 := r.hg.2
  unfold g_Mwaive g_waive
  by_cases c1 : n_lt x B
  · by_cases c4 : σ 1000 7 = 1
    · have c5 : τ 5000 1 = 1 := h.st.symm.trans c4
      rw [if_pos c1, if_pos c5, if_pos c1, if_pos c4]
      have Q := h.on1 c5
      rw [hB, hw] at Q
      have hx := c1.2
      obtain ⟨v1, v2⟩ := Q.wv (cn x) hx
      have v1 : σ (2000 + 5) (cn x) = τ (7000 + 4) (cn x) := v1
      have v2 : bd 2 (τ (7000 + 4) (cn x)) := v2
      have ma := Q.ma (cn x) hx
      have ma : f_hasWaived σ 2000 (cn x) = 0 ↔ τ (7000 + 700 + w) (cn x) = 0 := ma
      have z0 : σ (2000 + 5) (cn x) ≤ 0 ↔ τ (7000 + 4) (cn x) = 0 := by
        rw [v1, v2.1, nI_le0 (by have := v2.2; omega)]
        exact ⟨fun e => by rw [e]; rfl, fun e => nI_zero (by have := v2.2; omega) e⟩
      by_cases c6 : τ (7000 + 4) (cn x) = 0
      · rw [if_pos c6, if_pos (z0.mpr c6)]
        exact h.kept r MK.s00 VK.rfl'
      · rw [if_neg c6, if_neg (fun e => c6 (z0.mp e))]
        by_cases c7 : τ (7000 + 700 + w) (cn x) = 0
        · rw [if_pos c7, if_pos (ma.mpr c7)]
          unfold g_useWaiver
          rw [v1]
          have bV : bd 2 (τ (7000 + 4) (cn x) - 1) := by
            have q2 := v2.2
            have q1 : 0 < cn (τ (7000 + 4) (cn x)) := Nat.pos_of_ne_zero fun e => c6 (by rw [v2.1, e]; rfl)
            rw [v2.1, nI_prd1 q1]
            exact bd.nat (by omega) (by decide)
          generalize τ (7000 + 4) (cn x) - 1 = V at bV ⊢
          obtain ⟨M, eM⟩ : ∃ M, M = (σ 2000 12 ||| (1 <<< ((nI (cn x)) &&& 31))) := ⟨_, rfl⟩
          rw [← eM]
          have mr : ∀ q, q ≠ 5000 → q ≠ 7004 → q ≠ 7000 + 700 + w → u2 (u2 (u2 τ 5000 0 0) (7000 + 4) (cn x) V) (7000 + 700 + w) (cn x) 1 q = τ q := fun q h1 h2 h3 => by rw [u2_ne h3, u2_ne h2, u2_ne h1]
          have m5 : ∀ i, i ≠ 0 → u2 (u2 (u2 τ 5000 0 0) (7000 + 4) (cn x) V) (7000 + 700 + w) (cn x) 1 5000 i = τ 5000 i := fun i hi => by rw [u2_ne (by omega), u2_ne (by decide), u2_oi hi]
          have cr : ∀ q, q ≠ 2005 → q ≠ 2000 → u2 (u2 σ (2000 + 5) (cn x) V) 2000 12 M q = σ q := fun q h1 h2 => by rw [u2_ne h2, u2_ne h1]
          have c0 : ∀ i, i ≠ 12 → u2 (u2 σ (2000 + 5) (cn x) V) 2000 12 M 2000 i = σ 2000 i := fun i hi => by rw [u2_oi hi, u2_ne (by decide)]
          have eR : mR (u2 (u2 (u2 τ 5000 0 0) (7000 + 4) (cn x) V) (7000 + 700 + w) (cn x) 1) = mR τ := by
            show cn (u2 _ _ _ _ 5001 900) = _
            rw [mr _ (by decide) (by decide) (by omega)]
          have eB : mB (u2 (u2 (u2 τ 5000 0 0) (7000 + 4) (cn x) V) (7000 + 700 + w) (cn x) 1) = B := by
            show cn (u2 _ _ _ _ 5002 900) = B
            rw [mr _ (by decide) (by decide) (by omega)]
            exact hB
          have eK : mK (u2 (u2 (u2 τ 5000 0 0) (7000 + 4) (cn x) V) (7000 + 700 + w) (cn x) 1) = mK τ := by
            show cn (u2 _ _ _ _ 5003 900) = _
            rw [mr _ (by decide) (by decide) (by omega)]
          have eg : mg (u2 (u2 (u2 τ 5000 0 0) (7000 + 4) (cn x) V) (7000 + 700 + w) (cn x) 1) = mg τ := by
            show cn (u2 _ _ _ _ 7000 23) = _
            rw [mr _ (by decide) (by decide) (by omega)]
          have ew : mw (u2 (u2 (u2 τ 5000 0 0) (7000 + 4) (cn x) V) (7000 + 700 + w) (cn x) 1) = w := by
            show cn (u2 _ _ _ _ 7000 24) = w
            rw [mr _ (by decide) (by decide) (by omega)]
            exact hw
          have en : mn (u2 (u2 (u2 τ 5000 0 0) (7000 + 4) (cn x) V) (7000 + 700 + w) (cn x) 1) = mn τ := by
            show cn (u2 _ _ _ _ 7000 21) = _
            rw [mr _ (by decide) (by decide) (by omega)]
          refine ⟨by rw [cr _ (by decide) (by decide), m5 _ (by decide)]; exact h.st, by rw [cr _ (by decide) (by decide)]; exact h.sb, by rw [cr _ (by decide) (by decide), m5 _ (by decide)]; exact h.stp, by rw [c0 _ (by decide), mr _ (by decide) (by decide) (by omega)]; exact h.k, fun e => ?_, fun e => ?_, (by rw [mr 7000 (by decide) (by decide) (by omega), m5 _ (by decide)]; exact h.fl), ⟨fun k hk => ?_, fun k hk j hj => ?_, fun k hk r hr => ?_, fun k hk j hj => ?_, fun k hk j hj => ?_⟩⟩
          · rw [eR, eB, eg, ew, en]
            refine ⟨?_, fun r hr => ?_, fun r h1 h2 => ?_, fun j hj => ?_, fun j h1 h2 => ?_, fun j hj => ?_, (fun j h1 h2 => by rw [cr _ (by decide) (by decide)]; exact Q.wz j h1 h2), fun j hj => ?_, fun j hj => ?_, fun j hj => ?_, fun j hj => ?_, fun k hk => ?_, fun k hk => ?_⟩
            · rw [c0 _ (by decide)]; exact Q.c
            · rw [cr _ (by decide) (by decide), mr _ (by decide) (by decide) (by omega)]; exact Q.p r hr
            · rw [cr _ (by decide) (by decide)]; exact Q.pz r h1 h2
            · rw [cr _ (by decide) (by decide), mr _ (by decide) (by decide) (by omega)]; exact Q.he j hj
            · rw [cr _ (by decide) (by decide)]; exact Q.hz j h1 h2
            · rw [cr _ (by decide) (by decide), mr _ (by omega) (by omega) (by omega)]; exact Q.wi j hj
            · rw [cr _ (by decide) (by decide), mr _ (by decide) (by decide) (by omega)]; exact Q.el j hj
            · rw [u2_ne (show 2000 + 5 ≠ 2000 by decide), u2_ne (show 7000 + 4 ≠ 7000 + 700 + w by omega)]
              by_cases e9 : j = cn x
              · rw [e9, u2_at, u2_at]
                exact ⟨rfl, bV⟩
              · rw [u2_oi e9, u2_oi e9, u2_ne (show 7000 + 4 ≠ 5000 by decide)]
                exact Q.wv j hj
            · rw [cr _ (by decide) (by decide), mr _ (by decide) (by decide) (by omega)]; exact Q.co j hj
            · rw [hasW_or (s := σ) (s2 := u2 (u2 σ (2000 + 5) (cn x) V) 2000 12 M) (b := 2000) (i := cn x) (j := j) (by omega) (by omega) (by rw [u2_at]; exact eM)]
              by_cases e9 : j = cn x
              · rw [e9, u2_at]
                exact ⟨fun z => absurd rfl z.1, fun z => absurd z (by decide)⟩
              · rw [u2_oi e9, u2_ne (show 7000 + 700 + w ≠ 7000 + 4 by omega), u2_ne (show 7000 + 700 + w ≠ 5000 by omega)]
                exact ⟨fun z => (Q.ma j hj).mp z.2, fun z => ⟨e9, (Q.ma j hj).mpr z⟩⟩
            · rw [cr _ (by omega) (by omega), mr _ (by omega) (by omega) (by omega)]; exact Q.lp k hk
            · rw [cr _ (by omega) (by omega), mr _ (by omega) (by omega) (by omega)]; exact Q.lh k hk
          · rw [m5 _ (by decide)] at e
            exact absurd (c5.symm.trans e) (by decide)
          · rw [eK] at hk
            rw [cr _ (by omega) (by omega), mr _ (by omega) (by omega) (by omega)]; exact h.lg.t k hk
          · rw [eK] at hk
            rw [eB, ← hB] at hj
            rw [cr _ (by omega) (by omega), mr _ (by omega) (by omega) (by omega)]; exact h.lg.m k hk j hj
          · rw [eK] at hk
            rw [eR] at hr
            rw [cr _ (by omega) (by omega), mr _ (by omega) (by omega) (by omega)]; exact h.lg.p k hk r hr
          · rw [eK] at hk
            rw [eB, ← hB] at hj
            rw [cr _ (by omega) (by omega), mr _ (by omega) (by omega) (by omega)]; exact h.lg.w k hk j hj
          · rw [eK] at hk
            rw [eB, ← hB] at hj
            rw [cr _ (by omega) (by omega), mr _ (by omega) (by omega) (by omega)]; exact h.lg.h k hk j hj
        · rw [if_neg c7, if_neg (fun e => c7 (ma.mp e))]
          exact h.kept r MK.s00 VK.rfl'
    · rw [if_pos c1, if_neg (fun e => c4 (h.st.trans e)), if_pos c1, if_neg c4]
      exact h.kept r MK.s00 VK.rfl'
  · rw [if_neg c1, if_neg c1]
    exact h.kept r MK.s00 VK.rfl'
end
