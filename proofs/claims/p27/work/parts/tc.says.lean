/-! ===== the clock's answers ===== -/
section
variable {τ σ : XS9} {gr : Nat → Nat} {R B g w : Nat} {x y v : Int32}
theorem says_step (h : RC τ σ) (r : JR τ) : g_Mstep τ x 5000 0 = lw_k [eIAE, eISE] (o_step σ x) ∧ ∀ w, o_step σ x = .inl w → w = f_Mstep τ x := by
  unfold g_Mstep o_step f_Mstep
  have ok : u2 (u2 τ 5000 0 0) 5000 4 x 5000 0 = lw_k [eIAE, eISE] (.inl (σ 1000 8) : Int32 ⊕ String) ∧ ∀ w, (.inl (σ 1000 8) : Int32 ⊕ String) = .inl w → w = τ 5000 4 := ⟨by
    rw [u2_oi (by decide), u2_at]
    rfl, fun w e => by
    rw [← Sum.inl.inj e]
    exact h.stp⟩
  by_cases c1 : n_bt x 1 20
  · by_cases c2 : σ 1000 7 = 0
    · have c4 : τ 5000 1 ≤ 1 := by
        rw [← h.st]
        exact (stage01 h.sb).mpr (.inl c2)
      simp only [if_pos c1, if_pos c2, if_pos c4]
      exact ok
    · by_cases c3 : σ 1000 7 = 1
      · have c4 : τ 5000 1 ≤ 1 := by
          rw [← h.st]
          exact (stage01 h.sb).mpr (.inr c3)
        simp only [if_pos c1, if_neg c2, if_pos c3, if_pos c4]
        exact ok
      · have c4 : ¬ τ 5000 1 ≤ 1 := by
          rw [← h.st]
          exact fun z => ((stage01 h.sb).mp z).elim c2 c3
        simp only [if_pos c1, if_neg c2, if_neg c3, if_neg c4]
        exact bad rfl
  · simp only [if_neg c1]
    exact bad rfl
theorem says_open (h : RC τ σ) (r : JR τ) (a : RA τ σ) (z : RZ τ) : g_Mopen τ (mR τ) (mB τ) 5000 0 = lw_k [eISE] (o_open σ (mR τ) (mB τ)) ∧ ∀ w, o_open σ (mR τ) (mB τ) = .inl w → w = f_Mopen τ (mR τ) (mB τ) := by
  have R5 := r.hR.2
  have B6 := r.hB.2
  unfold g_Mopen o_open f_Mopen
  by_cases c1 : σ 1000 7 = 0
  · have c2 : τ 5000 1 = 0 := h.st.symm.trans c1
    by_cases c3 : mR τ = 0
    · simp only [if_pos c1, if_pos c2, if_pos c3, if_pos (show nI (mR τ) = 0 by rw [c3]; rfl)]
      exact bad rfl
    · have d3 : ¬ nI (mR τ) = 0 := fun e => c3 (nI_zero (by omega) e)
      by_cases c4 : mB τ = 0
      · simp only [if_pos c1, if_pos c2, if_neg c3, if_neg d3, if_pos c4, if_pos (show nI (mB τ) = 0 by rw [c4]; rfl)]
        exact bad rfl
      · have d4 : ¬ nI (mB τ) = 0 := fun e => c4 (nI_zero (by omega) e)
        simp only [if_pos c1, if_pos c2, if_neg c3, if_neg d3, if_neg c4, if_neg d4]
        have o := h.off c2
        have lo : ∀ (t : XS9) q, q < 7000 → u2 (g_Kinit t 7000 (mR τ) (mB τ)) 7000 25 1 q = t q := fun t q hq => by rw [u2_ne (by omega), fr_Kinit (by omega)]
        refine ⟨?_, fun w e => ?_⟩
        · rw [lo _ _ (by decide), u2_oi (by decide), u2_at]
          rfl
        · rw [← Sum.inl.inj e]
          have e1 : f_allPrices (u2 σ 1000 7 1) 2000 = xsum (fun i => σ 2001 i) 5 := rfl
          rw [e1, xsum_cut (N := mR τ) (M := 5) (fun j h1 h2 => by
            rw [o.p j h2, (a.2.1 j h2).2.2.1]
            exact (z j h1 h2).2.2) R5]
          unfold xsum
          refine xit_cg (N := mR τ) (fun i s hi => ?_) (mR τ) 0 0 (Nat.zero_add _)
          (try dsimp only)
          rw [lo _ _ (by omega), u2_ne (by omega), u2_ne (by omega), o.p i (by omega), (a.2.1 i (by omega)).2.2.1]
  · simp only [if_neg c1, if_neg (fun e => c1 (h.st.trans e))]
    exact bad rfl
theorem says_wish (h : RC τ σ) (r : JR τ) (a : RA τ σ) (z : RZ τ) (j : JC σ) : g_Mwish τ x y v (mR τ) (mB τ) (mg τ) 5000 0 = lw_k [eIOB, eIAE, eISE] (o_wish σ x y v (mR τ) (mB τ)) ∧ ∀ w, o_wish σ x y v (mR τ) (mB τ) = .inl w → w = f_Mwish τ x y v (mR τ) (mB τ) (mg τ) := by
  have R5 := r.hR.2
  have B6 := r.hB.2
  have G := r.hg.2
  unfold g_Mwish o_wish f_Mwish
  by_cases c1 : n_lt x (mB τ)
  · by_cases c2 : n_lt y (mR τ)
    · by_cases c3 : n_bt v 0 5
      · by_cases c4 : σ 1000 7 = 1
        · have c5 : τ 5000 1 = 1 := h.st.symm.trans c4
          have Q := h.on1 c5
          have T := told a z j
          have hx := c1.2
          have hy := c2.2
          have hv : bd 5 v := bd.bt (m := 5) c3 (by decide) rfl (by decide)
          have m0 : ∀ q, q ≠ 5000 → u2 τ 5000 0 0 q = τ q := fun q hq => u2_ne hq
          have Q0 : KQ 2000 7000 (mR τ) (mB τ) (mg τ) (mw τ) (mn τ) σ (u2 τ 5000 0 0) := Q.of r.hn.2.1 (by omega) r.hw.2 (fun _ _ _ => rfl) (fun q h1 h2 => m0 q (by omega))
          have T0 : TQ (mR τ) σ (u2 τ 5000 0 0) := ⟨by rw [u2_oi (by decide)]; exact T.rl, fun r hr => by rw [m0 _ (by omega)]; exact T.rg r hr, fun r hr => by rw [m0 _ (by omega)]; exact T.pt r hr, fun r h1 h2 => by rw [m0 _ (by omega)]; exact T.ptz r h1 h2⟩
          have em : f_mayWish σ 2000 (cn x) (cn y) (nI (cn v)) (mB τ) = f_McanWish (u2 τ 5000 0 0) (cn x) (cn y) v (mR τ) (mB τ) (mg τ) := by
            rw [← hv.1]
            exact may_eq hx (by omega) (by omega) (by omega) hv Q0 T0 (fun j9 h9 => by
              rw [m0 _ (by omega)]
              exact ⟨(a.2.2.1 j9 h9).2.2.2, (j.hgr j9 h9).1, Nat.le_of_lt_succ (j.hgr j9 h9).2⟩) (by
              rw [u2_oi (by decide)]
              exact a.1.2.1)
          by_cases c6 : f_McanWish (u2 τ 5000 0 0) (cn x) (cn y) v (mR τ) (mB τ) (mg τ) = 0
          · simp only [if_pos c1, if_pos c2, if_pos c3, if_pos c4, if_pos c5, em, if_pos c6]
            exact bad rfl
          · simp only [if_pos c1, if_pos c2, if_pos c3, if_pos c4, if_pos c5, em, if_neg c6]
            refine ⟨?_, fun w e => ?_⟩
            · rw [u2_ne (by omega), u2_at]
              rfl
            · rw [← Sum.inl.inj e, ← hv.1]
              obtain ⟨w1, w2⟩ := Q.wi (cn x) hx
              rw [show σ (2000 + 3) (cn x) = τ (7000 + 500 + mg τ) (cn x) from w1, rep_with w2 (by omega)]
              exact points_eq (w2.withd (by omega) hv) R5 (fun i hi => by
                rw [u2_ne (by omega), u2_ne (by omega)]
                exact T.pt i hi) (fun i h1 h2 => by
                rw [u2_ne (by omega), u2_ne (by omega)]
                exact T.ptz i h1 h2)
        · simp only [if_pos c1, if_pos c2, if_pos c3, if_neg c4, if_neg (fun e => c4 (h.st.trans e))]
          exact bad rfl
      · simp only [if_pos c1, if_pos c2, if_neg c3]
        exact bad rfl
    · simp only [if_pos c1, if_neg c2]
      exact bad rfl
  · simp only [if_neg c1]
    exact bad rfl
theorem says_waive (h : RC τ σ) (r : JR τ) : g_Mwaive τ x (mB τ) (mg τ) (mw τ) 5000 0 = lw_k [eIOB, eISE] (o_waive σ x (mB τ)) ∧ ∀ u, o_waive σ x (mB τ) = .inl u → u = f_Mwaive τ x (mB τ) (mg τ) (mw τ) := by
  have B6 := r.hB.2
  have W2 := r.hw.2
  unfold g_Mwaive o_waive f_Mwaive
  by_cases c1 : n_lt x (mB τ)
  · by_cases c4 : σ 1000 7 = 1
    · have c5 : τ 5000 1 = 1 := h.st.symm.trans c4
      have Q := h.on1 c5
      have hx := c1.2
      obtain ⟨v1, v2⟩ := Q.wv (cn x) hx
      have v1 : σ (2000 + 5) (cn x) = τ (7000 + 4) (cn x) := v1
      have v2 : bd 2 (τ (7000 + 4) (cn x)) := v2
      have ma : f_hasWaived σ 2000 (cn x) = 0 ↔ τ (7000 + 700 + mw τ) (cn x) = 0 := Q.ma (cn x) hx
      have z0 : σ (2000 + 5) (cn x) ≤ 0 ↔ τ (7000 + 4) (cn x) = 0 := by
        rw [v1, v2.1, nI_le0 (by have := v2.2; omega)]
        exact ⟨fun e => by rw [e]; rfl, fun e => nI_zero (by have := v2.2; omega) e⟩
      by_cases c6 : τ (7000 + 4) (cn x) = 0
      · simp only [if_pos c1, if_pos c4, if_pos c5, if_pos c6, if_pos (show τ 7004 (cn x) = 0 from c6), if_pos (z0.mpr c6), if_pos (show σ 2005 (cn x) ≤ 0 from z0.mpr c6)]
        exact bad rfl
      · by_cases c7 : τ (7000 + 700 + mw τ) (cn x) = 0
        · simp only [if_pos c1, if_pos c4, if_pos c5, if_neg c6, if_neg (show ¬ τ 7004 (cn x) = 0 from c6), if_neg (fun e => c6 (z0.mp e)), if_neg (show ¬ σ 2005 (cn x) ≤ 0 from fun e => c6 (z0.mp e)), if_pos c7, if_pos (show τ (7700 + mw τ) (cn x) = 0 from c7), if_pos (ma.mpr c7)]
          refine ⟨?_, fun u e => ?_⟩
          · rw [u2_ne (by omega), u2_ne (by decide), u2_at]
            rfl
          · rw [← Sum.inl.inj e]
            unfold g_useWaiver
            rw [u2_ne (by decide), u2_at, v1]
        · simp only [if_pos c1, if_pos c4, if_pos c5, if_neg c6, if_neg (show ¬ τ 7004 (cn x) = 0 from c6), if_neg (fun e => c6 (z0.mp e)), if_neg (show ¬ σ 2005 (cn x) ≤ 0 from fun e => c6 (z0.mp e)), if_neg c7, if_neg (show ¬ τ (7700 + mw τ) (cn x) = 0 from c7), if_neg (fun e => c7 (ma.mp e))]
          exact bad rfl
    · simp only [if_pos c1, if_neg c4, if_neg (fun e => c4 (h.st.trans e))]
      exact bad rfl
  · simp only [if_neg c1]
    exact bad rfl
theorem clo_t (js : JS τ) (hs : τ 5000 1 = 1) : g_clo τ 5000 0 = τ 5000 0 := by
  obtain ⟨_, _, e1, e2, e3, g9⟩ := js.1 hs
  have f0 : g_clo1 τ (mR τ) (mB τ) (mK τ) (mg τ) (mw τ) (mn τ) 5000 = τ 5000 := fr_clo1 (by omega) (by omega) g9 (by omega) (by omega)
  show g_McloseOne τ (mR τ) (mB τ) (mK τ) (mg τ) (mw τ) (mn τ) (mpk τ) 5000 0 = τ 5000 0
  unfold g_McloseOne
  split
  · rw [f0]
  · unfold x_McloseOne_122
    refine (congrFun (xit_keep (fun s : XS9 => s 5000) (fun i s => ?_) (mB τ) 0 _) 0).trans ?_
    · (try dsimp only)
      split
      · rfl
      · exact fr_Madd (by omega)
    · rw [u2_oi (by decide), f0]
theorem says_close {R B : Nat} (P : PCl R B τ σ) (hg : ∀ i, i < 6 → gr i < 4) : g_Mclose τ x 5000 0 = lw_k [eIAE, eISE] (o_close σ x R B gr) ∧ ∀ w, o_close σ x R B gr = .inl w → w = f_Mclose τ x := by
  have P0 := P.s0
  have h := P.1.1
  unfold g_Mclose o_close f_Mclose
  by_cases c1 : n_bt x 1 9
  · by_cases c2 : τ 5000 1 = 1
    · simp only [if_pos c1, if_pos c2, if_pos (h.st.trans c2)]
      have L := close_loop hg (cn x) 0 _ _ P0
      refine ⟨?_, fun w e => ?_⟩
      · have go := xitB_all (step := stMc) (fun s : XS9 => (JR s ∧ JS s ∧ JP s) ∧ s 5000 0 = 0) (N := cn x) (fun i s s' hi hP => by
          unfold stMc
          split
          · rename_i hs
            intro e
            rcases e with e | e
            · rw [← Sum.inl.inj e]
              exact ⟨(clo_all hP.1.1 hP.1.2.1 hP.1.2.2 hs).1, (clo_t hP.1.2.1 hs).trans hP.2⟩
            · cases e
          · intro e
            rcases e with e | e
            · cases e
            · rw [← Sum.inr.inj e]
              exact hP) (cn x) 0 (u2 τ 5000 0 0) (Nat.zero_add _) ⟨P0.2.2.1, u2_at⟩
        exact go.2
      · rw [← Sum.inl.inj e]
        exact L.1.1.st
    · simp only [if_pos c1, if_neg c2, if_neg (fun e => c2 (h.st.symm.trans e))]
      exact bad rfl
  · simp only [if_neg c1]
    exact bad rfl
end
