/-! ===== the clock's questions ===== -/
def stMo (τ : XS9) (x y : Int32) (R B g : Nat) (_ : Nat) (s39 : Nat) : Nat ⊕ Nat := (if (f_McanWish (u2 τ 5000 0 0) (cn x) (cn y) (nI s39) R B g) = 0 then .inl (s39 - 1) else .inr s39)
section
variable {τ σ : XS9} {x y v : Int32}
theorem fine0 {τ : XS9} {es : List String} {a m : Int32} (e : a = m) : u2 τ 5000 0 0 5000 0 = lw_k es (.inl a : Int32 ⊕ String) ∧ ∀ w, (.inl a : Int32 ⊕ String) = .inl w → w = m := ⟨u2_at, fun w z => by
  rw [← Sum.inl.inj z]
  exact e⟩
theorem RC.eK (h : RC τ σ) : aK σ = mK τ := congrArg cn h.k
theorem says_priceIn (h : RC τ σ) : g_MpriceIn τ x y (mR τ) (mK τ) 5000 0 = lw_k [eIOB] (o_priceIn σ x y (mR τ) (mK τ)) ∧ ∀ w, o_priceIn σ x y (mR τ) (mK τ) = .inl w → w = f_MpriceIn τ x y (mR τ) (mK τ) := by
  unfold g_MpriceIn o_priceIn f_MpriceIn
  by_cases c1 : n_rd x (mK τ)
  · by_cases c2 : n_lt y (mR τ)
    · simp only [if_pos c1, if_pos c2]
      exact fine0 (h.lg.p _ c1.2 _ c2.2)
    · simp only [if_pos c1, if_neg c2]
      exact bad rfl
  · simp only [if_neg c1]
    exact bad rfl
theorem says_codeIn (h : RC τ σ) : g_McodeIn τ x y v (mB τ) (mK τ) 5000 0 = lw_k [eIOB] (o_codeIn σ x y v (mB τ) (mK τ)) ∧ ∀ w, o_codeIn σ x y v (mB τ) (mK τ) = .inl w → w = f_McodeIn τ x y v (mB τ) (mK τ) := by
  unfold g_McodeIn o_codeIn f_McodeIn
  by_cases c1 : n_rd x (mK τ)
  · by_cases c2 : n_lt y (mB τ)
    · by_cases c3 : v = 0
      · simp only [if_pos c1, if_pos c2, if_pos c3]
        exact fine0 (h.lg.w _ c1.2 _ c2.2)
      · simp only [if_pos c1, if_pos c2, if_neg c3]
        exact fine0 (h.lg.h _ c1.2 _ c2.2)
    · simp only [if_pos c1, if_neg c2]
      exact bad rfl
  · simp only [if_neg c1]
    exact bad rfl
/-- what a bidder wishes and holds, at any stage -/
theorem codes_eq (h : RC τ σ) {i : Nat} (hi : i < mB τ) (hB6 : mB τ ≤ 6) : (σ 2003 i = f_MwishedCode (u2 τ 5000 0 0) i (mg τ) ∧ bd 7775 (σ 2003 i)) ∧ σ 2002 i = f_MheldCode (u2 τ 5000 0 0) i (mg τ) ∧ bd 7775 (σ 2002 i) := by
  unfold f_MwishedCode f_MheldCode
  have e7 : ∀ q, q ≠ 5000 → u2 τ 5000 0 0 q = τ q := fun q hq => u2_ne hq
  rw [e7 7000 (by decide)]
  by_cases c : τ 5000 1 = 0
  · have o := (h.off c).h i (by omega)
    rw [if_pos (h.fl.mpr c), if_pos (h.fl.mpr c), o.1, o.2.1]
    exact ⟨⟨rfl, bd.zero⟩, rfl, bd.zero⟩
  · have n : ¬ τ 7000 25 = 0 := fun e => c (h.fl.mp e)
    have Q := h.on c
    rw [if_neg n, if_neg n]
    obtain ⟨w1, w2⟩ := Q.wi i hi
    obtain ⟨v1, v2⟩ := Q.he i hi
    have w1 : σ 2003 i = τ (7000 + 500 + mg τ) i := w1
    have v1 : σ 2002 i = τ (7000 + 2) i := v1
    refine ⟨⟨?_, by rw [w1]; exact w2⟩, ?_, by rw [v1]; exact v2⟩
    · show σ 2003 i = u2 τ 5000 0 0 (7000 + 500 + mg τ) i
      rw [e7 _ (by omega)]
      exact w1
    · show σ 2002 i = u2 τ 5000 0 0 (7000 + 2) i
      rw [e7 _ (by decide)]
      exact v1
theorem says_wants (h : RC τ σ) (r : JR τ) : g_Mwants τ x y v (mR τ) (mB τ) (mg τ) 5000 0 = lw_k [eIOB] (o_wants σ x y v (mR τ) (mB τ)) ∧ ∀ w, o_wants σ x y v (mR τ) (mB τ) = .inl w → w = f_Mwants τ x y v (mR τ) (mB τ) (mg τ) := by
  have R5 := r.hR.2
  have B6 := r.hB.2
  unfold g_Mwants o_wants f_Mwants
  by_cases c1 : n_lt x (mB τ)
  · by_cases c2 : n_lt y (mR τ)
    · have hy := c2.2
      obtain ⟨⟨k1, k2⟩, k3, k4⟩ := codes_eq h c1.2 B6
      by_cases c3 : v = 0
      · simp only [if_pos c1, if_pos c2, if_pos c3]
        refine fine0 ?_
        show f_many (σ 2003 (cn x)) (cn y) = _
        rw [many_of k2 (by omega), k1]
      · simp only [if_pos c1, if_pos c2, if_neg c3]
        refine fine0 ?_
        show f_many (σ 2002 (cn x)) (cn y) = _
        rw [many_of k4 (by omega), k3]
    · simp only [if_pos c1, if_neg c2]
      exact bad rfl
  · simp only [if_neg c1]
    exact bad rfl
theorem says_contradicts (h : RC τ σ) (r : JR τ) (js : JS τ) : g_Mcontradicts τ x (mR τ) (mB τ) (mg τ) (mn τ) 5000 0 = lw_k [eIOB] (o_contradicts σ x (mB τ) (aK σ)) ∧ ∀ w, o_contradicts σ x (mB τ) (aK σ) = .inl w → w = f_Mcontradicts τ x (mR τ) (mB τ) (mg τ) (mn τ) := by
  have R5 := r.hR.2
  have n60 := r.hn.2.1
  have g2 := r.hg.2
  unfold g_Mcontradicts o_contradicts f_Mcontradicts
  by_cases c1 : n_lt x (mB τ)
  · by_cases c2 : τ 5000 1 = 1
    · have eK : aK σ = mn τ := h.eK.trans (js.1 c2).2.2.2.2.1
      rw [eK]
      simp only [if_pos c1, if_pos c2, if_pos (h.st.trans c2)]
      refine fine0 ?_
      have Q := h.on1 c2
      have e7 : ∀ q, q ≠ 5000 → u2 τ 5000 0 0 q = τ q := fun q hq => u2_ne hq
      have Q0 : KQ 2000 7000 (mR τ) (mB τ) (mg τ) (mw τ) (mn τ) σ (u2 τ 5000 0 0) := Q.of n60 g2 r.hw.2 (fun _ _ _ => rfl) (fun q h1 h2 => e7 q (by omega))
      exact contra_eq R5 (Q0.wi _ c1.2) Q0.p Q0.pz Q0.lp (fun k hk => Q0.lh k hk _ c1.2)
    · simp only [if_pos c1, if_neg c2, if_neg (fun e => c2 (h.st.symm.trans e))]
      exact fine0 rfl
  · simp only [if_neg c1]
    exact bad rfl
theorem says_most (h : RC τ σ) (r : JR τ) (a : RA τ σ) (z : RZ τ) (j : JC σ) : g_Mmost τ x y (mR τ) (mB τ) (mg τ) 5000 0 = lw_k [eIOB] (o_most σ x y (mR τ) (mB τ)) ∧ ∀ w, o_most σ x y (mR τ) (mB τ) = .inl w → w = f_Mmost τ x y (mR τ) (mB τ) (mg τ) := by
  have R5 := r.hR.2
  have B6 := r.hB.2
  have G := r.hg.2
  unfold g_Mmost o_most f_Mmost
  by_cases c1 : n_lt x (mB τ)
  · by_cases c2 : n_lt y (mR τ)
    · by_cases c3 : τ 5000 1 = 1
      · simp only [if_pos c1, if_pos c2, if_pos c3, if_pos (h.st.trans c3)]
        refine fine0 ?_
        have hy := c2.2
        have Q := h.on1 c3
        have T := told a z j
        have m0 : ∀ q, q ≠ 5000 → u2 τ 5000 0 0 q = τ q := fun q hq => u2_ne hq
        have Q0 : KQ 2000 7000 (mR τ) (mB τ) (mg τ) (mw τ) (mn τ) σ (u2 τ 5000 0 0) := Q.of r.hn.2.1 (by omega) r.hw.2 (fun _ _ _ => rfl) (fun q h1 h2 => m0 q (by omega))
        have T0 : TQ (mR τ) σ (u2 τ 5000 0 0) := ⟨by rw [u2_oi (by decide)]; exact T.rl, fun r hr => by rw [m0 _ (by omega)]; exact T.rg r hr, fun r hr => by rw [m0 _ (by omega)]; exact T.pt r hr, fun r h1 h2 => by rw [m0 _ (by omega)]; exact T.ptz r h1 h2⟩
        have em : ∀ k : Nat, k ≤ 5 → f_mayWish σ 2000 (cn x) (cn y) (nI k) (mB τ) = f_McanWish (u2 τ 5000 0 0) (cn x) (cn y) (nI k) (mR τ) (mB τ) (mg τ) := fun k hk =>
          may_eq c1.2 (by omega) B6 R5 (bd.nat hk (by decide)) Q0 T0 (fun j9 h9 => by
            rw [m0 _ (by omega)]
            exact ⟨(a.2.2.1 j9 h9).2.2.2, (j.hgr j9 h9).1, Nat.le_of_lt_succ (j.hgr j9 h9).2⟩) (by
            rw [u2_oi (by decide)]
            exact a.1.2.1)
        have e5 := em 5 (by decide)
        have e4 := em 4 (by decide)
        have e3 := em 3 (by decide)
        have e2 := em 2 (by decide)
        have e1 := em 1 (by decide)
        have u5 : f_mayWish σ 2000 (cn x) (cn y) 5 (mB τ) = f_McanWish (u2 τ 5000 0 0) (cn x) (cn y) (nI 5) (mR τ) (mB τ) (mg τ) := e5
        have u4 : f_mayWish σ 2000 (cn x) (cn y) 4 (mB τ) = f_McanWish (u2 τ 5000 0 0) (cn x) (cn y) (nI 4) (mR τ) (mB τ) (mg τ) := e4
        have u3 : f_mayWish σ 2000 (cn x) (cn y) 3 (mB τ) = f_McanWish (u2 τ 5000 0 0) (cn x) (cn y) (nI 3) (mR τ) (mB τ) (mg τ) := e3
        have u2' : f_mayWish σ 2000 (cn x) (cn y) 2 (mB τ) = f_McanWish (u2 τ 5000 0 0) (cn x) (cn y) (nI 2) (mR τ) (mB τ) (mg τ) := e2
        have u1 : f_mayWish σ 2000 (cn x) (cn y) 1 (mB τ) = f_McanWish (u2 τ 5000 0 0) (cn x) (cn y) (nI 1) (mR τ) (mB τ) (mg τ) := e1
        unfold f_greatestWish
        rw [u5, u4, u3, u2', u1]
        show _ = nI (xitB (stMo τ x y (mR τ) (mB τ) (mg τ)) 5 0 5)
        by_cases d5 : f_McanWish (u2 τ 5000 0 0) (cn x) (cn y) (nI 5) (mR τ) (mB τ) (mg τ) = 0
        · rw [if_pos d5, xitB_l (show stMo τ x y (mR τ) (mB τ) (mg τ) 0 5 = .inl 4 from if_pos d5)]
          by_cases d4 : f_McanWish (u2 τ 5000 0 0) (cn x) (cn y) (nI 4) (mR τ) (mB τ) (mg τ) = 0
          · rw [if_pos d4, xitB_l (show stMo τ x y (mR τ) (mB τ) (mg τ) 1 4 = .inl 3 from if_pos d4)]
            by_cases d3 : f_McanWish (u2 τ 5000 0 0) (cn x) (cn y) (nI 3) (mR τ) (mB τ) (mg τ) = 0
            · rw [if_pos d3, xitB_l (show stMo τ x y (mR τ) (mB τ) (mg τ) 2 3 = .inl 2 from if_pos d3)]
              by_cases d2 : f_McanWish (u2 τ 5000 0 0) (cn x) (cn y) (nI 2) (mR τ) (mB τ) (mg τ) = 0
              · rw [if_pos d2, xitB_l (show stMo τ x y (mR τ) (mB τ) (mg τ) 3 2 = .inl 1 from if_pos d2)]
                by_cases d1 : f_McanWish (u2 τ 5000 0 0) (cn x) (cn y) (nI 1) (mR τ) (mB τ) (mg τ) = 0
                · rw [if_pos d1, xitB_l (show stMo τ x y (mR τ) (mB τ) (mg τ) 4 1 = .inl 0 from if_pos d1)]
                  rfl
                · rw [if_neg d1, xitB_r (show stMo τ x y (mR τ) (mB τ) (mg τ) 4 1 = .inr 1 from if_neg d1)]
                  rfl
              · rw [if_neg d2, xitB_r (show stMo τ x y (mR τ) (mB τ) (mg τ) 3 2 = .inr 2 from if_neg d2)]
                rfl
            · rw [if_neg d3, xitB_r (show stMo τ x y (mR τ) (mB τ) (mg τ) 2 3 = .inr 3 from if_neg d3)]
              rfl
          · rw [if_neg d4, xitB_r (show stMo τ x y (mR τ) (mB τ) (mg τ) 1 4 = .inr 4 from if_neg d4)]
            rfl
        · rw [if_neg d5, xitB_r (show stMo τ x y (mR τ) (mB τ) (mg τ) 0 5 = .inr 5 from if_neg d5)]
          rfl
      · simp only [if_pos c1, if_pos c2, if_neg c3, if_neg (fun e => c3 (h.st.symm.trans e))]
        exact fine0 rfl
    · simp only [if_pos c1, if_neg c2]
      exact bad rfl
  · simp only [if_neg c1]
    exact bad rfl
end
