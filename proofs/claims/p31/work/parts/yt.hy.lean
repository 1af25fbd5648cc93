/-! ===== what is held has no digits beyond the regions, from the opening on ===== -/
def HY (τ : XS9) : Prop := ¬ τ 5000 1 = 0 → ∀ j, j < mB τ → ∀ k, mR τ ≤ k → k < 5 → dgt (τ 7002 j) k = 0
section
variable {τ τ2 : XS9} {x y v u : Int32} {R B : Nat}
theorem HY.of (h : HY τ) (e1 : ¬ τ2 5000 1 = 0 → ¬ τ 5000 1 = 0) (eB : τ2 5002 900 = τ 5002 900) (eR : τ2 5001 900 = τ 5001 900) (e : τ2 7002 = τ 7002) : HY τ2 := fun s j hj k h1 h2 => by
  have eB2 : mB τ2 = mB τ := congrArg cn eB
  have eR2 : mR τ2 = mR τ := congrArg cn eR
  rw [eB2] at hj
  rw [eR2] at h1
  rw [e]
  exact h (e1 s) j hj k h1 h2
theorem HY.off (h : τ 5000 1 = 0) : HY τ := fun e => absurd h e
theorem HY.init : HY s0M := HY.off (by decide)
theorem HY.kept (h : HY τ) (m : MK τ τ2) : HY τ2 := by
  have M : ∀ q i, km q i → τ2 q i = τ q i := m
  refine h.of (fun e => ?_) (M _ _ (by unfold km; omega)) (M _ _ (by unfold km; omega)) (funext fun i => M _ _ (by unfold km; omega))
  rw [M _ _ (by unfold km; omega)] at e
  exact e
theorem HY.region (h : HY τ) (hR5 : R ≤ 5) : HY (g_Mregion τ x y v R) := by
  unfold g_Mregion
  (repeat' split) <;> first | exact h.kept MK.s00 | skip
  rename_i h0 _
  refine HY.off ?_
  rw [u2_ne (by decide), uR_ne (by omega), u2_oi (by decide), h0]
theorem HY.bidder (h : HY τ) (hB6 : B ≤ 6) : HY (g_Mbidder τ x y v u B) := by
  unfold g_Mbidder
  (repeat' split) <;> first | exact h.kept MK.s00 | skip
  rename_i h0 _
  refine HY.off ?_
  rw [u2_ne (by decide), u2_ne (by omega), uR_ne (by omega), u2_oi (by decide), h0]
theorem HY.step (h : HY τ) : HY (g_Mstep τ x) := by
  have go : HY (u2 (u2 τ 5000 0 0) 5000 4 x) := h.of (fun e => by rw [u2_oi (by decide), u2_oi (by decide)] at e; exact e) (by rw [u2_ne (by decide), u2_ne (by decide)]) (by rw [u2_ne (by decide), u2_ne (by decide)]) (by rw [u2_ne (by decide), u2_ne (by decide)])
  unfold g_Mstep
  (repeat' split) <;> first | exact h.kept MK.s00 | exact go
theorem HY.wish (h : HY τ) (hg2 : mg τ < 200) : HY (g_Mwish τ x y v R B (mg τ)) := by
  have go : ∀ (i : Nat) (w : Int32), HY (u2 (u2 τ 5000 0 0) (7000 + 500 + mg τ) i w) := fun i w => h.of (fun e => by rw [u2_ne (by omega), u2_oi (by decide)] at e; exact e) (by rw [u2_ne (by omega), u2_ne (by decide)]) (by rw [u2_ne (by omega), u2_ne (by decide)]) (by rw [u2_ne (by omega), u2_ne (by decide)])
  unfold g_Mwish
  (repeat' split) <;> first | exact h.kept MK.s00 | exact go _ _
theorem HY.waive (h : HY τ) (hw2 : mw τ < 200) : HY (g_Mwaive τ x B (mg τ) (mw τ)) := by
  have go : ∀ (i : Nat) (w w2 : Int32), HY (u2 (u2 (u2 τ 5000 0 0) (7000 + 4) i w) (7000 + 700 + mw τ) i w2) := fun i w w2 => h.of (fun e => by rw [u2_ne (by omega), u2_ne (by decide), u2_oi (by decide)] at e; exact e) (by rw [u2_ne (by omega), u2_ne (by decide), u2_ne (by decide)]) (by rw [u2_ne (by omega), u2_ne (by decide), u2_ne (by decide)]) (by rw [u2_ne (by omega), u2_ne (by decide), u2_ne (by decide)])
  unfold g_Mwaive
  (repeat' split) <;> first | exact h.kept MK.s00 | exact go _ _ _
theorem HY.opn (h : HY τ) : HY (g_Mopen τ R B) := by
  unfold g_Mopen
  (repeat' split) <;> first | exact h.kept MK.s00 | skip
  intro _ j hj k h1 h2
  rw [u2_ne (by decide), Kinit_o (by decide), clk0_z (by decide)]
  exact dgt_0
theorem HY.settle {pk gr : Nat → Nat} {cd : Nat → Nat → Nat} {sp : Nat → Nat} (h : HY τ) (hB6 : B ≤ 6) : HY (g_Msettle τ x R B pk gr cd sp) := by
  unfold g_Msettle
  by_cases c1 : n_bt x 0 2
  · by_cases c2 : τ 5000 1 = 2
    · rw [if_pos c1, if_pos c2]
      refine HY.kept ?_ (MK.keep hB6)
      refine h.of (fun _ e => absurd (c2.symm.trans e) (by decide)) ?_ ?_ ?_
      · rw [u2_ne (by decide), u2_ne (by decide), u2_ne (by decide)]
      · rw [u2_ne (by decide), u2_ne (by decide), u2_ne (by decide)]
      · rw [u2_ne (by decide), u2_ne (by decide), u2_ne (by decide)]
    · rw [if_pos c1, if_neg c2]
      exact h.kept MK.s00
  · rw [if_neg c1]
    exact h.kept MK.s00
theorem HY.clo (h : HY τ) (r : JR τ) (js : JS τ) (hs : τ 5000 1 = 1) : HY (g_clo τ) := by
  have hB6 := r.hB.2
  have hR5 := r.hR.2
  obtain ⟨kw, zo9, e1, e2, e3, g9⟩ := js.1 hs
  have cl : g_clo τ = g_McloseOne τ (mR τ) (mB τ) (mK τ) (mg τ) (mw τ) (mn τ) (mpk τ) := rfl
  rw [cl, e3]
  have fr : ∀ q, (q < 5003 ∨ (5003 < q ∧ q < 5200) ∨ (8000 ≤ q)) → g_clo1 τ (mR τ) (mB τ) (mn τ) (mg τ) (mw τ) (mn τ) q = τ q := fun q hq => fr_clo1 (by omega) (by omega) g9 g9 (by omega)
  have f7 : ∀ q, 7000 ≤ q → q < 8000 → g_clo1 τ (mR τ) (mB τ) (mn τ) (mg τ) (mw τ) (mn τ) q = g_Kclose τ (τ 5000 4) 7000 (mR τ) (mB τ) (mg τ) (mw τ) (mn τ) q := fun q h1 h2 => by
    unfold g_clo1
    exact fr_rnd (by omega)
  have hi := Kclose_hi (σ := τ) (x := τ 5000 4) (b' := 7000) (R := mR τ) (B := mB τ) (g := mg τ) (w := mw τ) (n := mn τ) (q := msp τ) kw hR5 hB6 (by omega) g9 (by omega) (fun q hq => r.hsp q hq)
  have n0 : ¬ τ 5000 1 = 0 := fun e => absurd (hs.symm.trans e) (by decide)
  have one : ∀ t : XS9, (∀ q, q ≠ 5000 → t q = g_clo1 τ (mR τ) (mB τ) (mn τ) (mg τ) (mw τ) (mn τ) q) → HY t := fun t et _ j hj k h1 h2 => by
    have eB : mB t = mB τ := by
      show cn (t 5002 900) = _
      rw [et _ (by decide), fr _ (by decide)]
    have eR : mR t = mR τ := by
      show cn (t 5001 900) = _
      rw [et _ (by decide), fr _ (by decide)]
    rw [eB] at hj
    rw [eR] at h1
    rw [et _ (by decide), f7 7002 (by decide) (by decide)]
    exact (hi j hj k h1 h2).trans (h n0 j hj k h1 h2)
  unfold g_McloseOne
  split
  · exact one _ fun _ _ => rfl
  · exact (one _ fun q hq => u2_ne hq).kept (MK.over hB6)
theorem HY.close (h : HY τ) (r : JR τ) (js : JS τ) (p : JP τ) : HY (g_Mclose τ x) := by
  unfold g_Mclose
  split
  · split
    · unfold x_Mclose_37
      have go := xitB_all (step := fun i37 (s37 : XS9) => (if (s37 5000 1) = 1 then .inl (g_clo s37) else .inr s37)) (fun s : XS9 => (JR s ∧ JS s ∧ JP s) ∧ HY s) (N := cn x) (fun i s s' hi hP => by
        (try dsimp only)
        split
        · rename_i hs
          intro e
          rcases e with e | e
          · rw [← Sum.inl.inj e]
            exact ⟨(clo_all hP.1.1 hP.1.2.1 hP.1.2.2 hs).1, hP.2.clo hP.1.1 hP.1.2.1 hs⟩
          · cases e
        · intro e
          rcases e with e | e
          · cases e
          · rw [← Sum.inr.inj e]
            exact hP) (cn x) 0 (u2 τ 5000 0 0) (Nat.zero_add _) ⟨⟨r.s0, js.s0 r, p.s0⟩, h.kept MK.s0⟩
      exact go.2
    · exact h.kept MK.s00
  · exact h.kept MK.s00
end
