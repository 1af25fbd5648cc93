/-! ===== the answers, from the relation ===== -/
section
variable {τ σ : XS9} {x y v u : Int32} {R B C : Nat}
theorem bad {τ : XS9} {es : List String} {E : String} {k m : Int32} (e : lw_ix es E = k) : u2 (u2 τ 5000 0 0) 5000 0 k 5000 0 = lw_k es (.inr E : Int32 ⊕ String) ∧ ∀ w, (.inr E : Int32 ⊕ String) = .inl w → w = m := ⟨u2_at.trans e.symm, fun w z => by cases z⟩
theorem xit_cg {S : Type} {step step' : Nat → S → S} {N : Nat} (h : ∀ i s, i < N → step i s = step' i s) : ∀ (f i : Nat) (s : S), i + f = N → xit step f i s = xit step' f i s
  | 0, _, _, _ => rfl
  | f + 1, i, s, e => by
    show xit step f (i + 1) (step i s) = xit step' f (i + 1) (step' i s)
    rw [h i s (by omega), xit_cg h f (i + 1) _ (by omega)]
theorem says_rules (h : RA τ σ) (q2 : σ 1000 7 = 0 ↔ τ 5000 1 = 0) : g_Mrules τ x y 5000 0 = lw_k [eIAE, eISE] (o_rules σ x y) ∧ ∀ w, o_rules σ x y = .inl w → w = f_Mrules τ x y := by
  unfold g_Mrules o_rules f_Mrules
  by_cases c1 : n_bt x 1 5
  · by_cases c4 : σ 1000 7 = 0
    · simp only [if_pos c1, if_pos c4, if_pos (q2.mp c4)]
      refine ⟨?_, fun w e => ?_⟩
      · rw [u2_oi (by decide), u2_oi (by decide), u2_at]
        rfl
      · rw [← Sum.inl.inj e]
        exact h.1.2.1
    · simp only [if_pos c1, if_neg c4, if_neg (fun e => c4 (q2.mpr e))]
      exact bad rfl
  · simp only [if_neg c1]
    exact bad rfl
theorem says_bidder (q2 : σ 1000 7 = 0 ↔ τ 5000 1 = 0) (hB6 : B ≤ 6) : g_Mbidder τ x y v u B 5000 0 = lw_k [eIAE, eISE] (o_bidder σ x y v u B) ∧ ∀ w, o_bidder σ x y v u B = .inl w → w = f_Mbidder τ x y v u B := by
  unfold g_Mbidder o_bidder f_Mbidder
  by_cases c1 : n_bt x 0 99999
  · by_cases c2 : n_bt y 1 200
    · by_cases c3 : n_bt v 0 30
      · by_cases c6 : n_bt u 0 3
        · by_cases c4 : σ 1000 7 = 0
          · by_cases c5 : nI B < 6
            · simp only [if_pos c1, if_pos c2, if_pos c3, if_pos c6, if_pos c4, if_pos (q2.mp c4), if_pos c5, if_neg ((nI6 hB6).mp c5)]
              refine ⟨?_, fun w e => (Sum.inl.inj e).symm⟩
              rw [u2_ne (by decide), u2_ne (by omega), uR_ne (by omega), u2_at]
              rfl
            · simp only [if_pos c1, if_pos c2, if_pos c3, if_pos c6, if_pos c4, if_pos (q2.mp c4), if_neg c5, if_pos (Classical.not_not.mp (fun e => c5 ((nI6 hB6).mpr e)))]
              exact bad rfl
          · simp only [if_pos c1, if_pos c2, if_pos c3, if_pos c6, if_neg c4, if_neg (fun e => c4 (q2.mpr e))]
            exact bad rfl
        · simp only [if_pos c1, if_pos c2, if_pos c3, if_neg c6]
          exact bad rfl
      · simp only [if_pos c1, if_pos c2, if_neg c3]
        exact bad rfl
    · simp only [if_pos c1, if_neg c2]
      exact bad rfl
  · simp only [if_neg c1]
    exact bad rfl
theorem says_border (h : RA τ σ) (q2 : σ 1000 7 = 0 ↔ τ 5000 1 = 0) (hR5 : mR τ ≤ 5) : g_Mborder τ x y (mR τ) 5000 0 = lw_k [eIOB, eIAE, eISE] (o_border σ x y (mR τ)) ∧ ∀ w, o_border σ x y (mR τ) = .inl w → w = f_Mborder τ x y (mR τ) := by
  have P := (h.border (x := x) (y := y) q2 hR5 rfl).2.1
  unfold g_Mborder g_border at P
  unfold g_Mborder o_border f_Mborder
  by_cases c1 : n_lt x (mR τ)
  · by_cases c2 : n_lt y (mR τ)
    · by_cases c3 : nI (cn x) = nI (cn y)
      · simp only [if_pos c1, if_pos c2, if_pos c3]
        exact bad rfl
      · by_cases c4 : σ 1000 7 = 0
        · simp only [if_pos c1, if_pos c2, if_neg c3, if_pos c4, if_pos (q2.mp c4)] at P ⊢
          refine ⟨?_, fun w e => ?_⟩
          · have hx := c1.2
            have hy := c2.2
            rw [u2_ne (by omega), u2_ne (by omega), u2_at]
            rfl
          · rw [← Sum.inl.inj e]
            unfold f_addBorder x_addBorder_29
            congr 1
            refine xit_cg (N := mR τ) (fun i s hi => ?_) (mR τ) 0 0 (Nat.zero_add _)
            have p := (P i (by omega)).2.2.2
            unfold g_addBorder at p
            (try dsimp only)
            rw [p]
        · simp only [if_pos c1, if_pos c2, if_neg c3, if_neg c4, if_neg (fun e => c4 (q2.mpr e))]
          exact bad rfl
    · simp only [if_pos c1, if_neg c2]
      exact bad rfl
  · simp only [if_neg c1]
    exact bad rfl
theorem says_station (hC : C ≤ 10) : g_Mstation τ x y R C 5000 0 = lw_k [eIOB, eIAE, eISE] (o_station σ x y R C) ∧ ∀ w, o_station σ x y R C = .inl w → w = f_Mstation τ x y R C := by
  unfold g_Mstation o_station f_Mstation
  by_cases c1 : n_lt x R
  · by_cases c2 : n_bt y 1 9999
    · by_cases c3 : nI C < 10
      · have hC9 : C < 10 := (nI_ltI (a := C) (b := 10) (by omega) (by omega)).mp c3
        have c4 : ¬ nI (2 * C) = 20 := fun e => by
          have := congrArg cn e
          rw [cn_nI (by omega)] at this
          have e5 : cn (20 : Int32) = 20 := rfl
          omega
        simp only [if_pos c1, if_pos c2, if_neg c4, if_pos c3]
        refine ⟨?_, fun w e => (Sum.inl.inj e).symm⟩
        unfold g_addI
        rw [u2_ne (by decide), u2_ne (by decide), u2_ne (by decide), u2_ne (by decide), u2_at]
        rfl
      · have c4 : nI (2 * C) = 20 := by
          have : ¬ C < 10 := fun q => c3 ((nI_ltI (a := C) (b := 10) (by omega) (by omega)).mpr q)
          rw [show C = 10 by omega]
          rfl
        simp only [if_pos c1, if_pos c2, if_pos c4, if_neg c3]
        exact bad rfl
    · simp only [if_pos c1, if_neg c2]
      exact bad rfl
  · simp only [if_neg c1]
    exact bad rfl
theorem says_ask (h : RA τ σ) (hC : C ≤ 10) : g_Mask τ x y C 5000 0 = lw_k [eIOB, eIAE] (o_ask σ x y C) ∧ ∀ w, o_ask σ x y C = .inl w → w = f_Mask τ x y C := by
  unfold g_Mask o_ask f_Mask
  by_cases c1 : n_lt x C
  · have c0 := (sub1_lt (x := x) (R := C) (by omega)).mpr c1
    by_cases c2 : n_bt y 1 9999
    · simp only [if_pos c0, if_pos c1, if_pos c2]
      refine ⟨?_, fun w e => ?_⟩
      · unfold g_setS
        rw [u2_ne (by decide), u2_ne (by decide), u2_at]
        rfl
      · rw [← Sum.inl.inj e, u2_ne (by decide)]
        exact (h.2.2.2.2.1 _ (by have := c1.2; omega)).1
    · simp only [if_pos c0, if_pos c1, if_neg c2]
      exact bad rfl
  · simp only [if_neg c1, if_neg (fun q => c1 ((sub1_lt (x := x) (R := C) (by omega)).mp q))]
    exact bad rfl
end
