/-! ===== pure facts: the reference's clock while it runs, and its log ===== -/
def zo (v : Int32) : Prop := v = 0 ∨ v = 1
def JS (τ : XS9) : Prop := (τ 5000 1 = 1 → KW 7000 (mg τ) τ ∧ (∀ j, j < 6 → zo (τ (7000 + 700 + mw τ) j)) ∧ mg τ = mn τ ∧ mw τ = mn τ ∧ mK τ = mn τ ∧ mn τ < 60) ∧ ((τ 5000 1 = 0 ∨ τ 5000 1 = 1) → ∀ j, j < 6 → mpk τ j = 0) ∧ ∀ i j, i < mK τ → j < 6 → zo (τ (6300 + i) j) ∧ bd 7775 (τ (6100 + i) j)
/-- the places that JS speaks of -/
def ks (q i : Nat) : Prop := (q = 5000 ∧ i = 1) ∨ (q = 5003 ∧ i = 900) ∨ (5030 ≤ q ∧ q ≤ 5035 ∧ i = 900) ∨ (q = 7000 ∧ 21 ≤ i ∧ i ≤ 24) ∨ q = 7002 ∨ (7500 ≤ q ∧ q ≤ 7999) ∨ (6100 ≤ q ∧ q < 6400)
theorem JS.of {τ τ2 : XS9} (h : JS τ) (h60 : mK τ ≤ 60) (hgw : mg τ < 200 ∧ mw τ < 200) (e : ∀ q i, ks q i → τ2 q i = τ q i) : JS τ2 := by
  have e1 : τ2 5000 1 = τ 5000 1 := e _ _ (by unfold ks; omega)
  have eK : mK τ2 = mK τ := congrArg cn (e 5003 900 (by unfold ks; omega))
  have en : mn τ2 = mn τ := congrArg cn (e 7000 21 (by unfold ks; omega))
  have eg : mg τ2 = mg τ := congrArg cn (e 7000 23 (by unfold ks; omega))
  have ew : mw τ2 = mw τ := congrArg cn (e 7000 24 (by unfold ks; omega))
  refine ⟨fun hs => ?_, fun hs j hj => ?_, fun i j hi hj => ?_⟩
  · rw [e1] at hs
    obtain ⟨a, b, c, d, f, g⟩ := h.1 hs
    rw [eg, ew, en, eK]
    refine ⟨⟨fun i hi => ?_, fun i hi => ?_⟩, fun j hj => ?_, c, d, f, g⟩
    · rw [e _ _ (by unfold ks; omega)]
      exact a.1 i hi
    · rw [e _ _ (by unfold ks; omega)]
      exact a.2 i hi
    · rw [e _ _ (by unfold ks; omega)]
      exact b j hj
  · rw [e1] at hs
    have := h.2.1 hs j hj
    show cn (τ2 (5030 + j) 900) / 2 = 0
    rw [e _ _ (by unfold ks; omega)]
    exact this
  · rw [eK] at hi
    rw [e _ _ (by unfold ks; omega), e _ _ (by unfold ks; omega)]
    exact h.2.2 i j hi hj
theorem JS.set {τ : XS9} (h : JS τ) (h60 : mK τ ≤ 60) (hgw : mg τ < 200 ∧ mw τ < 200) {q i : Nat} {x : Int32} (hq : ¬ ks q i) : JS (u2 τ q i x) := h.of h60 hgw fun q9 i9 hk => u2_o (fun a b => hq (by rw [← a, ← b]; exact hk))
theorem ks50 {i : Nat} (hi : i ≠ 1) : ¬ ks 5000 i := fun k => by unfold ks at k; omega
section
variable {τ : XS9} {R B C K g w : Nat}
theorem JS.s0 (h : JS τ) (r : JR τ) {x : Int32} : JS (u2 τ 5000 0 x) := h.set r.hK.2 ⟨r.hg.2, r.hw.2⟩ (ks50 (by decide))
theorem JS.s00 (h : JS τ) (r : JR τ) {x : Int32} : JS (u2 (u2 τ 5000 0 0) 5000 0 x) := (h.s0 r).s0 r.s0
theorem JS.wish {x y v : Int32} (h : JS τ) (r : JR τ) : JS (g_Mwish τ x y v (mR τ) (mB τ) (mg τ)) := by
  have hg2 := r.hg.2
  unfold g_Mwish
  split
  · rename_i hx
    have hx6 : cn x < 6 := by have := hx.2; have := r.hB.2; omega
    split
    · rename_i hy
      have hy5 : cn y < 5 := by have := hy.2; have := r.hR.2; omega
      split
      · rename_i hv
        split
        · rename_i hs
          split
          · exact h.s00 r
          · obtain ⟨a, b, c, d, f, g9⟩ := h.1 hs
            have e : ∀ q, q ≠ 7000 + 500 + mg τ → u2 (u2 τ 5000 0 0) (7000 + 500 + mg τ) (cn x) (f_with (τ (7000 + 500 + mg τ) (cn x)) (cn y) v) q = u2 τ 5000 0 0 q := fun q hq => u2_ne hq
            have s9 := h.s0 r (x := 0)
            refine ⟨fun _ => ?_, fun hs9 j hj => ?_, fun i j hi hj => ?_⟩
            · refine ⟨⟨fun i hi => ?_, fun i hi => ?_⟩, fun j hj => ?_, ?_⟩
              · show bd 7775 (u2 (u2 τ 5000 0 0) (7000 + 500 + mg τ) (cn x) _ (7000 + 2) i)
                rw [u2_ne (by omega), u2_ne (by omega)]
                exact a.1 i hi
              · have eg : mg (u2 (u2 τ 5000 0 0) (7000 + 500 + mg τ) (cn x) (f_with (τ (7000 + 500 + mg τ) (cn x)) (cn y) v)) = mg τ := congrArg cn (by rw [u2_ne (by omega), u2_ne (by omega)])
                rw [eg]
                by_cases e1 : i = cn x
                · rw [e1, u2_at]
                  exact (a.2 (cn x) hx6).withd hy5 (bd.bt hv (by decide) rfl (by decide))
                · rw [u2_oi e1, u2_ne (by omega)]
                  exact a.2 i hi
              · have ew : mw (u2 (u2 τ 5000 0 0) (7000 + 500 + mg τ) (cn x) (f_with (τ (7000 + 500 + mg τ) (cn x)) (cn y) v)) = mw τ := congrArg cn (by rw [u2_ne (by omega), u2_ne (by omega)])
                rw [ew, u2_ne (by omega), u2_ne (by omega)]
                exact b j hj
              · have k : ∀ q, q ≤ 7000 → q ≠ 5000 → u2 (u2 τ 5000 0 0) (7000 + 500 + mg τ) (cn x) (f_with (τ (7000 + 500 + mg τ) (cn x)) (cn y) v) q = τ q := fun q h1 h2 => by rw [u2_ne (by omega), u2_ne h2]
                unfold mg mw mK mn
                rw [k 7000 (by omega) (by omega), k 5003 (by omega) (by omega)]
                exact ⟨c, d, f, g9⟩
            · show cn (u2 (u2 τ 5000 0 0) (7000 + 500 + mg τ) (cn x) _ (5030 + j) 900) / 2 = 0
              rw [u2_ne (by omega), u2_ne (by omega)]
              exact h.2.1 (.inr hs) j hj
            · have eK : mK (u2 (u2 τ 5000 0 0) (7000 + 500 + mg τ) (cn x) (f_with (τ (7000 + 500 + mg τ) (cn x)) (cn y) v)) = mK τ := congrArg cn (by rw [u2_ne (by omega), u2_ne (by omega)])
              rw [eK] at hi
              have := r.hK.2
              rw [u2_ne (by omega), u2_ne (by omega), u2_ne (by omega), u2_ne (by omega)]
              exact h.2.2 i j hi hj
        · exact h.s00 r
      · exact h.s00 r
    · exact h.s00 r
  · exact h.s00 r
end
