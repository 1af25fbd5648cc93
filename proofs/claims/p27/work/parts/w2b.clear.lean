section
variable {τ σ : XS9} {x : Int32} {C ch R : Nat}
theorem says_clear (h : RA τ σ) (hb : RB τ) (r : JR τ) (rs : RS τ) (eC : aC σ = mC τ) : g_Mclear τ x (mR τ) (mC τ) (mrg τ) 5000 0 = lw_k [eIAE] (o_clear σ x (aC σ) (arg σ)) ∧ ∀ w, o_clear σ x (aC σ) (arg σ) = .inl w → w = f_Mclear τ x (mR τ) (mC τ) (mrg τ) := by
  rw [eC]
  unfold g_Mclear o_clear f_Mclear
  by_cases c1 : n_bt x 1 6
  · have hc := cn6 c1
    simp only [if_pos c1]
    refine ⟨?_, fun w e => ?_⟩
    · rw [fr_MclearNow ⟨by decide, hc⟩, u2_at]
      rfl
    · rw [← Sum.inl.inj e]
      exact cheap_eq h hb r rs hc
  · simp only [if_neg c1]
    exact bad rfl
/-! asks are kept from 1 to 9999 -/
theorem RS.kept {τ2 : XS9} (h : RS τ) (m : MA τ τ2) : RS τ2 := fun k hk => by
  have M : ∀ q i, kb q i → τ2 q i = τ q i := m
  have e : mC τ2 = mC τ := by
    show cn (τ2 5004 900) / 2 = cn (τ 5004 900) / 2
    rw [M _ _ (by unfold kb; omega)]
  rw [e] at hk
  rw [M _ _ (by unfold kb; omega)]
  exact h k hk
theorem RS.row {τ2 : XS9} (h : RS τ) (e : τ2 5004 = τ 5004) : RS τ2 := fun k hk => by
  have e2 : mC τ2 = mC τ := by
    show cn (τ2 5004 900) / 2 = cn (τ 5004 900) / 2
    rw [e]
  rw [e2] at hk
  rw [e]
  exact h k hk
theorem RS.init : RS s0M := fun k hk => absurd hk (Nat.not_lt_zero _)
theorem bd9999 {y : Int32} (h : n_bt y 1 9999) : bd 9999 y ∧ y ≠ 0 := by
  have a : n_bt y 0 9999 := ⟨by
    have := h.1
    exact Int32.le_trans (by decide) this, h.2⟩
  exact ⟨bd.bt (m := 9999) a (by decide) rfl (by decide), fun e => by
    have := h.1
    rw [e] at this
    exact absurd this (by decide)⟩
theorem RS.s00 {x : Int32} (h : RS τ) : RS (u2 (u2 τ 5000 0 0) 5000 0 x) := h.kept MA.s00
theorem RS.station {x y : Int32} {R C : Nat} (h : RS τ) (hC : τ 5004 900 = nI (2 * C)) (hC10 : C ≤ 10) : RS (g_Mstation τ x y R C) := by
  unfold g_Mstation g_addI
  split
  · split
    · rename_i hy
      split
      · exact h.s00
      · intro k hk
        have e : mC τ = C := by
          show cn (τ 5004 900) / 2 = C
          rw [hC, cn_nI (by omega)]
          omega
        have hk : cn (u2 _ 5004 900 (nI (2 * C + 1 + 1)) 5004 900) / 2 > k := hk
        rw [u2_at, cn_nI (by omega)] at hk
        by_cases e9 : k = C
        · subst e9
          rw [u2_oi (by omega), u2_at]
          exact bd9999 hy
        · rw [u2_oi (by omega), u2_oi (by omega), u2_oi (by omega), u2_oi (by omega), u2_ne (by decide)]
          exact h k (by omega)
    · exact h.s00
  · exact h.s00
theorem RS.ask {x y : Int32} {C : Nat} (h : RS τ) (hC10 : mC τ ≤ 10) : RS (g_Mask τ x y C) := by
  unfold g_Mask g_setS
  split
  · split
    · rename_i hy
      intro k hk
      have hk : k < cn (u2 (u2 (u2 τ 5000 0 0) 5004 (2 * cn x + 1) y) 5004 (100 + (2 * cn x + 1)) _ 5004 900) / 2 := hk
      rw [u2_oi (by omega), u2_oi (by omega), u2_ne (by decide)] at hk
      have hk : k < mC τ := hk
      by_cases e9 : k = cn x
      · subst e9
        rw [u2_oi (by omega), u2_at]
        exact bd9999 hy
      · rw [u2_oi (by omega), u2_oi (by omega), u2_ne (by decide)]
        exact h k hk
    · exact h.s00
  · exact h.s00
theorem RS.rules {x y : Int32} (h : RS τ) : RS (g_Mrules τ x y) := by
  unfold g_Mrules
  (repeat' split) <;> first | exact h.s00 | exact h.row (by rw [u2_ne (by decide), u2_ne (by decide), u2_ne (by decide)])
theorem RS.knock (h : RS τ) : RS (g_Mknock τ) := by
  unfold g_Mknock
  exact h.row (by rw [u2_ne (by decide), u2_ne (by decide)])
theorem RS.border {x y : Int32} {R : Nat} (h : RS τ) (hR5 : R ≤ 5) : RS (g_Mborder τ x y R) := by
  unfold g_Mborder
  split
  · rename_i hx
    have hx2 := hx.2
    split
    · rename_i hy
      have hy2 := hy.2
      split
      · exact h.s00
      · split
        · exact h.row (by rw [u2_ne (by omega), u2_ne (by omega), u2_ne (by decide)])
        · exact h.s00
    · exact h.s00
  · exact h.s00
theorem RS.region {x y v : Int32} {R : Nat} (h : RS τ) (hR5 : R ≤ 5) : RS (g_Mregion τ x y v R) := by
  unfold g_Mregion
  (repeat' split) <;> first | exact h.s00 | exact h.row (by rw [u2_ne (by decide), uR_ne (by omega), u2_ne (by decide)])
theorem RS.bidder {x y v u : Int32} {B : Nat} (h : RS τ) (hB6 : B ≤ 6) : RS (g_Mbidder τ x y v u B) := by
  unfold g_Mbidder
  (repeat' split) <;> first | exact h.s00 | exact h.row (by rw [u2_ne (by decide), u2_ne (by omega), uR_ne (by omega), u2_ne (by decide)])
end
