/-! ===== what the market's calls rest on ===== -/
theorem gr_eq {τ σ : XS9} (a : RA τ σ) (j : JC σ) : ∀ i, i < 6 → agr σ i = mgr τ i ∧ agr σ i < 4 := fun i hi => ⟨congrArg cn (a.2.2.1 i hi).2.2.2, (j.hgr i hi).2⟩
theorem ct_eq {τ σ : XS9} (h : RM τ σ) (r : JR τ) : ∀ i, i < 6 → acn σ i = pkB τ i := fun i hi => by
  show cn (σ 1020 i) = pkB τ i
  rw [h.k.n hi]
  refine cn_nI ?_
  unfold pkB
  split
  · rename_i l
    have := (r.hpk i l).2
    omega
  · decide
theorem sp_eq {τ σ : XS9} (a : RA τ σ) (r : JR τ) : ∀ q, q < mR τ → asp σ q = msp τ q := fun q hq => congrArg cn (a.2.1 q (Nat.lt_of_lt_of_le hq r.hR.2)).1
