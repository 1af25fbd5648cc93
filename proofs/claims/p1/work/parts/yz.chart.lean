/-! ===== the chart, alike ===== -/
theorem gD_cg {f g : Nat → Int32} {G : Nat → Value} {s : Nat} (h : ∀ k, k < s → f k = g k) : gD f G s = gD g G s := by
  funext j
  unfold gD
  by_cases q : j < 2 * s - 1
  · rw [if_pos q, if_pos q, h (j / 2) (by omega)]
  · rw [if_neg q, if_neg q]
theorem says_chart {τ σ : XS9} {p0 : Int32} (m : RM τ σ) (r : JR τ) (p : JP τ) (j : JC σ) (eR : aR σ = mR τ) (hsp : ∀ q, q < mR τ → asp σ q = msp τ q) : relT (if n_lt p0 (mR τ) then some (2 * asp σ (cn p0) - 1, gD (σ (1141 + cn p0)) (fun _ => .int 0) (asp σ (cn p0))) else none) (if n_lt p0 (mR τ) then some (2 * msp τ (cn p0) - 1, gD (fun s => f_MholderNow (u2 τ 5000 0 0) (cn p0) (nI s) (mB τ) (mtn τ)) (fun _ => Value.int 0) (msp τ (cn p0))) else none) (if n_lt p0 (mR τ) then 0 else 1) := by
  have R5 := r.hR.2
  by_cases q : n_lt p0 (mR τ)
  · rw [if_pos q, if_pos q, if_pos q]
    have hr : cn p0 < mR τ := q.2
    have es := hsp _ hr
    have s5 := (r.hsp _ hr).2
    have hh : ∀ k, k < msp τ (cn p0) → σ (1141 + cn p0) k = f_MholderNow (u2 τ 5000 0 0) (cn p0) (nI k) (mB τ) (mtn τ) := fun k hk => hold_eq m r p (u2_oi (by decide)) (fun q h1 h2 => u2_ne (by omega)) hr hk
    have e2 : gD (σ (1141 + cn p0)) (fun _ => Value.int 0) (msp τ (cn p0)) = gD (fun s => f_MholderNow (u2 τ 5000 0 0) (cn p0) (nI s) (mB τ) (mtn τ)) (fun _ => Value.int 0) (msp τ (cn p0)) := gD_cg hh
    refine ⟨rfl, ?_, ?_, ?_⟩
    · rw [es, e2]
    · show 2 * asp σ (cn p0) - 1 ≤ 16
      omega
    · intro i hi
      exact gD_int (G := fun _ => Value.int 0) (j.hho (cn p0) (by rw [eR]; exact hr)) i hi
  · rw [if_neg q, if_neg q, if_neg q]
    exact rfl
