/-! ===== loops with an early return and allocation; a temporary dropped in the midst ===== -/
theorem sw_forRV {Y : XY} {kf nf : Nat → Nat} {S R : Type} (step : Nat → S → S ⊕ R) (P : Nat → S → Prop) {FR : R → Prop} {hd : Nat} {hp : S → XH} {lc : Nat → S → List Value} {N : Nat}
    (hstep : ∀ i s, i < N → P i s → (∀ s', step i s = .inl s' → P (i + 1) s') ∧ ((∀ s', step i s = .inl s' → SW Y (kf (i + 1)) (nf (i + 1)) (hp s') hd (lc (i + 1) s') []) → (∀ r, step i s = .inr r → FR r) → SW Y (kf i) (nf i) (hp s) hd (lc i s) [])) :
    ∀ (f i : Nat) (s : S), i + f = N → P i s → (∀ s', xitR step f i s = .inl s' → P N s' → SW Y (kf N) (nf N) (hp s') hd (lc N s') []) → (∀ r, xitR step f i s = .inr r → FR r) → SW Y (kf i) (nf i) (hp s) hd (lc i s) []
  | 0, i, s, e, hP, kk, kr => by
    obtain rfl : i = N := by omega
    exact kk s rfl hP
  | f + 1, i, s, e, hP, kk, kr => by
    obtain ⟨h1, h2⟩ := hstep i s (by omega) hP
    refine h2 (fun s' e' => sw_forRV step P hstep f (i + 1) s' (by omega) (h1 s' e') (fun s'' e'' => kk s'' ?_) (fun r e'' => kr r ?_)) (fun r e' => kr r ?_)
    · show (match step i s with | .inl s' => xitR step f (i + 1) s' | .inr r => .inr r) = _
      rw [e']; exact e''
    · show (match step i s with | .inl s' => xitR step f (i + 1) s' | .inr r => .inr r) = _
      rw [e']; exact e''
    · show (match step i s with | .inl s' => xitR step f (i + 1) s' | .inr r => .inr r) = _
      rw [e']
/-- the memory as it was before a temporary was made -/
theorem subT {z : Int64} {σ τ : XS9} {h : XH} {q : Nat} (hq : 20000 ≤ q ∧ q < 20010) (h0 : σ q 20 = 0) (hτ : ∀ r, r ≠ q → τ r = σ r) (hfr : ∀ r, 5000 ≤ r → r < 20010 → h r = none) : xx_sub (setM z σ h) (setM z τ h) := by
  intro r c hc
  by_cases e : r = q
  · subst e
    rw [setM_tn hq h0, hfr r (by omega) (by omega)] at hc
    cases hc
  · have t : setM z τ h r = setM z σ h r := by
      unfold setM
      rw [hτ r e, lyQ_ctl (C := ctl τ) (C' := ctl σ) (fun p i hp => by unfold ctl; rw [hτ p (by omega)]) (.inr (.inr fun i => by unfold ctl; rw [hτ r e]))]
    rw [t]
    exact hc
theorem in_mod {z : Int64} {σ : XS9} {h : XH} : xx_in (setM z σ h) (.ref 5000) := by
  show (setM z σ h 5000).isSome = true
  rw [lm_mod]
  rfl
