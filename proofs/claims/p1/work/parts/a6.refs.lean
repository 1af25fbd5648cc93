section
/-! ===== what the cells name ===== -/
def cbd (C : XS9) : Prop := cn (C 5001 900) ≤ 5 ∧ cn (C 5002 900) ≤ 6 ∧ cn (C 5003 900) ≤ 60 ∧ (∀ j, j < 10 → cn (C (5030 + j) 900) ≤ 20) ∧ ∀ b, (b = 7000 ∨ b = 8000) → cn (C b 21) ≤ 60 ∧ cn (C b 22) ≤ 60 ∧ cn (C b 23) < 200 ∧ cn (C b 24) < 200
theorem box_ref {v : Int32} {e a : Nat} (h : Value.ref (xx_box v e) = .ref a) : a < 456 ∨ a = e := by
  have h9 : (_ : Nat) = a := Value.ref.inj h
  unfold xx_box at h9
  by_cases hs : xx_small v
  · rw [if_pos hs] at h9
    have := (small_nat hs).2
    left
    omega
  · rw [if_neg hs] at h9
    exact .inr h9.symm
theorem lyB_ref {C : XS9} {b i j a : Nat} {s : Nat → Int32} {c : XC} (hb : b = 7000 ∨ b = 8000) (h1 : cn (C b 21) ≤ 60) (h2 : cn (C b 22) ≤ 60) (h3 : cn (C b 23) < 200) (h4 : cn (C b 24) < 200) (e : lyB C b i s = some c) (hj : j < c.2.1) (hv : c.2.2 j = .ref a) : 5000 ≤ a ∧ a < 10200 := by
  unfold lyB at e
  by_cases w0 : i < 8
  · rw [if_pos w0] at e
    split at e <;> first | (cases e; done) | (cases e; dsimp only at hj hv; revert hv; (repeat' split) <;> intro hv <;> first | (cases hv; done) | (have h9 : (_ : Nat) = a := Value.ref.inj hv; omega))
  rw [if_neg w0] at e
  by_cases u0 : i < 200
  · rw [if_pos u0] at e
    split at e <;> first | (cases e; done) | (cases e; cases hv)
  rw [if_neg u0] at e
  by_cases u1 : i < 300
  · rw [if_pos u1] at e
    split at e <;> first | (cases e; done) | (cases e; cases hv)
  rw [if_neg u1] at e
  by_cases u2 : i < 700
  · rw [if_pos u2] at e
    split at e <;> first | (cases e; done) | (cases e; cases hv)
  rw [if_neg u2] at e
  by_cases u3 : i < 900
  · rw [if_pos u3] at e
    split at e <;> first | (cases e; done) | (cases e; cases hv)
  rw [if_neg u3] at e
  cases e
theorem lyQ_ref {z : Int64} {C : XS9} {r j a : Nat} {s : Nat → Int32} {c : XC} (hb : cbd C) (e : lyQ z C r s = some c) (hj : j < c.2.1) (hv : c.2.2 j = .ref a) : a < 456 ∨ (5000 ≤ a ∧ (r ≠ 5004 → a < 10200)) := by
  obtain ⟨b1, b2, b3, b4, b5⟩ := hb
  unfold lyQ at e
  by_cases w0 : r < 5010
  · rw [if_pos w0] at e
    by_cases x4 : r = 5004
    · subst x4
      cases e
      have h9 := box_ref hv
      rcases h9 with h9 | h9
      · exact .inl h9
      · right
        have := nmS_r (σ := C) j
        exact ⟨by omega, fun h => absurd rfl h⟩
    · right
      split at e <;> first | (cases e; done) | (exact absurd rfl x4) | (cases e; dsimp only at hj hv; revert hv; (repeat' split) <;> intro hv <;> first | (cases hv; done) | (have h9 : (_ : Nat) = a := Value.ref.inj hv; omega))
  rw [if_neg w0] at e
  by_cases u0 : r < 5020
  · rw [if_pos u0] at e
    split at e <;> first | (cases e; done) | (cases e; cases hv)
  rw [if_neg u0] at e
  by_cases u1 : r < 5030
  · rw [if_pos u1] at e
    right
    split at e
    · cases e
      dsimp only at hj hv
      by_cases k0 : j = 5
      · rw [if_pos k0] at hv
        have h9 : (_ : Nat) = a := Value.ref.inj hv
        omega
      · rw [if_neg k0] at hv
        cases hv
    · cases e
  rw [if_neg u1] at e
  by_cases u2 : r < 5040
  · rw [if_pos u2] at e
    split at e
    · cases e
      have h8 := b4 (r - 5030) (by omega)
      rw [show 5030 + (r - 5030) = r by omega] at h8
      have hj' : j < cn (C r 900) := hj
      rcases box_ref hv with h9 | h9
      · exact .inl h9
      · right
        unfold nmP at h9
        omega
    · cases e
  rw [if_neg u2] at e
  by_cases u3 : r < 5200
  · rw [if_pos u3] at e
    cases e
  rw [if_neg u3] at e
  by_cases u4 : r < 5300
  · rw [if_pos u4] at e
    right
    split at e
    · cases e
      dsimp only at hj hv
      by_cases k0 : j = 0
      · rw [if_pos k0] at hv
        cases hv
      · rw [if_neg k0] at hv
        have h9 : (_ : Nat) = a := Value.ref.inj hv
        omega
    · cases e
  rw [if_neg u4] at e
  by_cases u5 : r < 6000
  · rw [if_pos u5] at e
    cases e
  rw [if_neg u5] at e
  by_cases u6 : r < 6100
  · rw [if_pos u6] at e
    split at e <;> first | (cases e; done) | (cases e; cases hv)
  rw [if_neg u6] at e
  by_cases u7 : r < 6200
  · rw [if_pos u7] at e
    split at e <;> first | (cases e; done) | (cases e; cases hv)
  rw [if_neg u7] at e
  by_cases u8 : r < 6300
  · rw [if_pos u8] at e
    split at e <;> first | (cases e; done) | (cases e; cases hv)
  rw [if_neg u8] at e
  by_cases u9 : r < 6400
  · rw [if_pos u9] at e
    split at e <;> first | (cases e; done) | (cases e; cases hv)
  rw [if_neg u9] at e
  by_cases v0 : r < 7000
  · rw [if_pos v0] at e
    cases e
  rw [if_neg v0] at e
  by_cases v1 : r < 8000
  · rw [if_pos v1] at e
    split at e
    · cases e
    · obtain ⟨q1, q2, q3, q4⟩ := b5 7000 (.inl rfl)
      have := lyB_ref (.inl rfl) q1 q2 q3 q4 e hj hv
      exact .inr ⟨this.1, fun _ => this.2⟩
  rw [if_neg v1] at e
  by_cases v2 : r < 9000
  · rw [if_pos v2] at e
    split at e
    · cases e
    · obtain ⟨q1, q2, q3, q4⟩ := b5 8000 (.inr rfl)
      have := lyB_ref (.inr rfl) q1 q2 q3 q4 e hj hv
      exact .inr ⟨this.1, fun _ => this.2⟩
  rw [if_neg v2] at e
  by_cases v3 : r < 9010
  · rw [if_pos v3] at e
    split at e
    · cases e
    · right
      split at e <;> first | (cases e; done) | (cases e; dsimp only at hj hv; revert hv; (repeat' split) <;> intro hv <;> first | (cases hv; done) | (have h9 : (_ : Nat) = a := Value.ref.inj hv; omega))
  rw [if_neg v3] at e
  by_cases v4 : r < 10000
  · rw [if_pos v4] at e
    cases e
  rw [if_neg v4] at e
  by_cases v5 : r < 10200
  · rw [if_pos v5] at e
    split at e <;> first | (cases e; done) | (cases e; cases hv)
  rw [if_neg v5] at e
  by_cases v6 : r < 10300
  · rw [if_pos v6] at e
    split at e <;> first | (cases e; done) | (cases e; cases hv)
  rw [if_neg v6] at e
  by_cases v7 : r < 20000
  · rw [if_pos v7] at e
    cases e
  rw [if_neg v7] at e
  by_cases v8 : r < 20010
  · rw [if_pos v8] at e
    split at e <;> first | (cases e; done) | (cases e; cases hv)
  rw [if_neg v8] at e
  cases e
theorem lyK_ref {b i j a : Nat} {s : Nat → Int32} {c : XC} (hb : b = 2000 ∨ b = 3000) (hi : i < 1000) (e : lyK b i s = some c) (hj : j < c.2.1) (hv : c.2.2 j = .ref a) : 1000 ≤ a ∧ a < 4000 := by
  unfold lyK at e
  (repeat' split at e) <;> first | (cases e; done) | (cases e; dsimp only at hj hv; revert hv; (repeat' split) <;> intro hv <;> first | (cases hv; done) | (have h9 : (_ : Nat) = a := Value.ref.inj hv; omega))
theorem lyC_ref {r j a : Nat} {s : Nat → Int32} {c : XC} (hr : 1000 ≤ r ∧ r < 4000) (e : lyC r s = some c) (hj : j < c.2.1) (hv : c.2.2 j = .ref a) : 1000 ≤ a ∧ a < 4000 := by
  unfold lyC at e
  by_cases w0 : 3000 ≤ r
  · rw [if_pos w0] at e
    exact lyK_ref (.inr rfl) (by omega) e hj hv
  rw [if_neg w0] at e
  by_cases w1 : 2000 ≤ r
  · rw [if_pos w1] at e
    exact lyK_ref (.inl rfl) (by omega) e hj hv
  rw [if_neg w1] at e
  by_cases x1 : 1021 < r ∧ r ≤ 1027
  · rw [if_pos x1] at e; cases e; cases hv
  rw [if_neg x1] at e
  by_cases x2 : 1030 < r ∧ r ≤ 1036
  · rw [if_pos x2] at e; cases e; cases hv
  rw [if_neg x2] at e
  by_cases x3 : 1050 < r ∧ r ≤ 1114
  · rw [if_pos x3] at e; cases e; cases hv
  rw [if_neg x3] at e
  by_cases x4 : 1120 < r ∧ r ≤ 1124
  · rw [if_pos x4] at e; cases e; cases hv
  rw [if_neg x4] at e
  by_cases x5 : 1130 < r ∧ r ≤ 1133
  · rw [if_pos x5] at e; cases e; cases hv
  rw [if_neg x5] at e
  by_cases x6 : 1140 < r ∧ r ≤ 1145
  · rw [if_pos x6] at e; cases e; cases hv
  rw [if_neg x6] at e
  split at e <;> first | (cases e; done) | (cases e; cases hv; done) | (cases e; dsimp only at hj hv; revert hv; (repeat' split) <;> intro hv <;> first | (cases hv; done) | (have h9 : (_ : Nat) = a := Value.ref.inj hv; omega))
/-- no cell of the two sides names what lies between 4000 and 5000 -/
theorem mc_ref {h0 : XH} {z : Int64} {τ σ : XS9} {r j a : Nat} {c : XC} (h0b : ∀ r, 1000 ≤ r → h0 r = none) (h0c : ∀ (r : Nat) (c : XC) (j a : Nat), h0 r = some c → j < c.2.1 → c.2.2 j = .ref a → a < 1000) (hb : cbd (ctl τ)) (e : setM z τ (setC σ h0) r = some c) (hj : j < c.2.1) (hv : c.2.2 j = .ref a) : a < 4000 ∨ (5000 ≤ a ∧ (r ≠ 5004 → a < 10200)) := by
  unfold setM at e
  by_cases w : 5000 ≤ r ∧ r < 20010
  · rw [if_pos w] at e
    cases e9 : lyQ z (ctl τ) r (τ r) with
    | none =>
      rw [e9] at e
      have e' : setC σ h0 r = some c := e
      rw [setC_out (by omega), h0b r (by omega)] at e'
      cases e'
    | some c9 =>
      rw [e9] at e
      cases e
      rcases lyQ_ref hb e9 hj hv with h | h
      · left; omega
      · exact .inr h
  · rw [if_neg w] at e
    left
    unfold setC at e
    by_cases w2 : 1000 ≤ r ∧ r < 4000
    · rw [if_pos w2] at e
      exact (lyC_ref w2 e hj hv).2
    · rw [if_neg w2] at e
      have := h0c r c j a e hj hv
      omega
end
section
/-! ===== what the law drops ===== -/
def boxO (h : XH) : Option (Int32 × Nat) → XH
  | none => h
  | some p => boxK h p.1 p.2
section
variable {h0 : XH} {z : Int64} {τ σ : XS9} {n : Int64} {s : Option (Nat × (Nat → Value))}
theorem h0_ref (hB : okB h0) (hc0 : xx_cls h0) (r : Nat) (c : XC) (j a : Nat) (e : h0 r = some c) (hj : j < c.2.1) (hv : c.2.2 j = .ref a) : a < 1000 := by
  have := hc0 r c j e hj
  rw [hv] at this
  rcases Nat.lt_or_ge a 1000 with h | h
  · exact h
  · have e9 : (h0 a).isSome = true := this
    rw [hB.2.2 a h] at e9
    cases e9
theorem hL_mc {q : Nat} (h1 : q ≠ 4500) (h2 : q ≠ 4502) (h3 : q ≠ 4503) : hL h0 z τ σ n s q = setM z τ (setC σ h0) q := by
  by_cases a : 5000 ≤ q ∧ q < 20010
  · unfold hL setM
    rw [if_pos a, if_pos a]
    cases e : lyQ z (ctl τ) q (τ q) with
    | none => exact (setC_out (by omega)).trans ((hO_o h1 h2 h3).trans (setC_out (by omega)).symm)
    | some c => rfl
  · unfold hL
    rw [setM_out a, setM_out a]
    unfold setC
    split
    · rfl
    · exact hO_o h1 h2 h3
theorem hL_some {p : Nat × (Nat → Value)} : hL h0 z τ σ n (some p) 4502 = some (0, 4, xx_so 4503) ∧ hL h0 z τ σ n (some p) 4503 = some (102, p.1, p.2) := ⟨(setM_out (by omega)).trans ((setC_out (by omega)).trans ((xx_up_ne (by omega)).trans (xx_up_eq _ _ _))), (setM_out (by omega)).trans ((setC_out (by omega)).trans (xx_up_eq _ _ _))⟩
theorem hL_none (hB : okB h0) {q : Nat} (hq : q = 4502 ∨ q = 4503) : hL h0 z τ σ n none q = none := by
  have : hO h0 n none q = none := (xx_up_ne (by omega)).trans (hB.2.2 q (by omega))
  exact (setM_out (by omega)).trans ((setC_out (by omega)).trans this)
theorem mc_no (hB : okB h0) {q : Nat} (h1 : 4000 ≤ q) (h2 : q < 5000) : setM z τ (setC σ h0) q = none := (setM_out (by omega)).trans ((setC_out (by omega)).trans (hB.2.2 q (by omega)))
theorem drop_ask (hB : okB h0) (hc0 : xx_cls h0) (hcb : cbd (ctl τ)) {b : Option (Int32 × Nat)} (hb : ∀ p, b = some p → 10200 ≤ p.2 ∧ p.2 < 10300 ∧ (∀ s, lyQ z (ctl τ) p.2 s = none) ∧ ∀ k, k < cn (τ 5004 900) → xx_box (τ 5004 k) (nmS τ k) ≠ p.2) (hS : ∀ p, s = some p → ∀ j, j < p.1 → ∃ x : Int32, p.2 j = .int x) : xx_sub (hL h0 z τ σ n s) (setM z τ (boxO (setC σ (hO h0 n s)) b)) ∧ (xx_cls (setM z τ (boxO (setC σ (hO h0 n s)) b)) → xx_cls (hL h0 z τ σ n s)) := by
  cases b with
  | none => exact ⟨fun r d e => e, fun e => e⟩
  | some p =>
    obtain ⟨w, e⟩ := p
    obtain ⟨h1, h2, h3, h4⟩ := hb _ rfl
    dsimp only at h1 h2 h3 h4
    show xx_sub (hL h0 z τ σ n s) (setM z τ (boxK (setC σ (hO h0 n s)) w e)) ∧ (xx_cls (setM z τ (boxK (setC σ (hO h0 n s)) w e)) → xx_cls (hL h0 z τ σ n s))
    unfold boxK
    by_cases hs : xx_small w
    · rw [if_pos hs]
      exact ⟨fun r d e => e, fun e => e⟩
    · rw [if_neg hs, setM_up (.inr (h3 _))]
      have no : hL h0 z τ σ n s e = none := (setM_no (h3 _)).trans ((okM.lo (.inr (by omega))).trans (hB.2.2 e (by omega)))
      refine ⟨fun r d q => ?_, fun hcl r c j q hj => ?_⟩
      · by_cases a : r = e
        · rw [a, no] at q; cases q
        · rw [xx_up_ne a]; exact q
      · have ne : r ≠ e := fun a => by rw [a, no] at q; cases q
        have t := hcl r c j ((xx_up_ne ne).trans q) hj
        have hne : ∀ a : Nat, c.2.2 j = .ref a → a ≠ e := fun a hv => by
          by_cases x1 : r = 4500
          · rw [x1, hL_4500] at q
            cases q
            have hv' : fO n (sO s) j = .ref a := hv
            have hj' : j < 2 := hj
            match j, hj' with
            | 0, _ => cases hv'
            | 1, _ =>
              cases s with
              | none => cases hv'
              | some p =>
                have h9 : (4502 : Nat) = a := Value.ref.inj hv'
                omega
          · by_cases x2 : r = 4502
            · cases s with
              | none => rw [x2, hL_none hB (.inl rfl)] at q; cases q
              | some p =>
                rw [x2, hL_some.1] at q
                cases q
                have hv' : xx_so 4503 j = .ref a := hv
                have hj' : j < 4 := hj
                match j, hj' with
                | 0, _ =>
                  have h9 : (4503 : Nat) = a := Value.ref.inj hv'
                  omega
                | 1, _ => cases hv'
                | 2, _ => cases hv'
                | 3, _ => cases hv'
            · by_cases x3 : r = 4503
              · cases s with
                | none => rw [x3, hL_none hB (.inr rfl)] at q; cases q
                | some p =>
                  rw [x3, hL_some.2] at q
                  cases q
                  obtain ⟨x, ex⟩ := hS p rfl j hj
                  have hv' : p.2 j = .ref a := hv
                  rw [ex] at hv'
                  cases hv'
              · rw [hL_mc x1 x2 x3] at q
                by_cases x4 : r = 5004
                · subst x4
                  have q' : lyQ z (ctl τ) 5004 (τ 5004) = some c := by
                    unfold setM at q
                    rw [if_pos (by omega)] at q
                    exact q
                  cases q'
                  intro a9
                  have hv' : Value.ref (xx_box (τ 5004 j) (nmS τ j)) = .ref a := hv
                  have h9 : (xx_box (τ 5004 j) (nmS τ j) : Nat) = a := Value.ref.inj hv'
                  exact h4 j hj (h9.trans a9)
                · have := mc_ref hB.2.2 (h0_ref hB hc0) hcb q hj hv
                  omega
        revert t
        cases ev : c.2.2 j with
        | ref a =>
          intro t
          have t' : (xx_up (setM z τ (setC σ (hO h0 n s))) e (2, 1, fun _ => .int w) a).isSome = true := t
          rw [xx_up_ne (hne a ev)] at t'
          exact t'
        | _ => exact fun _ => trivial
/-- the heap behind the class's chart, its text named anew -/
def hLc (h0 : XH) (z : Int64) (τ σ : XS9) (n : Int64) (c : Nat) (G : Nat → Value) : XH := xx_up (xx_up (xx_up (setM z τ (setC σ h0)) 4500 (14, 2, fO n (.ref 4002))) 4002 (0, 4, xx_so 4003)) 4003 (102, c, G)
theorem hLc_4500 {c : Nat} {G : Nat → Value} : hLc h0 z τ σ n c G 4500 = some (14, 2, fO n (.ref 4002)) := (xx_up_ne (by omega)).trans ((xx_up_ne (by omega)).trans (xx_up_eq _ _ _))
theorem hLc_4002 {c : Nat} {G : Nat → Value} : hLc h0 z τ σ n c G 4002 = some (0, 4, xx_so 4003) := (xx_up_ne (by omega)).trans (xx_up_eq _ _ _)
theorem hLc_4003 {c : Nat} {G : Nat → Value} : hLc h0 z τ σ n c G 4003 = some (102, c, G) := xx_up_eq _ _ _
theorem hLc_o {c : Nat} {G : Nat → Value} {q : Nat} (h1 : q ≠ 4500) (h2 : q ≠ 4002) (h3 : q ≠ 4003) : hLc h0 z τ σ n c G q = setM z τ (setC σ h0) q := (xx_up_ne h3).trans ((xx_up_ne h2).trans (xx_up_ne h1))
def κS (q : Nat) : Nat := if q = 4002 then 4502 else if q = 4003 then 4503 else q
def κS' (q : Nat) : Nat := if q = 4502 then 4002 else if q = 4503 then 4003 else q
theorem κS_o {q : Nat} (h1 : q ≠ 4002) (h2 : q ≠ 4003) : κS q = q := by unfold κS; rw [if_neg h1, if_neg h2]
theorem sw_renS {Y : XY} {k9 n9 pc : Nat} {ls st : List Value} (hB : okB h0) (hc0 : xx_cls h0) (hcb : cbd (ctl τ)) (hY0 : ∀ r, (xy_h Y r).isSome = true → r < 1000) {c : Nat} {G : Nat → Value} (hG : ∀ j, j < c → ∃ x : Int32, G j = .int x) (hl : ∀ v ∈ ls, ∀ a : Nat, v = .ref a → a ≠ 4002 ∧ a ≠ 4003) (hst : ∀ v ∈ st, ∀ a : Nat, v = .ref a → a ≠ 4002 ∧ a ≠ 4003) (kk : SW Y k9 n9 (hL h0 z τ σ n (some (c, G))) pc ls st) : SW Y k9 n9 (hLc h0 z τ σ n c G) pc ls st := by
  have hfx : ∀ v : Value, (∀ a : Nat, v = .ref a → a ≠ 4002 ∧ a ≠ 4003) → vk κS v = v := fun v hv => by
    cases v with
    | ref a =>
      have := hv a rfl
      exact congrArg Value.ref (κS_o this.1 this.2)
    | _ => rfl
  have nr : ∀ r, (hLc h0 z τ σ n c G r).isSome = true → r ≠ 4502 ∧ r ≠ 4503 := fun r hr => by
    refine ⟨fun e => ?_, fun e => ?_⟩ <;> rw [e, hLc_o (by omega) (by omega) (by omega), mc_no hB (by omega) (by omega)] at hr <;> cases hr
  refine sw_ren κS κS' (fun r hr => ?_) (fun r hr => κS_o (by have := hY0 r hr; omega) (by have := hY0 r hr; omega)) (fun r hr => ⟨fun h => κS_o (by omega) (by omega), fun h => ?_⟩) (fun r' c' e => ?_) (fun r hr => ?_) (fun v hv => hfx v (hl v hv)) (fun v hv => hfx v (hst v hv)) kk
  · obtain ⟨a1, a2⟩ := nr r hr
    unfold κS κS'
    by_cases x1 : r = 4002
    · rw [if_pos x1, if_pos rfl, x1]
    · rw [if_neg x1]
      by_cases x2 : r = 4003
      · rw [if_pos x2, if_neg (by omega), if_pos rfl, x2]
      · rw [if_neg x2, if_neg a1, if_neg a2]
  · unfold κS
    split
    · omega
    · split <;> omega
  · by_cases x1 : r' = 4500
    · subst x1
      rw [hL_4500] at e
      cases e
      refine ⟨4500, _, hLc_4500, κS_o (by omega) (by omega), rfl, rfl, fun j hj => ?_⟩
      have hj' : j < 2 := hj
      match j, hj' with
      | 0, _ => rfl
      | 1, _ => rfl
    · by_cases x2 : r' = 4502
      · subst x2
        rw [hL_some.1] at e
        cases e
        refine ⟨4002, _, hLc_4002, rfl, rfl, rfl, fun j hj => ?_⟩
        have hj' : j < 4 := hj
        match j, hj' with
        | 0, _ => rfl
        | 1, _ => rfl
        | 2, _ => rfl
        | 3, _ => rfl
      · by_cases x3 : r' = 4503
        · subst x3
          rw [hL_some.2] at e
          cases e
          refine ⟨4003, _, hLc_4003, rfl, rfl, rfl, fun j hj => ?_⟩
          obtain ⟨x, ex⟩ := hG j hj
          show G j = vk κS (G j)
          rw [ex]
          rfl
        · rw [hL_mc x1 x2 x3] at e
          have n2 : r' ≠ 4002 := fun a => by rw [a, mc_no hB (by omega) (by omega)] at e; cases e
          have n3 : r' ≠ 4003 := fun a => by rw [a, mc_no hB (by omega) (by omega)] at e; cases e
          refine ⟨r', c', (hLc_o x1 n2 n3).trans e, κS_o n2 n3, rfl, rfl, fun j hj => ?_⟩
          refine (hfx _ fun a hv => ?_).symm
          have := mc_ref hB.2.2 (h0_ref hB hc0) hcb e hj hv
          omega
  · unfold κS
    by_cases x1 : r = 4002
    · rw [if_pos x1, hL_some.1]; rfl
    · rw [if_neg x1]
      by_cases x2 : r = 4003
      · rw [if_pos x2, hL_some.2]; rfl
      · rw [if_neg x2]
        by_cases x3 : r = 4500
        · rw [x3, hL_4500]; rfl
        · rw [hLc_o x3 x1 x2] at hr
          obtain ⟨a1, a2⟩ : r ≠ 4502 ∧ r ≠ 4503 := ⟨fun e => (by rw [e, mc_no hB (by omega) (by omega)] at hr; cases hr), fun e => (by rw [e, mc_no hB (by omega) (by omega)] at hr; cases hr)⟩
          rw [hL_mc x3 a1 a2]
          exact hr
/-- behind the class's chart: the old text goes, the new one gets its name -/
theorem sw_chartfix {Y : XY} {k9 n9 pc : Nat} {ls st : List Value} (hB : okB h0) (hc0 : xx_cls h0) (hcb : cbd (ctl τ)) (hY0 : ∀ r, (xy_h Y r).isSome = true → r < 1000 ∧ (h0 r).isSome = true) {c : Nat} {G : Nat → Value} (hG : ∀ j, j < c → ∃ x : Int32, G j = .int x) (hl : ∀ v ∈ ls, ∀ a : Nat, v = .ref a → a = 4500 ∨ ((setM z τ (setC σ h0)) a).isSome = true) (hst : ∀ v ∈ st, ∀ a : Nat, v = .ref a → a = 4500 ∨ ((setM z τ (setC σ h0)) a).isSome = true) (kk : SW Y k9 n9 (hL h0 z τ σ n (some (c, G))) pc ls st) : SW Y k9 n9 (xx_up (xx_up (xx_up (setC σ (setM z τ (hO h0 n s))) 4002 (0, 4, xx_so 4003)) 4003 (102, c, G)) 4500 (14, 2, updV (fO n (sO s)) 1 (.ref 4002))) pc ls st := by
  have eF : updV (fO n (sO s)) 1 (.ref 4002) = fO n (.ref 4002) := by
    funext k
    match k with
    | 0 => rfl
    | 1 => rfl
    | k + 2 => rfl
  rw [eF, ← hL_c (s := s)]
  have mcS : ∀ a : Nat, ((setM z τ (setC σ h0)) a).isSome = true → a ≠ 4002 ∧ a ≠ 4003 := fun a ha => ⟨fun e => (by rw [e, mc_no hB (by omega) (by omega)] at ha; cases ha), fun e => (by rw [e, mc_no hB (by omega) (by omega)] at ha; cases ha)⟩
  have inD : ∀ a : Nat, (a = 4500 ∨ ((setM z τ (setC σ h0)) a).isSome = true) → (hLc h0 z τ σ n c G a).isSome = true := fun a ha => by
    by_cases x3 : a = 4500
    · rw [x3, hLc_4500]; rfl
    · have h9 := ha.resolve_left x3
      obtain ⟨m1, m2⟩ := mcS a h9
      rw [hLc_o x3 m1 m2]
      exact h9
  refine sw_cls (fun hcl => ?_)
  refine sw_drop (h2 := hLc h0 z τ σ n c G) (fun q d e => ?_) (fun r c9 j e hj => ?_) (fun r hr => ?_) (fun v hv => ?_) (fun v hv => ?_) ?_
  · by_cases x3 : q = 4500
    · rw [x3, hLc_4500] at e
      rw [x3, xx_up_eq]; exact e
    · rw [xx_up_ne x3]
      by_cases x2 : q = 4003
      · rw [x2, hLc_4003] at e
        rw [x2, xx_up_eq]; exact e
      · rw [xx_up_ne x2]
        by_cases x1 : q = 4002
        · rw [x1, hLc_4002] at e
          rw [x1, xx_up_eq]; exact e
        · rw [xx_up_ne x1]
          rw [hLc_o x3 x1 x2] at e
          have a1 : q ≠ 4502 := fun a => by rw [a, mc_no hB (by omega) (by omega)] at e; cases e
          have a2 : q ≠ 4503 := fun a => by rw [a, mc_no hB (by omega) (by omega)] at e; cases e
          rw [hL_mc x3 a1 a2]
          exact e
  · by_cases x3 : r = 4500
    · rw [x3, hLc_4500] at e
      cases e
      have hj' : j < 2 := hj
      match j, hj' with
      | 0, _ => trivial
      | 1, _ => exact (by rw [hLc_4002]; rfl : (hLc h0 z τ σ n c G 4002).isSome = true)
    · by_cases x1 : r = 4002
      · rw [x1, hLc_4002] at e
        cases e
        have hj' : j < 4 := hj
        match j, hj' with
        | 0, _ => exact (by rw [hLc_4003]; rfl : (hLc h0 z τ σ n c G 4003).isSome = true)
        | 1, _ => trivial
        | 2, _ => trivial
        | 3, _ => trivial
      · by_cases x2 : r = 4003
        · rw [x2, hLc_4003] at e
          cases e
          obtain ⟨x, ex⟩ := hG j hj
          show xx_in _ (G j)
          rw [ex]
          trivial
        · rw [hLc_o x3 x1 x2] at e
          have a1 : r ≠ 4502 := fun a => by rw [a, mc_no hB (by omega) (by omega)] at e; cases e
          have a2 : r ≠ 4503 := fun a => by rw [a, mc_no hB (by omega) (by omega)] at e; cases e
          have t := hcl r c9 j ((xx_up_ne x3).trans ((xx_up_ne x2).trans ((xx_up_ne x1).trans ((hL_mc x3 a1 a2).trans e)))) hj
          have hne : ∀ a : Nat, c9.2.2 j = .ref a → ¬ (4000 ≤ a ∧ a < 5000) := fun a hv => by
            have := mc_ref hB.2.2 (h0_ref hB hc0) hcb e hj hv
            omega
          revert t
          cases ev : c9.2.2 j with
          | ref a =>
            intro t
            have na := hne a ev
            have t' : ((xx_up (xx_up (xx_up (hL h0 z τ σ n s) 4002 (0, 4, xx_so 4003)) 4003 (102, c, G)) 4500 (14, 2, fO n (.ref 4002))) a).isSome = true := t
            rw [xx_up_ne (by omega), xx_up_ne (by omega), xx_up_ne (by omega), hL_mc (by omega) (by omega) (by omega)] at t'
            exact inD a (.inr t')
          | _ => exact fun _ => trivial
  · obtain ⟨b1, b2⟩ := hY0 r hr
    have e : setM z τ (setC σ h0) r = h0 r := (setM_out (by omega)).trans (setC_out (by omega))
    exact inD r (.inr (by rw [e]; exact b2))
  · cases v with
    | ref a => exact inD a (hl _ hv a rfl)
    | _ => trivial
  · cases v with
    | ref a => exact inD a (hst _ hv a rfl)
    | _ => trivial
  · exact sw_renS hB hc0 hcb (fun r hr => (hY0 r hr).1) hG (fun v hv a e => by
      rcases hl v hv a e with h | h
      · omega
      · exact mcS a h) (fun v hv a e => by
      rcases hst v hv a e with h | h
      · omega
      · exact mcS a h) kk
end
end
