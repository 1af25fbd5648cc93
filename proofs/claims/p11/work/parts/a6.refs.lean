section
/-! ===== what the cells name ===== -/
def cbd (C : XS9) : Prop := cn (C 5001 900) ≤ 5 ∧ cn (C 5002 900) ≤ 6 ∧ cn (C 5003 900) ≤ 60 ∧ (∀ j, j < 10 → cn (C (5030 + j) 900) ≤ 20) ∧ ∀ b, (b = 7000 ∨ b = 8000) → cn (C b 21) ≤ 60 ∧ cn (C b 22) ≤ 60 ∧ cn (C b 23) < 200 ∧ cn (C b 24) < 200
theorem box_ref {v : Int32} {e a : Nat} (h : Value.ref (xx_box v e) = .ref a) : a < 456 ∨ a = e := by
  have h9 : (_ : Nat) = a := Value.ref.inj h
  unfold xx_box at h9
  by_cases hs : xx_small v
  · rw [if_pos hs] at h9
    have := (small_nat hs).2
    left
    omega
  · rw [if_neg hs] at h9
    exact .inr h9.symm
theorem lyB_ref {C : XS9} {b i j a : Nat} {s : Nat → Int32} {c : XC} (hb : b = 7000 ∨ b = 8000) (h1 : cn (C b 21) ≤ 60) (h2 : cn (C b 22) ≤ 60) (h3 : cn (C b 23) < 200) (h4 : cn (C b 24) < 200) (e : lyB C b i s = some c) (hj : j < c.2.1) (hv : c.2.2 j = .ref a) : 5000 ≤ a ∧ a < 10200 := by
  unfold lyB at e
  by_cases w0 : i < 8
  · rw [if_pos w0] at e
    split at e <;> first | (cases e; done) | (cases e; dsimp only at hj hv; revert hv; (repeat' split) <;> intro hv <;> first | (cases hv; done) | (have h9 : (_ : Nat) = a := Value.ref.inj hv; omega))
  rw [if_neg w0] at e
  by_cases u0 : i < 200
  · rw [if_pos u0] at e
    split at e <;> first | (cases e; done) | (cases e; cases hv)
  rw [if_neg u0] at e
  by_cases u1 : i < 300
  · rw [if_pos u1] at e
    split at e <;> first | (cases e; done) | (cases e; cases hv)
  rw [if_neg u1] at e
  by_cases u2 : i < 700
  · rw [if_pos u2] at e
    split at e <;> first | (cases e; done) | (cases e; cases hv)
  rw [if_neg u2] at e
  by_cases u3 : i < 900
  · rw [if_pos u3] at e
    split at e <;> first | (cases e; done) | (cases e; cases hv)
  rw [if_neg u3] at e
  cases e
theorem lyQ_ref {z : Int64} {C : XS9} {r j a : Nat} {s : Nat → Int32} {c : XC} (hb : cbd C) (e : lyQ z C r s = some c) (hj : j < c.2.1) (hv : c.2.2 j = .ref a) : a < 456 ∨ (5000 ≤ a ∧ (r ≠ 5004 → a < 10200)) := by
  obtain ⟨b1, b2, b3, b4, b5⟩ := hb
  unfold lyQ at e
  by_cases w0 : r < 5010
  · rw [if_pos w0] at e
    by_cases x4 : r = 5004
    · subst x4
      cases e
      have h9 := box_ref hv
      rcases h9 with h9 | h9
      · exact .inl h9
      · right
        have := nmS_r (σ := C) j
        exact ⟨by omega, fun h => absurd rfl h⟩
    · right
      split at e <;> first | (cases e; done) | (exact absurd rfl x4) | (cases e; dsimp only at hj hv; revert hv; (repeat' split) <;> intro hv <;> first | (cases hv; done) | (have h9 : (_ : Nat) = a := Value.ref.inj hv; omega))
  rw [if_neg w0] at e
  by_cases u0 : r < 5020
  · rw [if_pos u0] at e
    split at e <;> first | (cases e; done) | (cases e; cases hv)
  rw [if_neg u0] at e
  by_cases u1 : r < 5030
  · rw [if_pos u1] at e
    right
    split at e
    · cases e
      dsimp only at hj hv
      by_cases k0 : j = 5
      · rw [if_pos k0] at hv
        have h9 : (_ : Nat) = a := Value.ref.inj hv
        omega
      · rw [if_neg k0] at hv
        cases hv
    · cases e
  rw [if_neg u1] at e
  by_cases u2 : r < 5040
  · rw [if_pos u2] at e
    split at e
    · cases e
      have h8 := b4 (r - 5030) (by omega)
      rw [show 5030 + (r - 5030) = r by omega] at h8
      have hj' : j < cn (C r 900) := hj
      rcases box_ref hv with h9 | h9
      · exact .inl h9
      · right
        unfold nmP at h9
        omega
    · cases e
  rw [if_neg u2] at e
  by_cases u3 : r < 5200
  · rw [if_pos u3] at e
    cases e
  rw [if_neg u3] at e
  by_cases u4 : r < 5300
  · rw [if_pos u4] at e
    right
    split at e
    · cases e
      dsimp only at hj hv
      by_cases k0 : j = 0
      · rw [if_pos k0] at hv
        cases hv
      · rw [if_neg k0] at hv
        have h9 : (_ : Nat) = a := Value.ref.inj hv
        omega
    · cases e
  rw [if_neg u4] at e
  by_cases u5 : r < 6000
  · rw [if_pos u5] at e
    cases e
  rw [if_neg u5] at e
  by_cases u6 : r < 6100
  · rw [if_pos u6] at e
    split at e <;> first | (cases e; done) | (cases e; cases hv)
  rw [if_neg u6] at e
  by_cases u7 : r < 6200
  · rw [if_pos u7] at e
    split at e <;> first | (cases e; done) | (cases e; cases hv)
  rw [if_neg u7] at e
  by_cases u8 : r < 6300
  · rw [if_pos u8] at e
    split at e <;> first | (cases e; done) | (cases e; cases hv)
  rw [if_neg u8] at e
  by_cases u9 : r < 6400
  · rw [if_pos u9] at e
    split at e <;> first | (cases e; done) | (cases e; cases hv)
  rw [if_neg u9] at e
  by_cases v0 : r < 7000
  · rw [if_pos v0] at e
    cases e
  rw [if_neg v0] at e
  by_cases v1 : r < 8000
  · rw [if_pos v1] at e
    split at e
    · cases e
    · obtain ⟨q1, q2, q3, q4⟩ := b5 7000 (.inl rfl)
      have := lyB_ref (.inl rfl) q1 q2 q3 q4 e hj hv
      exact .inr ⟨this.1, fun _ => this.2⟩
  rw [if_neg v1] at e
  by_cases v2 : r < 9000
  · rw [if_pos v2] at e
    split at e
    · cases e
    · obtain ⟨q1, q2, q3, q4⟩ := b5 8000 (.inr rfl)
      have := lyB_ref (.inr rfl) q1 q2 q3 q4 e hj hv
      exact .inr ⟨this.1, fun _ => this.2⟩
  rw [if_neg v2] at e
  by_cases v3 : r < 9010
  · rw [if_pos v3] at e
    split at e
    · cases e
    · right
      split at e <;> first | (cases e; done) | (cases e; dsimp only at hj hv; revert hv; (repeat' split) <;> intro hv <;> first | (cases hv; done) | (have h9 : (_ : Nat) = a := Value.ref.inj hv; omega))
  rw [if_neg v3] at e
  by_cases v4 : r < 10000
  · rw [if_pos v4] at e
    cases e
  rw [if_neg v4] at e
  by_cases v5 : r < 10200
  · rw [if_pos v5] at e
    split at e <;> first | (cases e; done) | (cases e; cases hv)
  rw [if_neg v5] at e
  by_cases v6 : r < 10300
  · rw [if_pos v6] at e
    split at e <;> first | (cases e; done) | (cases e; cases hv)
  rw [if_neg v6] at e
  by_cases v7 : r < 20000
  · rw [if_pos v7] at e
    cases e
  rw [if_neg v7] at e
  by_cases v8 : r < 20010
  · rw [if_pos v8] at e
    split at e <;> first | (cases e; done) | (cases e; cases hv)
  rw [if_neg v8] at e
  cases e
theorem lyK_ref {b i j a : Nat} {s : Nat → Int32} {c : XC} (hb : b = 2000 ∨ b = 3000) (hi : i < 1000) (e : lyK b i s = some c) (hj : j < c.2.1) (hv : c.2.2 j = .ref a) : 1000 ≤ a ∧ a < 4000 := by
  unfold lyK at e
  (repeat' split at e) <;> first | (cases e; done) | (cases e; dsimp only at hj hv; revert hv; (repeat' split) <;> intro hv <;> first | (cases hv; done) | (have h9 : (_ : Nat) = a := Value.ref.inj hv; omega))
theorem lyC_ref {r j a : Nat} {s : Nat → Int32} {c : XC} (hr : 1000 ≤ r ∧ r < 4000) (e : lyC r s = some c) (hj : j < c.2.1) (hv : c.2.2 j = .ref a) : 1000 ≤ a ∧ a < 4000 := by
  unfold lyC at e
  by_cases w0 : 3000 ≤ r
  · rw [if_pos w0] at e
    exact lyK_ref (.inr rfl) (by omega) e hj hv
  rw [if_neg w0] at e
  by_cases w1 : 2000 ≤ r
  · rw [if_pos w1] at e
    exact lyK_ref (.inl rfl) (by omega) e hj hv
  rw [if_neg w1] at e
  by_cases x1 : 1021 < r ∧ r ≤ 1027
  · rw [if_pos x1] at e; cases e; cases hv
  rw [if_neg x1] at e
  by_cases x2 : 1030 < r ∧ r ≤ 1036
  · rw [if_pos x2] at e; cases e; cases hv
  rw [if_neg x2] at e
  by_cases x3 : 1050 < r ∧ r ≤ 1114
  · rw [if_pos x3] at e; cases e; cases hv
  rw [if_neg x3] at e
  by_cases x4 : 1120 < r ∧ r ≤ 1124
  · rw [if_pos x4] at e; cases e; cases hv
  rw [if_neg x4] at e
  by_cases x5 : 1130 < r ∧ r ≤ 1133
  · rw [if_pos x5] at e; cases e; cases hv
  rw [if_neg x5] at e
  by_cases x6 : 1140 < r ∧ r ≤ 1145
  · rw [if_pos x6] at e; cases e; cases hv
  rw [if_neg x6] at e
  split at e <;> first | (cases e; done) | (cases e; cases hv; done) | (cases e; dsimp only at hj hv; revert hv; (repeat' split) <;> intro hv <;> first | (cases hv; done) | (have h9 : (_ : Nat) = a := Value.ref.inj hv; omega))
/-- no cell of the two sides names what lies between 4000 and 5000 -/
theorem mc_ref {h0 : XH} {z : Int64} {τ σ : XS9} {r j a : Nat} {c : XC} (h0b : ∀ r, 1000 ≤ r → h0 r = none) (h0c : ∀ (r : Nat) (c : XC) (j a : Nat), h0 r = some c → j < c.2.1 → c.2.2 j = .ref a → a < 1000) (hb : cbd (ctl τ)) (e : setM z τ (setC σ h0) r = some c) (hj : j < c.2.1) (hv : c.2.2 j = .ref a) : a < 4000 ∨ (5000 ≤ a ∧ (r ≠ 5004 → a < 10200)) := by
  unfold setM at e
  by_cases w : 5000 ≤ r ∧ r < 20010
  · rw [if_pos w] at e
    cases e9 : lyQ z (ctl τ) r (τ r) with
    | none =>
      rw [e9] at e
      have e' : setC σ h0 r = some c := e
      rw [setC_out (by omega), h0b r (by omega)] at e'
      cases e'
    | some c9 =>
      rw [e9] at e
      cases e
      rcases lyQ_ref hb e9 hj hv with h | h
      · left; omega
      · exact .inr h
  · rw [if_neg w] at e
    left
    unfold setC at e
    by_cases w2 : 1000 ≤ r ∧ r < 4000
    · rw [if_pos w2] at e
      exact (lyC_ref w2 e hj hv).2
    · rw [if_neg w2] at e
      have := h0c r c j a e hj hv
      omega
end
section
/-! ===== what the law drops ===== -/
def boxO (h : XH) : Option (Int32 × Nat) → XH
  | none => h
  | some p => boxK h p.1 p.2
section
variable {h0 : XH} {z : Int64} {τ σ : XS9} {n : Int64} {s : Option (Nat × (Nat → Value))}
theorem h0_ref (hB : okB h0) (hc0 : xx_cls h0) (r : Nat) (c : XC) (j a : Nat) (e : h0 r = some c) (hj : j < c.2.1) (hv : c.2.2 j = .ref a) : a < 1000 := by
  have := hc0 r c j e hj
  rw [hv] at this
  rcases Nat.lt_or_ge a 1000 with h | h
  · exact h
  · have e9 : (h0 a).isSome = true := this
    rw [hB.2.2 a h] at e9
    cases e9
theorem hL_mc {q : Nat} (h1 : q ≠ 4500) (h2 : q ≠ 4502) (h3 : q ≠ 4503) : hL h0 z τ σ n s q = setM z τ (setC σ h0) q := by
  by_cases a : 5000 ≤ q ∧ q < 20010
  · unfold hL setM
    rw [if_pos a, if_pos a]
    cases e : lyQ z (ctl τ) q (τ q) with
    | none => exact (setC_out (by omega)).trans ((hO_o h1 h2 h3).trans (setC_out (by omega)).symm)
    | some c => rfl
  · unfold hL
    rw [setM_out a, setM_out a]
    unfold setC
    split
    · rfl
    · exact hO_o h1 h2 h3
theorem hL_some {p : Nat × (Nat → Value)} : hL h0 z τ σ n (some p) 4502 = some (0, 4, xx_so 4503) ∧ hL h0 z τ σ n (some p) 4503 = some (102, p.1, p.2) := ⟨(setM_out (by omega)).trans ((setC_out (by omega)).trans ((xx_up_ne (by omega)).trans (xx_up_eq _ _ _))), (setM_out (by omega)).trans ((setC_out (by omega)).trans (xx_up_eq _ _ _))⟩
theorem hL_none (hB : okB h0) {q : Nat} (hq : q = 4502 ∨ q = 4503) : hL h0 z τ σ n none q = none := by
  have : hO h0 n none q = none := (xx_up_ne (by omega)).trans (hB.2.2 q (by omega))
  exact (setM_out (by omega)).trans ((setC_out (by omega)).trans this)
theorem mc_no (hB : okB h0) {q : Nat} (h1 : 4000 ≤ q) (h2 : q < 5000) : setM z τ (setC σ h0) q = none := (setM_out (by omega)).trans ((setC_out (by omega)).trans (hB.2.2 q (by omega)))
theorem drop_ask (hB : okB h0) (hc0 : xx_cls h0) (hcb : cbd (ctl τ)) {b : Option (Int32 × Nat)} (hb : ∀ p, b = some p → 10200 ≤ p.2 ∧ p.2 < 10300 ∧ (∀ s, lyQ z (ctl τ) p.2 s = none) ∧ ∀ k, k < cn (τ 5004 900) → xx_box (τ 5004 k) (nmS τ k) ≠ p.2) (hS : ∀ p, s = some p → ∀ j, j < p.1 → ∃ x : Int32, p.2 j = .int x) : xx_sub (hL h0 z τ σ n s) (setM z τ (boxO (setC σ (hO h0 n s)) b)) ∧ (xx_cls (setM z τ (boxO (setC σ (hO h0 n s)) b)) → xx_cls (hL h0 z τ σ n s)) := by
  cases b with
  | none => exact ⟨fun r d e => e, fun e => e⟩
  | some p =>
    obtain ⟨w, e⟩ := p
    obtain ⟨h1, h2, h3, h4⟩ := hb _ rfl
    dsimp only at h1 h2 h3 h4
    show xx_sub (hL h0 z τ σ n s) (setM z τ (boxK (setC σ (hO h0 n s)) w e)) ∧ (xx_cls (setM z τ (boxK (setC σ (hO h0 n s)) w e)) → xx_cls (hL h0 z τ σ n s))
    unfold boxK
    by_cases hs : xx_small w
    · rw [if_pos hs]
      exact ⟨fun r d e => e, fun e => e⟩
    · rw [if_neg hs, setM_up (.inr (h3 _))]
      have no : hL h0 z τ σ n s e = none := (setM_no (h3 _)).trans ((okM.lo (.inr (by omega))).trans (hB.2.2 e (by omega)))
      refine ⟨fun r d q => ?_, fun hcl r c j q hj => ?_⟩
      · by_cases a : r = e
        · rw [a, no] at q; cases q
        · rw [xx_up_ne a]; exact q
      · have ne : r ≠ e := fun a => by rw [a, no] at q; cases q
        have t := hcl r c j ((xx_up_ne ne).trans q) hj
        have hne : ∀ a : Nat, c.2.2 j = .ref a → a ≠ e := fun a hv => by
          by_cases x1 : r = 4500
          · rw [x1, hL_4500] at q
            cases q
            have hv' : fO n (sO s) j = .ref a := hv
            have hj' : j < 2 := hj
            match j, hj' with
            | 0, _ => cases hv'
            | 1, _ =>
              cases s with
              | none => cases hv'
              | some p =>
                have h9 : (4502 : Nat) = a := Value.ref.inj hv'
                omega
          · by_cases x2 : r = 4502
            · cases s with
              | none => rw [x2, hL_none hB (.inl rfl)] at q; cases q
              | some p =>
                rw [x2, hL_some.1] at q
                cases q
                have hv' : xx_so 4503 j = .ref a := hv
                have hj' : j < 4 := hj
                match j, hj' with
                | 0, _ =>
                  have h9 : (4503 : Nat) = a := Value.ref.inj hv'
                  omega
                | 1, _ => cases hv'
                | 2, _ => cases hv'
                | 3, _ => cases hv'
            · by_cases x3 : r = 4503
              · cases s with
                | none => rw [x3, hL_none hB (.inr rfl)] at q; cases q
                | some p =>
                  rw [x3, hL_some.2] at q
                  cases q
                  obtain ⟨x, ex⟩ := hS p rfl j hj
                  have hv' : p.2 j = .ref a := hv
                  rw [ex] at hv'
                  cases hv'
              · rw [hL_mc x1 x2 x3] at q
                by_cases x4 : r = 5004
                · subst x4
                  have q' : lyQ z (ctl τ) 5004 (τ 5004) = some c := by
                    unfold setM at q
                    rw [if_pos (by omega)] at q
                    exact q
                  cases q'
                  intro a9
                  have hv' : Value.ref (xx_box (τ 5004 j) (nmS τ j)) = .ref a := hv
                  have h9 : (xx_box (τ 5004 j) (nmS τ j) : Nat) = a := Value.ref.inj hv'
                  exact h4 j hj (h9.trans a9)
                · have := mc_ref hB.2.2 (h0_ref hB hc0) hcb q hj hv
                  omega
        revert t
        cases ev : c.2.2 j with
        | ref a =>
          intro t
          have t' : (xx_up (setM z τ (setC σ (hO h0 n s))) e (2, 1, fun _ => .int w) a).isSome = true := t
          rw [xx_up_ne (hne a ev)] at t'
          exact t'
        | _ => exact fun _ => trivial
/-- the heap behind the class's chart, its text named anew -/
def hLc (h0 : XH) (z : Int64) (τ σ : XS9) (n : Int64) (c : Nat) (G : Nat → Value) : XH := xx_up (xx_up (xx_up (setM z τ (setC σ h0)) 4500 (14, 2, fO n (.ref 4002))) 4002 (0, 4, xx_so 4003)) 4003 (102, c, G)
theorem hLc_4500 {c : Nat} {G : Nat → Value} : hLc h0 z τ σ n c G 4500 = some (14, 2, fO n (.ref 4002)) := (xx_up_ne (by omega)).trans ((xx_up_ne (by omega)).trans (xx_up_eq _ _ _))
theorem hLc_4002 {c : Nat} {G : Nat → Value} : hLc h0 z τ σ n c G 4002 = some (0, 4, xx_so 4003) := (xx_up_ne (by omega)).trans (xx_up_eq _ _ _)
theorem hLc_4003 {c : Nat} {G : Nat → Value} : hLc h0 z τ σ n c G 4003 = some (102, c, G) := xx_up_eq _ _ _
theorem hLc_o {c : Nat} {G : Nat → Value} {q : Nat} (h1 : q ≠ 4500) (h2 : q ≠ 4002) (h3 : q ≠ 4003) : hLc h0 z τ σ n c G q = setM z τ (setC σ h0) q := (xx_up_ne h3).trans ((xx_up_ne h2).trans (xx_up_ne h1))
def κS (q : Nat) : Nat := if q = 4002 then 4502 else if q = 4003 then 4503 else q
def κS' (q : Nat) : Nat := if q = 4502 then 4002 else if q = 4503 then 4003 else q
theorem κS_o {q : Nat} (h1 : q ≠ 4002) (h2 : q ≠ 4003) : κS q = q := by unfold κS; rw [if_neg h1, if_neg h2]
theorem sw_renS {Y : XY} {k9 n9 pc : Nat} {ls st : List Value} (hB : okB h0) (hc0 : xx_cls h0) (hcb : cbd (ctl τ)) (hY0 : ∀ r, (xy_h Y r).isSome = true → r < 1000) {c : Nat} {G : Nat → Value} (hG : ∀ j, j < c → ∃ x : Int32, G j = .int x) (hl : ∀ v ∈ ls, ∀ a : Nat, v = .ref a → a ≠ 4002 ∧ a ≠ 4003) (hst : ∀ v ∈ st, ∀ a : Nat, v = .ref a → a ≠ 4002 ∧ a ≠ 4003) (kk : SW Y k9 n9 (hL h0 z τ σ n (some (c, G))) pc ls st) : SW Y k9 n9 (hLc h0 z τ σ n c G) pc ls st := by
  have hfx : ∀ v : Value, (∀ a : Nat, v = .ref a → a ≠ 4002 ∧ a ≠ 4003) → vk κS v = v := fun v hv => by
    cases v with
    | ref a =>
      have := hv a rfl
      exact congrArg Value.ref (κS_o this.1 this.2)
    | _ => rfl
  have nr : ∀ r, (hLc h0 z τ σ n c G r).isSome = true → r ≠ 4502 ∧ r ≠ 4503 := fun r hr => by
    refine ⟨fun e => ?_, fun e => ?_⟩ <;> rw [e, hLc_o (by omega) (by omega) (by omega), mc_no hB (by omega) (by omega)] at hr <;> cases hr
  refine sw_ren κS κS' (fun r hr => ?_) (fun r hr => κS_o (by have := hY0 r hr; omega) (by have := hY0 r hr; omega)) (fun r hr => ⟨fun h => κS_o (by omega) (by omega), fun h => ?_⟩) (fun r' c' e => ?_) (fun r hr => ?_) (fun v hv => hfx v (hl v hv)) (fun v hv => hfx v (hst v hv)) kk
  · obtain ⟨a1, a2⟩ := nr r hr
    unfold κS κS'
    by_cases x1 : r = 4002
    · rw [if_pos x1, if_pos rfl, x1]
    · rw [if_neg x1]
      by_cases x2 : r = 4003
      · rw [if_pos x2, if_neg (by omega), if_pos rfl, x2]
      · rw [if_neg x2, if_neg a1, if_neg a2]
  · unfold κS
    split
    · omega
    · split <;> omega
  · by_cases x1 : r' = 4500
    · subst x1
      rw [hL_4500] at e
      cases e
      refine ⟨4500, _, hLc_4500, κS_o (by omega) (by omega), rfl, rfl, fun j hj => ?_⟩
      have hj' : j < 2 := hj
      match j, hj' with
      | 0, _ => rfl
      | 1, _ => rfl
    · by_cases x2 : r' = 4502
      · subst x2
        rw [hL_some.1] at e
        cases e
        refine ⟨4002, _, hLc_4002, rfl, rfl, rfl, fun j hj => ?_⟩
        have hj' : j < 4 := hj
        match j, hj' with
        | 0, _ => rfl
        | 1, _ => rfl
        | 2, _ => rfl
        | 3, _ => rfl
      · by_cases x3 : r' = 4503
        · subst x3
          rw [hL_some.2] at e
          cases e
          refine ⟨4003, _, hLc_4003, rfl, rfl, rfl, fun j hj => ?_⟩
          obtain ⟨x, ex⟩ := hG j hj
          show G j = vk κS (G j)
          rw [ex]
          rfl
        · rw [hL_mc x1 x2 x3] at e
          have n2 : r' ≠ 4002 := fun a => by rw [a, mc_no hB (by omega) (by omega)] at e; cases e
          have n3 : r' ≠ 4003 := fun a => by rw [a, mc_no hB (by omega) (by omega)] at e; cases e
          refine ⟨r', c', (hLc_o x1 n2 n3).trans e, κS_o n2 n3, rfl, rfl, fun j hj => ?_⟩
          refine (hfx _ fun a hv => ?_).symm
          have := mc_ref hB.2.2 (h0_ref hB hc0) hcb e hj hv
          omega
  · unfold κS
    by_cases x1 : r = 4002
    · rw [if_pos x1, hL_some.1]; rfl
    · rw [if_neg x1]
      by_cases x2 : r = 4003
      · rw [if_pos x2, hL_some.2]; rfl
      · rw [if_neg x2]
        by_cases x3 : r = 4500
        · rw [x3, hL_4500]; rfl
        · rw [hLc_o x3 x1 x2] at hr
          obtain ⟨a1, a2⟩ : r ≠ 4502 ∧ r ≠ 4503 := ⟨fun e => (by rw [e, mc_no hB (by omega) (by omega)] at hr; cases hr), fun e => (by rw [e, mc_no hB (by omega) (by omega)] at hr; cases hr)⟩
          rw [hL_mc x3 a1 a2]
          exact hr
/-- behind the class's chart: the old text goes, the new one gets its name -/
theorem sw_chartfix {Y : XY} {k9 n9 pc : Nat} {ls st : List Value} (hB : okB h0) (hc0 : xx_cls h0) (hcb : cbd (ctl τ)) (hY0 : ∀ r, (xy_h Y r).isSome = true → r < 1000 ∧ (h0 r).isSome = true) {c : Nat} {G : Nat → Value} (hG : ∀ j, j < c → ∃ x : Int32, G j = .int x) (hl : ∀ v ∈ ls, ∀ a : Nat, v = .ref a → a = 4500 ∨ ((setM z τ (setC σ h0)) a).isSome = true) (hst : ∀ v ∈ st, ∀ a : Nat, v = .ref a → a = 4500 ∨ ((setM z τ (setC σ h0)) a).isSome = true) (kk : SW Y k9 n9 (hL h0 z τ σ n (some (c, G))) pc ls st) : SW Y k9 n9 (xx_up (xx_up (xx_up (setC σ (setM z τ (hO h0 n s))) 4002 (0, 4, xx_so 4003)) 4003 (102, c, G)) 4500 (14, 2, updV (fO n (sO s)) 1 (.ref 4002))) pc ls st := by
  have eF : updV (fO n (sO s)) 1 (.ref 4002) = fO n (.ref 4002) := by
    funext k
    match k with
    | 0 => rfl
    | 1 => rfl
    | k + 2 => rfl
  rw [eF, ← hL_c (s := s)]
  have mcS : ∀ a : Nat, ((setM z τ (setC σ h0)) a).isSome = true → a ≠ 4002 ∧ a ≠ 4003 := fun a ha => ⟨fun e => (by rw [e, mc_no hB (by omega) (by omega)] at ha; cases ha), fun e => (by rw [e, mc_no hB (by omega) (by omega)] at ha; cases ha)⟩
  have inD : ∀ a : Nat, (a = 4500 ∨ ((setM z τ (setC σ h0)) a).isSome = true) → (hLc h0 z τ σ n c G a).isSome = true := fun a ha => by
    by_cases x3 : a = 4500
    · rw [x3, hLc_4500]; rfl
    · have h9 := ha.resolve_left x3
      obtain ⟨m1, m2⟩ := mcS a h9
      rw [hLc_o x3 m1 m2]
      exact h9
  refine sw_cls (fun hcl => ?_)
  refine sw_drop (h2 := hLc h0 z τ σ n c G) (fun q d e => ?_) (fun r c9 j e hj => ?_) (fun r hr => ?_) (fun v hv => ?_) (fun v hv => ?_) ?_
  · by_cases x3 : q = 4500
    · rw [x3, hLc_4500] at e
      rw [x3, xx_up_eq]; exact e
    · rw [xx_up_ne x3]
      by_cases x2 : q = 4003
      · rw [x2, hLc_4003] at e
        rw [x2, xx_up_eq]; exact e
      · rw [xx_up_ne x2]
        by_cases x1 : q = 4002
        · rw [x1, hLc_4002] at e
          rw [x1, xx_up_eq]; exact e
        · rw [xx_up_ne x1]
          rw [hLc_o x3 x1 x2] at e
          have a1 : q ≠ 4502 := fun a => by rw [a, mc_no hB (by omega) (by omega)] at e; cases e
          have a2 : q ≠ 4503 := fun a => by rw [a, mc_no hB (by omega) (by omega)] at e; cases e
          rw [hL_mc x3 a1 a2]
          exact e
  · by_cases x3 : r = 4500
    · rw [x3, hLc_4500] at e
      cases e
      have hj' : j < 2 := hj
      match j, hj' with
      | 0, _ => trivial
      | 1, _ => exact (by rw [hLc_4002]; rfl : (hLc h0 z τ σ n c G 4002).isSome = true)
    · by_cases x1 : r = 4002
      · rw [x1, hLc_4002] at e
        cases e
        have hj' : j < 4 := hj
        match j, hj' with
        | 0, _ => exact (by rw [hLc_4003]; rfl : (hLc h0 z τ σ n c G 4003).isSome = true)
        | 1, _ => trivial
        | 2, _ => trivial
        | 3, _ => trivial
      · by_cases x2 : r = 4003
        · rw [x2, hLc_4003] at e
          cases e
          obtain ⟨x, ex⟩ := hG j hj
          show xx_in _ (G j)
          rw [ex]
          trivial
        · rw [hLc_o x3 x1 x2] at e
          have a1 : r ≠ 4502 := fun a => by rw [a, mc_no hB (by omega) (by omega)] at e; cases e
          have a2 : r ≠ 4503 := fun a => by rw [a, mc_no hB (by omega) (by omega)] at e; cases e
          have t := hcl r c9 j ((xx_up_ne x3).trans ((xx_up_ne x2).trans ((xx_up_ne x1).trans ((hL_mc x3 a1 a2).trans e)))) hj
          have hne : ∀ a : Nat, c9.2.2 j = .ref a → ¬ (4000 ≤ a ∧ a < 5000) := fun a hv => by
            have := mc_ref hB.2.2 (h0_ref hB hc0) hcb e hj hv
            omega
          revert t
          cases ev : c9.2.2 j with
          | ref a =>
            intro t
            have na := hne a ev
            have t' : ((xx_up (xx_up (xx_up (hL h0 z τ σ n s) 4002 (0, 4, xx_so 4003)) 4003 (102, c, G)) 4500 (14, 2, fO n (.ref 4002))) a).isSome = true := t
            rw [xx_up_ne (by omega), xx_up_ne (by omega), xx_up_ne (by omega), hL_mc (by omega) (by omega) (by omega)] at t'
            exact inD a (.inr t')
          | _ => exact fun _ => trivial
  · obtain ⟨b1, b2⟩ := hY0 r hr
    have e : setM z τ (setC σ h0) r = h0 r := (setM_out (by omega)).trans (setC_out (by omega))
    exact inD r (.inr (by rw [e]; exact b2))
  · cases v with
    | ref a => exact inD a (hl _ hv a rfl)
    | _ => trivial
  · cases v with
    | ref a => exact inD a (hst _ hv a rfl)
    | _ => trivial
  · exact sw_renS hB hc0 hcb (fun r hr => (hY0 r hr).1) hG (fun v hv a e => by
      rcases hl v hv a e with h | h
      · omega
      · exact mcS a h) (fun v hv a e => by
      rcases hst v hv a e with h | h
      · omega
      · exact mcS a h) kk
end
end
section
/-! ===== the law's loop ===== -/
def sInt (s : Option (Nat × (Nat → Value))) : Prop := ∀ p, s = some p → ∀ j, j < p.1 → ∃ x : Int32, p.2 j = .int x
theorem hL_in {h0 : XH} {z : Int64} {τ σ : XS9} {n : Int64} {s : Option (Nat × (Nat → Value))} {c11 : XC} (h11 : h0 11 = some c11) {i : Nat} : ∀ v ∈ ([.ref 11, .ref 1000, .ref 5000, .ref 4500, .int (nI (5 * i)), xx_d, xx_d] : List Value), xx_in (hL h0 z τ σ n s) v := by
  intro v hv
  simp only [List.mem_cons, List.not_mem_nil, or_false] at hv
  rcases hv with rfl | rfl | rfl | rfl | rfl | rfl | rfl
  · show (hL h0 z τ σ n s 11).isSome = true
    rw [hL_lo (by omega), h11]; rfl
  · obtain ⟨f, e⟩ := hL_1000 (h0 := h0) (z := z) (τ := τ) (σ := σ) (n := n) (s := s)
    show (hL h0 z τ σ n s 1000).isSome = true
    rw [e]; rfl
  · exact in_mod
  · show (hL h0 z τ σ n s 4500).isSome = true
    rw [hL_4500]; rfl
  · trivial
  · trivial
  · trivial
theorem mc_in {h0 : XH} {z : Int64} {τ σ : XS9} {c11 : XC} (h11 : h0 11 = some c11) {i : Nat} : ∀ v ∈ ([.ref 11, .ref 1000, .ref 5000, .ref 4500, .int (nI (5 * i)), xx_d, xx_d] : List Value), ∀ a : Nat, v = .ref a → a = 4500 ∨ ((setM z τ (setC σ h0)) a).isSome = true := by
  intro v hv a e
  simp only [List.mem_cons, List.not_mem_nil, or_false] at hv
  rcases hv with rfl | rfl | rfl | rfl | rfl | rfl | rfl
  · right; cases e; rw [setM_out (by omega), setC_out (by omega), h11]; rfl
  · right; cases e; rw [setM_out (by omega), ly_1000]; rfl
  · right; cases e; rw [lm_mod]; rfl
  · left; cases e; rfl
  · cases e
  · cases e
  · cases e
theorem n5 {len i : Nat} (h : len ≤ 2560) (hi : 5 * i ≤ 2560) : nI len - 5 < nI (5 * i) ↔ len < 5 * i + 5 := by
  have e1 : (nI len - 5).toInt = (len : Int) - 5 := by
    rcases Nat.lt_or_ge len 5 with q | q
    · have : ∀ a : Fin 5, (nI a.1 - 5).toInt = (a.1 : Int) - 5 := by decide +kernel
      exact this ⟨len, q⟩
    · obtain ⟨m, rfl⟩ : ∃ m, len = m + 5 := ⟨len - 5, by omega⟩
      have e2 : nI (m + 5) - 5 = nI m := by
        have := nI_plus m 5
        rw [← this]
        show nI m + 5 - 5 = nI m
        rw [Int32.add_sub_cancel]
      rw [e2, toI_nI (by omega)]
      omega
  rw [i_lt, e1, toI_nI (by omega)]
  omega
def IF_ask (l : Launch) (LI : XS9 → XS9 → Prop) : Prop := ∀ (z : Int64) (τ σ : XS9) (p0 p1 : Int32), LI τ σ → ∃ (o : Int32 ⊕ String) (σ' : XS9) (v : Int32) (z' : Int64) (τ' : XS9) (b : Option (Int32 × Nat)), (∀ h, okC h → XEo l m_X7_ask 7 1 6 [.ref 1000, .int p0, .int p1] (setC σ h) (xoi o) (setC σ' h)) ∧ (∀ E, o = .inr E → E = eIOB ∨ E = eIAE) ∧ (∀ h, okM h → XEx l m_X14_ask 9 1 1 [.ref 5000, .int p0, .int p1] (setM z τ h) (some (.int v)) (setM z' τ' (boxO h b))) ∧ (∀ p, b = some p → 10200 ≤ p.2 ∧ p.2 < 10300 ∧ (∀ s, lyQ z' (ctl τ') p.2 s = none) ∧ ∀ k, k < cn (τ' 5004 900) → xx_box (τ' 5004 k) (nmS τ' k) ≠ p.2) ∧ LI τ' σ'
theorem lc_13 {Y : XY} {l : Launch} {h0 : XH} {xs : Nat → Int32} {len i : Nat} {n : Int64} {s : Option (Nat × (Nat → Value))} {z : Int64} {τ σ : XS9} {LI : XS9 → XS9 → Prop} (O : xx_O Y m_L_law l 40) (hl : l.stackTraces = false) (hB : okB h0) (h11 : h0 11 = some (100, len, fun j => .int (xs j))) (hi : 5 * i + 5 ≤ len) (hlen : len ≤ 2560) (hI : LI τ σ) (hc0 : xx_cls h0) (hcb : ∀ τ σ, LI τ σ → cbd (ctl τ)) (hmeI : ∀ τ σ, LI τ σ → mem_eq τ τ) (hY0 : ∀ r, (xy_h Y r).isSome = true → r < 1000 ∧ (h0 r).isSome = true) (hSi : sInt s) (hif : IF_ask l LI) {k9 n9 : Nat} (kk : ∀ z τ σ n s, LI τ σ → sInt s → SW Y k9 n9 (hL h0 z τ σ n s) 1688 [.ref 11, .ref 1000, .ref 5000, .ref 4500, .int (nI (5 * i)), xx_d, xx_d] []) : SW Y (k9 + 700) (n9 + 10000) (hL h0 z τ σ n s) 745 [.ref 11, .ref 1000, .ref 5000, .ref 4500, .int (nI (5 * i)), xx_d, xx_d] [] := by
  obtain ⟨kT, ekT⟩ : ∃ q, q = k9 + 700 := ⟨_, rfl⟩
  obtain ⟨nT, enT⟩ : ∃ q, q = n9 + 10000 := ⟨_, rfl⟩
  refine xx_wid (k' := kT) (n' := nT) (by omega) (by omega) ?_
  obtain ⟨o, σ', v, z', τ', b, hC, hE, hM, hb, hI'⟩ := hif z τ σ (xs (5 * i + 1)) (xs (5 * i + 2)) hI
  refine sw_aload_n O (xx_dt dd_L_law_6 34 rfl) rfl ?_
  refine sw_aload_n O (xx_dt dd_L_law_6 35 rfl) rfl ?_
  refine sw_iload O (xx_dt dd_L_law_6 36 rfl) rfl ?_
  refine sw_iconst (x := 1) O (xx_dt dd_L_law_6 37 rfl) (by decide) ?_
  refine sw_iadd O (xx_dt dd_L_law_6 38 rfl) ?_
  rw [show nI (5 * i) + 1 = nI (5 * i + 1) from nI_plus (5 * i) 1]
  refine sw_iaload (v := .int (xs (5 * i + 1))) O (xx_dt dd_L_law_6 39 rfl) ((hL_lo (by omega)).trans h11) (pk_in (5 * i + 1) _ (by omega)) (by rw [nI_clamp (by omega)]) ?_
  refine sw_aload_n O (xx_dt dd_L_law_6 40 rfl) rfl ?_
  refine sw_iload O (xx_dt dd_L_law_6 41 rfl) rfl ?_
  refine sw_iconst (x := 2) O (xx_dt dd_L_law_6 42 rfl) (by decide) ?_
  refine sw_iadd O (xx_dt dd_L_law_6 43 rfl) ?_
  rw [show nI (5 * i) + 2 = nI (5 * i + 2) from nI_plus (5 * i) 2]
  refine sw_iaload (v := .int (xs (5 * i + 2))) O (xx_dt dd_L_law_6 44 rfl) ((hL_lo (by omega)).trans h11) (pk_in (5 * i + 2) _ (by omega)) (by rw [nI_clamp (by omega)]) ?_
  refine sw_aload_n O (xx_dt dd_L_law_6 45 rfl) rfl ?_
  rw [hL_c]
  refine xx_wid (k' := (k9 + 699) + 1) (n' := (n9 + 9994) + 6) (by omega) (by omega) (sw_callSH (k := k9 + 699) (n := n9 + 9994) (k' := 1) (n' := 6) (as := [.ref 1000, .int (xs (5 * i + 1)), .int (xs (5 * i + 2)), .ref 4500]) (st := []) (st2 := [.int (lw_k [eIOB, eIAE] o)]) O (lw_ask hl (hC _ ⟨h0, z, τ, n, s, hB, rfl⟩) (ly_1000 σ _) (F := fO n (sO s)) ((setC_out (by omega)).trans ((setM_out (by omega)).trans hO_4500)) hE) ch_L_ask mk_L_191 st_L_ask (xx_dt dd_L_law_6 46 rfl) (by decide) rfl rfl (Nat.le_of_ble_eq_true rfl) rfl ?_)
  rw [lw_g_e]
  refine sw_istore (ls2 := [.ref 11, .ref 1000, .ref 5000, .ref 4500, .int (nI (5 * i)), .int (lw_k [eIOB, eIAE] o), xx_d]) O (xx_dt dd_L_law_6 47 rfl) (by decide) rfl ?_
  obtain ⟨kT, ekT⟩ : ∃ q, q = k9 + 699 := ⟨_, rfl⟩
  obtain ⟨nT, enT⟩ : ∃ q, q = n9 + 9994 := ⟨_, rfl⟩
  refine xx_wid (k' := kT) (n' := nT) (by omega) (by omega) ?_
  show SW Y _ _ (setM z τ (setC σ' (hO h0 (lw_n n o Int32.toInt64) s))) 764 [.ref 11, .ref 1000, .ref 5000, .ref 4500, .int (nI (5 * i)), .int (lw_k [eIOB, eIAE] o), xx_d] []
  refine sw_aload_n O (xx_dt dd_L_law_6 48 rfl) rfl ?_
  refine sw_aload_n O (xx_dt dd_L_law_6 49 rfl) rfl ?_
  refine sw_iload O (xx_dt dd_L_law_6 50 rfl) rfl ?_
  refine sw_iconst (x := 1) O (xx_dt dd_L_law_6 51 rfl) (by decide) ?_
  refine sw_iadd O (xx_dt dd_L_law_6 52 rfl) ?_
  rw [show nI (5 * i) + 1 = nI (5 * i + 1) from nI_plus (5 * i) 1]
  refine sw_iaload (v := .int (xs (5 * i + 1))) O (xx_dt dd_L_law_6 53 rfl) ((setM_out (by omega)).trans ((setC_out (by omega)).trans ((hO_o (by omega) (by omega) (by omega)).trans h11))) (pk_in (5 * i + 1) _ (by omega)) (by rw [nI_clamp (by omega)]) ?_
  refine sw_aload_n O (xx_dt dd_L_law_6 54 rfl) rfl ?_
  refine sw_iload O (xx_dt dd_L_law_6 55 rfl) rfl ?_
  refine sw_iconst (x := 2) O (xx_dt dd_L_law_6 56 rfl) (by decide) ?_
  refine sw_iadd O (xx_dt dd_L_law_6 57 rfl) ?_
  rw [show nI (5 * i) + 2 = nI (5 * i + 2) from nI_plus (5 * i) 2]
  refine sw_iaload (v := .int (xs (5 * i + 2))) O (xx_dt dd_L_law_6 58 rfl) ((setM_out (by omega)).trans ((setC_out (by omega)).trans ((hO_o (by omega) (by omega) (by omega)).trans h11))) (pk_in (5 * i + 2) _ (by omega)) (by rw [nI_clamp (by omega)]) ?_
  refine xx_wid (k' := (k9 + 698) + 1) (n' := (n9 + 9993) + 1) (by omega) (by omega) (sw_callVx (k := k9 + 698) (n := n9 + 9993) (k' := 1) (n' := 1) (as := [.int (xs (5 * i + 1)), .int (xs (5 * i + 2))]) (st := []) (st2 := [.int v]) O (hM _ ⟨h0, σ', _, s, hB, rfl⟩) ce_X14_ask ml_L_193 iv_X14_ask cl_X14 rfl lm_mod (xx_dt dd_L_law_6 59 rfl) (by decide) rfl rfl (Nat.le_of_ble_eq_true rfl) rfl ?_)
  refine sw_istore (ls2 := [.ref 11, .ref 1000, .ref 5000, .ref 4500, .int (nI (5 * i)), .int (lw_k [eIOB, eIAE] o), .int v]) O (xx_dt dd_L_law_7 0 rfl) (by decide) rfl ?_
  refine sw_goto (tgt := 1688) O (xx_dt dd_L_law_7 1 rfl) (by decide) ?_
  refine sw_dum (ls2 := [.ref 11, .ref 1000, .ref 5000, .ref 4500, .int (nI (5 * i)), xx_d, xx_d]) ⟨.inr rfl, .inr rfl, .inr rfl, .inr rfl, .inr rfl, .inl rfl, .inl rfl, trivial⟩ ?_
  obtain ⟨d1, d2⟩ := drop_ask (z := z') (σ := σ') (n := (lw_n n o Int32.toInt64)) hB hc0 (hcb _ _ hI') hb hSi
  refine sw_cls (fun hcl => ?_)
  refine sw_drop (h2 := hL h0 z' τ' σ' (lw_n n o Int32.toInt64) s) d1 (d2 hcl) (fun r hr => by rw [hL_lo (hY0 r hr).1]; exact (hY0 r hr).2) (hL_in h11) (by intro v9 hv9; cases hv9) ?_
  refine xx_wid (k' := k9) (n' := n9) (by omega) (by omega) ?_
  exact kk z' τ' σ' _ s hI' hSi
def txR : Option (Nat × (Nat → Value)) → Nat
  | none => 6
  | some _ => 20102
def txH (z : Int64) (τ : XS9) (h : XH) : Option (Nat × (Nat → Value)) → XH
  | none => setM z τ h
  | some p => setM z τ (hTM h p.1 p.2)
def IF_chart (l : Launch) (LI : XS9 → XS9 → Prop) : Prop := ∀ (z : Int64) (τ σ : XS9) (p0 : Int32), LI τ σ → ∃ (b : Option (Nat × (Nat → Value))) (t : Int32) (b2 : Option (Nat × (Nat → Value))), (∀ h, okC h → XEo l m_X7_chart 7 4 40 [.ref 1000, .int p0] (setC σ h) (xor (match b with | none => .inr eIOB | some _ => .inl 4002)) (match b with | none => setC σ h | some p => setC σ (hS h p.1 p.2))) ∧ (∀ p, b = some p → ∀ j, j < p.1 → ∃ x : Int32, p.2 j = .int x) ∧ (∀ h, okM h → XEx l m_X14_chart 9 24 158 [.ref 5000, .int p0] (setM z τ h) (some (.ref (txR b2))) (txH z (u2 τ 5000 0 t) h b2)) ∧ LI (u2 τ 5000 0 t) σ
theorem lc_26 {Y : XY} {l : Launch} {h0 : XH} {xs : Nat → Int32} {len i : Nat} {n : Int64} {s : Option (Nat × (Nat → Value))} {z : Int64} {τ σ : XS9} {LI : XS9 → XS9 → Prop} (O : xx_O Y m_L_law l 40) (hl : l.stackTraces = false) (hB : okB h0) (h11 : h0 11 = some (100, len, fun j => .int (xs j))) (hi : 5 * i + 5 ≤ len) (hlen : len ≤ 2560) (hI : LI τ σ) (hc0 : xx_cls h0) (hcb : ∀ τ σ, LI τ σ → cbd (ctl τ)) (hmeI : ∀ τ σ, LI τ σ → mem_eq τ τ) (hY0 : ∀ r, (xy_h Y r).isSome = true → r < 1000 ∧ (h0 r).isSome = true) (hSi : sInt s) (hif : IF_chart l LI) {k9 n9 : Nat} (kk : ∀ z τ σ n s, LI τ σ → sInt s → SW Y k9 n9 (hL h0 z τ σ n s) 1688 [.ref 11, .ref 1000, .ref 5000, .ref 4500, .int (nI (5 * i)), xx_d, xx_d] []) : SW Y (k9 + 700) (n9 + 10000) (hL h0 z τ σ n s) 1353 [.ref 11, .ref 1000, .ref 5000, .ref 4500, .int (nI (5 * i)), xx_d, xx_d] [] := by
  obtain ⟨kT, ekT⟩ : ∃ q, q = k9 + 700 := ⟨_, rfl⟩
  obtain ⟨nT, enT⟩ : ∃ q, q = n9 + 10000 := ⟨_, rfl⟩
  refine xx_wid (k' := kT) (n' := nT) (by omega) (by omega) ?_
  obtain ⟨b, t, b2, hC, hG, hM, hI'⟩ := hif z τ σ (xs (5 * i + 1)) hI
  have go : ∀ (s : Option (Nat × (Nat → Value))) (k : Int32), sInt s → SW Y (k9 + 696) (n9 + 9960) (hL h0 z τ σ n s) 1364 [.ref 11, .ref 1000, .ref 5000, .ref 4500, .int (nI (5 * i)), xx_d, xx_d] [.int k] := by
    intro s k hs9
    refine sw_istore (ls2 := [.ref 11, .ref 1000, .ref 5000, .ref 4500, .int (nI (5 * i)), .int k, xx_d]) O (xx_dt dd_L_law_13 38 rfl) (by decide) rfl ?_
    refine sw_cls (fun hclA => ?_)
    obtain ⟨kT, ekT⟩ : ∃ q, q = k9 + 696 := ⟨_, rfl⟩
    obtain ⟨nT, enT⟩ : ∃ q, q = n9 + 9960 := ⟨_, rfl⟩
    refine xx_wid (k' := kT) (n' := nT) (by omega) (by omega) ?_
    show SW Y _ _ (setM z τ (setC σ (hO h0 n s))) 1366 [.ref 11, .ref 1000, .ref 5000, .ref 4500, .int (nI (5 * i)), .int k, xx_d] []
    refine sw_aload_n O (xx_dt dd_L_law_13 39 rfl) rfl ?_
    refine sw_aload_n O (xx_dt dd_L_law_13 40 rfl) rfl ?_
    refine sw_iload O (xx_dt dd_L_law_13 41 rfl) rfl ?_
    refine sw_iconst (x := 1) O (xx_dt dd_L_law_13 42 rfl) (by decide) ?_
    refine sw_iadd O (xx_dt dd_L_law_13 43 rfl) ?_
    rw [show nI (5 * i) + 1 = nI (5 * i + 1) from nI_plus (5 * i) 1]
    refine sw_iaload (v := .int (xs (5 * i + 1))) O (xx_dt dd_L_law_13 44 rfl) ((setM_out (by omega)).trans ((setC_out (by omega)).trans ((hO_o (by omega) (by omega) (by omega)).trans h11))) (pk_in (5 * i + 1) _ (by omega)) (by rw [nI_clamp (by omega)]) ?_
    refine xx_wid (k' := (k9 + 672) + 24) (n' := (n9 + 9802) + 158) (by omega) (by omega) (sw_callVx (k := k9 + 672) (n := n9 + 9802) (k' := 24) (n' := 158) (as := [.int (xs (5 * i + 1))]) (st := []) (st2 := [.ref (txR b2)]) O (hM _ ⟨h0, σ, n, s, hB, rfl⟩) ce_X14_chart ml_L_233 iv_X14_chart cl_X14 rfl lm_mod (xx_dt dd_L_law_13 45 rfl) (by decide) rfl rfl (Nat.le_of_ble_eq_true rfl) rfl ?_)
    refine sw_astore (ls2 := [.ref 11, .ref 1000, .ref 5000, .ref 4500, .int (nI (5 * i)), .int k, .ref (txR b2)]) O (xx_dt dd_L_law_13 46 rfl) (by decide) rfl ?_
    refine sw_goto (tgt := 1688) O (xx_dt dd_L_law_13 47 rfl) (by decide) ?_
    refine sw_dum (ls2 := [.ref 11, .ref 1000, .ref 5000, .ref 4500, .int (nI (5 * i)), xx_d, xx_d]) ⟨.inr rfl, .inr rfl, .inr rfl, .inr rfl, .inr rfl, .inl rfl, .inl rfl, trivial⟩ ?_
    refine xx_wid (k' := k9) (n' := n9) (by omega) (by omega) ?_
    cases b2 with
    | none => exact kk z _ σ n s hI' hs9
    | some p =>
      have hclS : xx_cls (hL h0 z (u2 τ 5000 0 t) σ n s) := (mem_eq.int (r := 5000) (i := 0) (x := t) (hmeI _ _ hI) rfl).cls hclA
      refine sw_drop (h2 := hL h0 z (u2 τ 5000 0 t) σ n s) (hTM_drop (fun q a1 _ => (okM.lo (.inr (by omega))).trans (hB.2.2 q (by omega)))) hclS (fun r hr => by rw [hL_lo (hY0 r hr).1]; exact (hY0 r hr).2) (hL_in h11) (by intro v9 hv9; cases hv9) ?_
      exact kk z _ σ n s hI' hs9
  refine sw_aload_n O (xx_dt dd_L_law_13 30 rfl) rfl ?_
  refine sw_aload_n O (xx_dt dd_L_law_13 31 rfl) rfl ?_
  refine sw_iload O (xx_dt dd_L_law_13 32 rfl) rfl ?_
  refine sw_iconst (x := 1) O (xx_dt dd_L_law_13 33 rfl) (by decide) ?_
  refine sw_iadd O (xx_dt dd_L_law_13 34 rfl) ?_
  rw [show nI (5 * i) + 1 = nI (5 * i + 1) from nI_plus (5 * i) 1]
  refine sw_iaload (v := .int (xs (5 * i + 1))) O (xx_dt dd_L_law_13 35 rfl) ((hL_lo (by omega)).trans h11) (pk_in (5 * i + 1) _ (by omega)) (by rw [nI_clamp (by omega)]) ?_
  refine sw_aload_n O (xx_dt dd_L_law_13 36 rfl) rfl ?_
  rw [hL_c]
  cases b with
  | none =>
    refine xx_wid (k' := (k9 + 696) + 4) (n' := (n9 + 9960) + 40) (by omega) (by omega) (sw_callSH (k := k9 + 696) (n := n9 + 9960) (k' := 4) (n' := 40) (as := [.ref 1000, .int (xs (5 * i + 1)), .ref 4500]) (st := []) (st2 := [.int (lw_k [eIOB] (.inr eIOB : Nat ⊕ String))]) O (lw_chart hl (hC _ ⟨h0, z, τ, n, s, hB, rfl⟩) (ly_1000 σ _) (F := fO n (sO s)) ((setC_out (by omega)).trans ((setM_out (by omega)).trans hO_4500)) (fun E e => by cases e; rfl)) ch_L_chart mk_L_231 st_L_chart (xx_dt dd_L_law_13 37 rfl) (by decide) rfl rfl (Nat.le_of_ble_eq_true rfl) rfl ?_)
    show SW Y _ _ (setC σ (setM z τ (hO h0 n s))) 1364 [.ref 11, .ref 1000, .ref 5000, .ref 4500, .int (nI (5 * i)), xx_d, xx_d] _
    rw [← hL_c]
    exact go s _ hSi
  | some p =>
    refine xx_wid (k' := (k9 + 696) + 4) (n' := (n9 + 9960) + 40) (by omega) (by omega) (sw_callSH (k := k9 + 696) (n := n9 + 9960) (k' := 4) (n' := 40) (as := [.ref 1000, .int (xs (5 * i + 1)), .ref 4500]) (st := []) (st2 := [.int (lw_k [eIOB] (.inl 4002 : Nat ⊕ String))]) O (lw_chart hl (hC _ ⟨h0, z, τ, n, s, hB, rfl⟩) (ly_1000 σ _) (F := fO n (sO s)) ((setC_out (by omega)).trans ((xx_up_ne (by omega)).trans ((xx_up_ne (by omega)).trans ((setM_out (by omega)).trans hO_4500)))) (fun E e => by cases e)) ch_L_chart mk_L_231 st_L_chart (xx_dt dd_L_law_13 37 rfl) (by decide) rfl rfl (Nat.le_of_ble_eq_true rfl) rfl ?_)
    show SW Y _ _ (xx_up (setC σ (hS (setM z τ (hO h0 n s)) p.1 p.2)) 4500 (14, 2, updV (fO n (sO s)) 1 (.ref 4002))) 1364 [.ref 11, .ref 1000, .ref 5000, .ref 4500, .int (nI (5 * i)), xx_d, xx_d] _
    rw [← hS_up]
    have hG9 : ∀ j, j < p.1 → ∃ x : Int32, (fun j => if j < p.1 then p.2 j else Value.int 0) j = .int x := fun j hj => by
      obtain ⟨x, e⟩ := hG p rfl j hj
      exact ⟨x, by show (if j < p.1 then p.2 j else Value.int 0) = _; rw [if_pos hj]; exact e⟩
    refine sw_chartfix hB hc0 (hcb _ _ hI) hY0 hG9 (mc_in h11) (fun v hv a e => by simp only [List.mem_cons, List.not_mem_nil, or_false] at hv; rw [hv] at e; cases e) ?_
    exact go _ _ (fun q e j hj => by cases e; exact hG9 j hj)
def IF_knock (l : Launch) (LI : XS9 → XS9 → Prop) : Prop := ∀ (z : Int64) (τ σ : XS9), LI τ σ → ∃ (y : Int32) (σ' : XS9) (v : Int32) (z' : Int64) (τ' : XS9), (∀ h, okC h → XEx l m_X7_knock 0 0 0 [.ref 1000] (setC σ h) (some (.int y)) (setC σ' h)) ∧ (∀ h, okM h → XEx l m_X14_knock 0 0 0 [.ref 5000] (setM z τ h) (some (.int v)) (setM z' τ' h)) ∧ LI τ' σ'
theorem lc_34 {Y : XY} {l : Launch} {h0 : XH} {xs : Nat → Int32} {len i : Nat} {n : Int64} {s : Option (Nat × (Nat → Value))} {z : Int64} {τ σ : XS9} {LI : XS9 → XS9 → Prop} (O : xx_O Y m_L_law l 40) (hl : l.stackTraces = false) (hB : okB h0) (h11 : h0 11 = some (100, len, fun j => .int (xs j))) (hi : 5 * i + 5 ≤ len) (hlen : len ≤ 2560) (hI : LI τ σ) (hif : IF_knock l LI) {k9 n9 : Nat} (kk : ∀ z τ σ n, LI τ σ → SW Y k9 n9 (hL h0 z τ σ n s) 1688 [.ref 11, .ref 1000, .ref 5000, .ref 4500, .int (nI (5 * i)), xx_d, xx_d] []) : SW Y (k9 + 700) (n9 + 10000) (hL h0 z τ σ n s) 1649 [.ref 11, .ref 1000, .ref 5000, .ref 4500, .int (nI (5 * i)), xx_d, xx_d] [] := by
  obtain ⟨kT, ekT⟩ : ∃ q, q = k9 + 700 := ⟨_, rfl⟩
  obtain ⟨nT, enT⟩ : ∃ q, q = n9 + 10000 := ⟨_, rfl⟩
  refine xx_wid (k' := kT) (n' := nT) (by omega) (by omega) ?_
  obtain ⟨y, σ', v, z', τ', hC, hM, hI'⟩ := hif z τ σ hI
  refine sw_aload_n O (xx_dt dd_L_law_16 54 rfl) rfl ?_
  rw [hL_c]
  refine xx_wid (k' := (k9 + 700) + 0) (n' := (n9 + 10000) + 0) (by omega) (by omega) (sw_callVx (k := k9 + 700) (n := n9 + 10000) (k' := 0) (n' := 0) (as := []) (st := []) (st2 := [.int y]) O (hC _ ⟨h0, z, τ, n, s, hB, rfl⟩) ce_X7_knock ml_L_255 iv_X7_knock cl_X7 rfl (ly_1000 σ _) (xx_dt dd_L_law_16 55 rfl) (by decide) rfl rfl (Nat.le_of_ble_eq_true rfl) rfl ?_)
  refine sw_pop O (xx_dt dd_L_law_16 56 rfl) rfl ?_
  refine sw_aload_n O (xx_dt dd_L_law_16 57 rfl) rfl ?_
  rw [← hL_c]
  obtain ⟨kT, ekT⟩ : ∃ q, q = k9 + 700 := ⟨_, rfl⟩
  obtain ⟨nT, enT⟩ : ∃ q, q = n9 + 10000 := ⟨_, rfl⟩
  refine xx_wid (k' := kT) (n' := nT) (by omega) (by omega) ?_
  show SW Y _ _ (setM z τ (setC σ' (hO h0 n s))) 1655 [.ref 11, .ref 1000, .ref 5000, .ref 4500, .int (nI (5 * i)), xx_d, xx_d] [.ref 5000]
  refine xx_wid (k' := (k9 + 700) + 0) (n' := (n9 + 10000) + 0) (by omega) (by omega) (sw_callVx (k := k9 + 700) (n := n9 + 10000) (k' := 0) (n' := 0) (as := []) (st := []) (st2 := [.int v]) O (hM _ ⟨h0, σ', n, s, hB, rfl⟩) ce_X14_knock ml_L_258 iv_X14_knock cl_X14 rfl lm_mod (xx_dt dd_L_law_16 58 rfl) (by decide) rfl rfl (Nat.le_of_ble_eq_true rfl) rfl ?_)
  refine sw_pop O (xx_dt dd_L_law_16 59 rfl) rfl ?_
  refine sw_goto (tgt := 1688) O (xx_dt dd_L_law_17 0 rfl) (by decide) ?_
  refine xx_wid (k' := k9) (n' := n9) (by omega) (by omega) ?_
  exact kk z' τ' σ' n hI'
def IF_isSound (l : Launch) (LI : XS9 → XS9 → Prop) : Prop := ∀ (z : Int64) (τ σ : XS9), LI τ σ → ∃ (y : Int32) (σ' : XS9) (v : Int32) (z' : Int64) (τ' : XS9), (∀ h, okC h → XEx l m_X7_isSound 6 0 0 [.ref 1000] (setC σ h) (some (.int y)) (setC σ' h)) ∧ (∀ h, okM h → XEx l m_X14_isSound 13 495 8668 [.ref 5000] (setM z τ h) (some (.int v)) (setM z' τ' h)) ∧ LI τ' σ'
theorem lc_35 {Y : XY} {l : Launch} {h0 : XH} {xs : Nat → Int32} {len i : Nat} {n : Int64} {s : Option (Nat × (Nat → Value))} {z : Int64} {τ σ : XS9} {LI : XS9 → XS9 → Prop} (O : xx_O Y m_L_law l 40) (hl : l.stackTraces = false) (hB : okB h0) (h11 : h0 11 = some (100, len, fun j => .int (xs j))) (hi : 5 * i + 5 ≤ len) (hlen : len ≤ 2560) (hI : LI τ σ) (hif : IF_isSound l LI) {k9 n9 : Nat} (kk : ∀ z τ σ n, LI τ σ → SW Y k9 n9 (hL h0 z τ σ n s) 1688 [.ref 11, .ref 1000, .ref 5000, .ref 4500, .int (nI (5 * i)), xx_d, xx_d] []) : SW Y (k9 + 700) (n9 + 10000) (hL h0 z τ σ n s) 1662 [.ref 11, .ref 1000, .ref 5000, .ref 4500, .int (nI (5 * i)), xx_d, xx_d] [] := by
  obtain ⟨kT, ekT⟩ : ∃ q, q = k9 + 700 := ⟨_, rfl⟩
  obtain ⟨nT, enT⟩ : ∃ q, q = n9 + 10000 := ⟨_, rfl⟩
  refine xx_wid (k' := kT) (n' := nT) (by omega) (by omega) ?_
  obtain ⟨y, σ', v, z', τ', hC, hM, hI'⟩ := hif z τ σ hI
  refine sw_aload_n O (xx_dt dd_L_law_17 1 rfl) rfl ?_
  rw [hL_c]
  refine xx_wid (k' := (k9 + 700) + 0) (n' := (n9 + 10000) + 0) (by omega) (by omega) (sw_callVx (k := k9 + 700) (n := n9 + 10000) (k' := 0) (n' := 0) (as := []) (st := []) (st2 := [.int y]) O (hC _ ⟨h0, z, τ, n, s, hB, rfl⟩) ce_X7_isSound ml_L_259 iv_X7_isSound cl_X7 rfl (ly_1000 σ _) (xx_dt dd_L_law_17 2 rfl) (by decide) rfl rfl (Nat.le_of_ble_eq_true rfl) rfl ?_)
  refine sw_pop O (xx_dt dd_L_law_17 3 rfl) rfl ?_
  refine sw_aload_n O (xx_dt dd_L_law_17 4 rfl) rfl ?_
  rw [← hL_c]
  obtain ⟨kT, ekT⟩ : ∃ q, q = k9 + 700 := ⟨_, rfl⟩
  obtain ⟨nT, enT⟩ : ∃ q, q = n9 + 10000 := ⟨_, rfl⟩
  refine xx_wid (k' := kT) (n' := nT) (by omega) (by omega) ?_
  show SW Y _ _ (setM z τ (setC σ' (hO h0 n s))) 1668 [.ref 11, .ref 1000, .ref 5000, .ref 4500, .int (nI (5 * i)), xx_d, xx_d] [.ref 5000]
  refine xx_wid (k' := (k9 + 205) + 495) (n' := (n9 + 1332) + 8668) (by omega) (by omega) (sw_callVx (k := k9 + 205) (n := n9 + 1332) (k' := 495) (n' := 8668) (as := []) (st := []) (st2 := [.int v]) O (hM _ ⟨h0, σ', n, s, hB, rfl⟩) ce_X14_isSound ml_L_263 iv_X14_isSound cl_X14 rfl lm_mod (xx_dt dd_L_law_17 5 rfl) (by decide) rfl rfl (Nat.le_of_ble_eq_true rfl) rfl ?_)
  refine sw_pop O (xx_dt dd_L_law_17 6 rfl) rfl ?_
  refine sw_goto (tgt := 1688) O (xx_dt dd_L_law_17 7 rfl) (by decide) ?_
  refine xx_wid (k' := k9) (n' := n9) (by omega) (by omega) ?_
  exact kk z' τ' σ' n hI'
def IF_digest (l : Launch) (LI : XS9 → XS9 → Prop) : Prop := ∀ (z : Int64) (τ σ : XS9), LI τ σ → ∃ (y : Int64) (σ' : XS9) (v : Int64) (z' : Int64) (τ' : XS9), (∀ h, okC h → XEx l m_X7_digest 14 2 20 [.ref 1000] (setC σ h) (some (.long y)) (setC σ' h)) ∧ (∀ h, okM h → XEx l m_X14_digest 22 625 9590 [.ref 5000] (setM z τ h) (some (.long v)) (setM z' τ' h)) ∧ LI τ' σ'
theorem lc_36 {Y : XY} {l : Launch} {h0 : XH} {xs : Nat → Int32} {len i : Nat} {n : Int64} {s : Option (Nat × (Nat → Value))} {z : Int64} {τ σ : XS9} {LI : XS9 → XS9 → Prop} (O : xx_O Y m_L_law l 40) (hl : l.stackTraces = false) (hB : okB h0) (h11 : h0 11 = some (100, len, fun j => .int (xs j))) (hi : 5 * i + 5 ≤ len) (hlen : len ≤ 2560) (hI : LI τ σ) (hif : IF_digest l LI) {k9 n9 : Nat} (kk : ∀ z τ σ n, LI τ σ → SW Y k9 n9 (hL h0 z τ σ n s) 1688 [.ref 11, .ref 1000, .ref 5000, .ref 4500, .int (nI (5 * i)), xx_d, xx_d] []) : SW Y (k9 + 700) (n9 + 10000) (hL h0 z τ σ n s) 1675 [.ref 11, .ref 1000, .ref 5000, .ref 4500, .int (nI (5 * i)), xx_d, xx_d] [] := by
  obtain ⟨kT, ekT⟩ : ∃ q, q = k9 + 700 := ⟨_, rfl⟩
  obtain ⟨nT, enT⟩ : ∃ q, q = n9 + 10000 := ⟨_, rfl⟩
  refine xx_wid (k' := kT) (n' := nT) (by omega) (by omega) ?_
  obtain ⟨y, σ', v, z', τ', hC, hM, hI'⟩ := hif z τ σ hI
  refine sw_aload_n O (xx_dt dd_L_law_17 8 rfl) rfl ?_
  rw [hL_c]
  refine xx_wid (k' := (k9 + 698) + 2) (n' := (n9 + 9980) + 20) (by omega) (by omega) (sw_callVx (k := k9 + 698) (n := n9 + 9980) (k' := 2) (n' := 20) (as := []) (st := []) (st2 := [.long y]) O (hC _ ⟨h0, z, τ, n, s, hB, rfl⟩) ce_X7_digest ml_L_264 iv_X7_digest cl_X7 rfl (ly_1000 σ _) (xx_dt dd_L_law_17 9 rfl) (by decide) rfl rfl (Nat.le_of_ble_eq_true rfl) rfl ?_)
  refine sw_pop2l O (xx_dt dd_L_law_17 10 rfl) ?_
  refine sw_aload_n O (xx_dt dd_L_law_17 11 rfl) rfl ?_
  rw [← hL_c]
  obtain ⟨kT, ekT⟩ : ∃ q, q = k9 + 698 := ⟨_, rfl⟩
  obtain ⟨nT, enT⟩ : ∃ q, q = n9 + 9980 := ⟨_, rfl⟩
  refine xx_wid (k' := kT) (n' := nT) (by omega) (by omega) ?_
  show SW Y _ _ (setM z τ (setC σ' (hO h0 n s))) 1681 [.ref 11, .ref 1000, .ref 5000, .ref 4500, .int (nI (5 * i)), xx_d, xx_d] [.ref 5000]
  refine xx_wid (k' := (k9 + 73) + 625) (n' := (n9 + 390) + 9590) (by omega) (by omega) (sw_callVx (k := k9 + 73) (n := n9 + 390) (k' := 625) (n' := 9590) (as := []) (st := []) (st2 := [.long v]) O (hM _ ⟨h0, σ', n, s, hB, rfl⟩) ce_X14_digest ml_L_268 iv_X14_digest cl_X14 rfl lm_mod (xx_dt dd_L_law_17 12 rfl) (by decide) rfl rfl (Nat.le_of_ble_eq_true rfl) rfl ?_)
  refine sw_pop2l O (xx_dt dd_L_law_17 13 rfl) ?_
  refine sw_goto (tgt := 1688) O (xx_dt dd_L_law_17 14 rfl) (by decide) ?_
  refine xx_wid (k' := k9) (n' := n9) (by omega) (by omega) ?_
  exact kk z' τ' σ' n hI'
theorem law_loop {Y : XY} {l : Launch} {h0 : XH} {xs : Nat → Int32} {len : Nat} {LI : XS9 → XS9 → Prop} (O : xx_O Y m_L_law l 40) (hl : l.stackTraces = false) (hB : okB h0) (h11 : h0 11 = some (100, len, fun j => .int (xs j))) (hlen : len ≤ 2560) (hc0 : xx_cls h0) (hcb : ∀ τ σ, LI τ σ → cbd (ctl τ)) (hmeI : ∀ τ σ, LI τ σ → mem_eq τ τ) (hY0 : ∀ r, (xy_h Y r).isSome = true → r < 1000 ∧ (h0 r).isSome = true) (hQ1 : ∀ g, xy_Q Y (.inl (some (.int 1))) g) (i_region : IF_region l LI) (i_border : IF_border l LI) (i_bidder : IF_bidder l LI) (i_rules : IF_rules l LI) (i_step : IF_step l LI) (i_open : IF_open l LI) (i_wish : IF_wish l LI) (i_waive : IF_waive l LI) (i_close : IF_close l LI) (i_offer : IF_offer l LI) (i_settle : IF_settle l LI) (i_fail : IF_fail l LI) (i_station : IF_station l LI) (i_ask : IF_ask l LI) (i_packs : IF_packs l LI) (i_channel : IF_channel l LI) (i_clear : IF_clear l LI) (i_ofRegion : IF_ofRegion l LI) (i_ofBidder : IF_ofBidder l LI) (i_wants : IF_wants l LI) (i_priceIn : IF_priceIn l LI) (i_codeIn : IF_codeIn l LI) (i_ofPackage : IF_ofPackage l LI) (i_wins : IF_wins l LI) (i_pays : IF_pays l LI) (i_holder : IF_holder l LI) (i_chart : IF_chart l LI) (i_sale : IF_sale l LI) (i_worth : IF_worth l LI) (i_wouldPay : IF_wouldPay l LI) (i_objects : IF_objects l LI) (i_most : IF_most l LI) (i_contradicts : IF_contradicts l LI) (i_anew : IF_anew l LI) (i_knock : IF_knock l LI) (i_isSound : IF_isSound l LI) (i_digest : IF_digest l LI) : ∀ (f i : Nat), i + f = len / 5 → ∀ (z : Int64) (τ σ : XS9) (n : Int64) (s : Option (Nat × (Nat → Value))), LI τ σ → sInt s → SW Y (700 * f) (10000 * f) (hL h0 z τ σ n s) 27 [.ref 11, .ref 1000, .ref 5000, .ref 4500, .int (nI (5 * i)), xx_d, xx_d] []
  | 0, i, e, z, τ, σ, n, s, hI, hSi => by
    refine sw_iload O (xx_dt dd_L_law_0 14 rfl) rfl ?_
    refine sw_aload_n O (xx_dt dd_L_law_0 15 rfl) rfl ?_
    refine sw_alen (t := 100) O (xx_dt dd_L_law_0 16 rfl) (by omega) (by omega) ((hL_lo (by omega)).trans h11) ?_
    refine sw_iconst (x := 5) O (xx_dt dd_L_law_0 17 rfl) (by decide) ?_
    refine sw_isub O (xx_dt dd_L_law_0 18 rfl) ?_
    refine sw_icmp_gt (tgt := 1694) O (xx_dt dd_L_law_0 19 rfl) (by decide) (fun _ => ?_) (fun q => absurd ((n5 hlen (by omega)).mpr (by omega)) q)
    refine sw_iconst (x := 1) O (xx_dt dd_L_law_17 17 rfl) (by decide) ?_
    exact sw_iret O (xx_dt dd_L_law_17 18 rfl) rfl rfl (hQ1 _)
  | f + 1, i, e, z, τ, σ, n, s, hI, hSi => by
    have hi : 5 * i + 5 ≤ len := by omega
    have kk : ∀ z τ σ n s, LI τ σ → sInt s → SW Y (700 * f) (10000 * f) (hL h0 z τ σ n s) 1688 [.ref 11, .ref 1000, .ref 5000, .ref 4500, .int (nI (5 * i)), xx_d, xx_d] [] := by
      intro z τ σ n s hI hSi
      refine sw_iinc (y := nI (5 * (i + 1))) (ls2 := [.ref 11, .ref 1000, .ref 5000, .ref 4500, .int (nI (5 * (i + 1))), xx_d, xx_d]) O (xx_dt dd_L_law_17 15 rfl) rfl (by have := nI_plus (5 * i) 5; exact this) (by decide) rfl ?_
      refine sw_goto (tgt := 27) O (xx_dt dd_L_law_17 16 rfl) (by decide) ?_
      exact law_loop O hl hB h11 hlen hc0 hcb hmeI hY0 hQ1 i_region i_border i_bidder i_rules i_step i_open i_wish i_waive i_close i_offer i_settle i_fail i_station i_ask i_packs i_channel i_clear i_ofRegion i_ofBidder i_wants i_priceIn i_codeIn i_ofPackage i_wins i_pays i_holder i_chart i_sale i_worth i_wouldPay i_objects i_most i_contradicts i_anew i_knock i_isSound i_digest f (i + 1) (by omega) z τ σ n s hI hSi
    refine sw_iload O (xx_dt dd_L_law_0 14 rfl) rfl ?_
    refine sw_aload_n O (xx_dt dd_L_law_0 15 rfl) rfl ?_
    refine sw_alen (t := 100) O (xx_dt dd_L_law_0 16 rfl) (by omega) (by omega) ((hL_lo (by omega)).trans h11) ?_
    refine sw_iconst (x := 5) O (xx_dt dd_L_law_0 17 rfl) (by decide) ?_
    refine sw_isub O (xx_dt dd_L_law_0 18 rfl) ?_
    refine sw_icmp_gt (tgt := 1694) O (xx_dt dd_L_law_0 19 rfl) (by decide) (fun q => absurd ((n5 hlen (by omega)).mp q) (by omega)) (fun _ => ?_)
    refine sw_aload_n O (xx_dt dd_L_law_0 20 rfl) rfl ?_
    refine sw_iload O (xx_dt dd_L_law_0 21 rfl) rfl ?_
    refine sw_iaload (v := .int (xs (5 * i))) O (xx_dt dd_L_law_0 22 rfl) ((hL_lo (by omega)).trans h11) (pk_in (5 * i) _ (by omega)) (by rw [nI_clamp (by omega)]) ?_
    refine sw_bipush (x := 63) O (xx_dt dd_L_law_0 23 rfl) (by decide) ?_
    refine sw_iand O (xx_dt dd_L_law_0 24 rfl) ?_
    obtain ⟨j, hj, ej⟩ := pk_andE (xs (5 * i)) (m := 63) 6 (by decide)
    rw [ej]
    refine xx_wid (k' := 700 * f + 700) (n' := 10000 * f + 10000) (by omega) (by omega) ?_
    rcases Nat.lt_or_ge j 37 with h37 | h37
    · match j, h37 with
      | 0, _ =>
        refine sw_tableIn (off := 161) (tgt := 204) O (xx_dt dd_L_law_0 25 rfl) (by decide) (by decide) rfl (by decide) ?_
        exact lc_0 O hl hB h11 hi hlen hI i_region (fun z τ σ n hI => kk z τ σ n s hI hSi)
      | 1, _ =>
        refine sw_tableIn (off := 213) (tgt := 256) O (xx_dt dd_L_law_0 25 rfl) (by decide) (by decide) rfl (by decide) ?_
        exact lc_1 O hl hB h11 hi hlen hI i_border (fun z τ σ n hI => kk z τ σ n s hI hSi)
      | 2, _ =>
        refine sw_tableIn (off := 253) (tgt := 296) O (xx_dt dd_L_law_0 25 rfl) (by decide) (by decide) rfl (by decide) ?_
        exact lc_2 O hl hB h11 hi hlen hI i_bidder (fun z τ σ n hI => kk z τ σ n s hI hSi)
      | 3, _ =>
        refine sw_tableIn (off := 317) (tgt := 360) O (xx_dt dd_L_law_0 25 rfl) (by decide) (by decide) rfl (by decide) ?_
        exact lc_3 O hl hB h11 hi hlen hI i_rules (fun z τ σ n hI => kk z τ σ n s hI hSi)
      | 4, _ =>
        refine sw_tableIn (off := 373) (tgt := 416) O (xx_dt dd_L_law_0 25 rfl) (by decide) (by decide) rfl (by decide) ?_
        exact lc_4 O hl hB h11 hi hlen hI i_step (fun z τ σ n hI => kk z τ σ n s hI hSi)
      | 5, _ =>
        refine sw_tableIn (off := 401) (tgt := 444) O (xx_dt dd_L_law_0 25 rfl) (by decide) (by decide) rfl (by decide) ?_
        exact lc_5 O hl hB h11 hi hlen hI i_open (fun z τ σ n hI => kk z τ σ n s hI hSi)
      | 6, _ =>
        refine sw_tableIn (off := 417) (tgt := 460) O (xx_dt dd_L_law_0 25 rfl) (by decide) (by decide) rfl (by decide) ?_
        exact lc_6 O hl hB h11 hi hlen hI i_wish (fun z τ σ n hI => kk z τ σ n s hI hSi)
      | 7, _ =>
        refine sw_tableIn (off := 469) (tgt := 512) O (xx_dt dd_L_law_0 25 rfl) (by decide) (by decide) rfl (by decide) ?_
        exact lc_7 O hl hB h11 hi hlen hI i_waive (fun z τ σ n hI => kk z τ σ n s hI hSi)
      | 8, _ =>
        refine sw_tableIn (off := 497) (tgt := 540) O (xx_dt dd_L_law_0 25 rfl) (by decide) (by decide) rfl (by decide) ?_
        exact lc_8 O hl hB h11 hi hlen hI i_close (fun z τ σ n hI => kk z τ σ n s hI hSi)
      | 9, _ =>
        refine sw_tableIn (off := 525) (tgt := 568) O (xx_dt dd_L_law_0 25 rfl) (by decide) (by decide) rfl (by decide) ?_
        exact lc_9 O hl hB h11 hi hlen hI i_offer (fun z τ σ n hI => kk z τ σ n s hI hSi)
      | 10, _ =>
        refine sw_tableIn (off := 606) (tgt := 649) O (xx_dt dd_L_law_0 25 rfl) (by decide) (by decide) rfl (by decide) ?_
        exact lc_10 O hl hB h11 hi hlen hI i_settle (fun z τ σ n hI => kk z τ σ n s hI hSi)
      | 11, _ =>
        refine sw_tableIn (off := 634) (tgt := 677) O (xx_dt dd_L_law_0 25 rfl) (by decide) (by decide) rfl (by decide) ?_
        exact lc_11 O hl hB h11 hi hlen hI i_fail (fun z τ σ n hI => kk z τ σ n s hI hSi)
      | 12, _ =>
        refine sw_tableIn (off := 662) (tgt := 705) O (xx_dt dd_L_law_0 25 rfl) (by decide) (by decide) rfl (by decide) ?_
        exact lc_12 O hl hB h11 hi hlen hI i_station (fun z τ σ n hI => kk z τ σ n s hI hSi)
      | 13, _ =>
        refine sw_tableIn (off := 702) (tgt := 745) O (xx_dt dd_L_law_0 25 rfl) (by decide) (by decide) rfl (by decide) ?_
        exact lc_13 O hl hB h11 hi hlen hI hc0 hcb hmeI hY0 hSi i_ask kk
      | 14, _ =>
        refine sw_tableIn (off := 742) (tgt := 785) O (xx_dt dd_L_law_0 25 rfl) (by decide) (by decide) rfl (by decide) ?_
        exact lc_14 O hl hB h11 hi hlen hI i_packs (fun z τ σ n hI => kk z τ σ n s hI hSi)
      | 15, _ =>
        refine sw_tableIn (off := 782) (tgt := 825) O (xx_dt dd_L_law_0 25 rfl) (by decide) (by decide) rfl (by decide) ?_
        exact lc_15 O hl hB h11 hi hlen hI i_channel (fun z τ σ n hI => kk z τ σ n s hI hSi)
      | 16, _ =>
        refine sw_tableIn (off := 834) (tgt := 877) O (xx_dt dd_L_law_0 25 rfl) (by decide) (by decide) rfl (by decide) ?_
        exact lc_16 O hl hB h11 hi hlen hI i_clear (fun z τ σ n hI => kk z τ σ n s hI hSi)
      | 17, _ =>
        refine sw_tableIn (off := 862) (tgt := 905) O (xx_dt dd_L_law_0 25 rfl) (by decide) (by decide) rfl (by decide) ?_
        exact lc_17 O hl hB h11 hi hlen hI i_ofRegion (fun z τ σ n hI => kk z τ σ n s hI hSi)
      | 18, _ =>
        refine sw_tableIn (off := 902) (tgt := 945) O (xx_dt dd_L_law_0 25 rfl) (by decide) (by decide) rfl (by decide) ?_
        exact lc_18 O hl hB h11 hi hlen hI i_ofBidder (fun z τ σ n hI => kk z τ σ n s hI hSi)
      | 19, _ =>
        refine sw_tableIn (off := 942) (tgt := 985) O (xx_dt dd_L_law_0 25 rfl) (by decide) (by decide) rfl (by decide) ?_
        exact lc_19 O hl hB h11 hi hlen hI i_wants (fun z τ σ n hI => kk z τ σ n s hI hSi)
      | 20, _ =>
        refine sw_tableIn (off := 1010) (tgt := 1053) O (xx_dt dd_L_law_0 25 rfl) (by decide) (by decide) rfl (by decide) ?_
        exact lc_20 O hl hB h11 hi hlen hI i_priceIn (fun z τ σ n hI => kk z τ σ n s hI hSi)
      | 21, _ =>
        refine sw_tableIn (off := 1050) (tgt := 1093) O (xx_dt dd_L_law_0 25 rfl) (by decide) (by decide) rfl (by decide) ?_
        exact lc_21 O hl hB h11 hi hlen hI i_codeIn (fun z τ σ n hI => kk z τ σ n s hI hSi)
      | 22, _ =>
        refine sw_tableIn (off := 1118) (tgt := 1161) O (xx_dt dd_L_law_0 25 rfl) (by decide) (by decide) rfl (by decide) ?_
        exact lc_22 O hl hB h11 hi hlen hI i_ofPackage (fun z τ σ n hI => kk z τ σ n s hI hSi)
      | 23, _ =>
        refine sw_tableIn (off := 1186) (tgt := 1229) O (xx_dt dd_L_law_0 25 rfl) (by decide) (by decide) rfl (by decide) ?_
        exact lc_23 O hl hB h11 hi hlen hI i_wins (fun z τ σ n hI => kk z τ σ n s hI hSi)
      | 24, _ =>
        refine sw_tableIn (off := 1214) (tgt := 1257) O (xx_dt dd_L_law_0 25 rfl) (by decide) (by decide) rfl (by decide) ?_
        exact lc_24 O hl hB h11 hi hlen hI i_pays (fun z τ σ n hI => kk z τ σ n s hI hSi)
      | 25, _ =>
        refine sw_tableIn (off := 1270) (tgt := 1313) O (xx_dt dd_L_law_0 25 rfl) (by decide) (by decide) rfl (by decide) ?_
        exact lc_25 O hl hB h11 hi hlen hI i_holder (fun z τ σ n hI => kk z τ σ n s hI hSi)
      | 26, _ =>
        refine sw_tableIn (off := 1310) (tgt := 1353) O (xx_dt dd_L_law_0 25 rfl) (by decide) (by decide) rfl (by decide) ?_
        exact lc_26 O hl hB h11 hi hlen hI hc0 hcb hmeI hY0 hSi i_chart kk
      | 27, _ =>
        refine sw_tableIn (off := 1338) (tgt := 1381) O (xx_dt dd_L_law_0 25 rfl) (by decide) (by decide) rfl (by decide) ?_
        exact lc_27 O hl hB h11 hi hlen hI i_sale (fun z τ σ n hI => kk z τ σ n s hI hSi)
      | 28, _ =>
        refine sw_tableIn (off := 1366) (tgt := 1409) O (xx_dt dd_L_law_0 25 rfl) (by decide) (by decide) rfl (by decide) ?_
        exact lc_28 O hl hB h11 hi hlen hI i_worth (fun z τ σ n hI => kk z τ σ n s hI hSi)
      | 29, _ =>
        refine sw_tableIn (off := 1394) (tgt := 1437) O (xx_dt dd_L_law_0 25 rfl) (by decide) (by decide) rfl (by decide) ?_
        exact lc_29 O hl hB h11 hi hlen hI i_wouldPay (fun z τ σ n hI => kk z τ σ n s hI hSi)
      | 30, _ =>
        refine sw_tableIn (off := 1434) (tgt := 1477) O (xx_dt dd_L_law_0 25 rfl) (by decide) (by decide) rfl (by decide) ?_
        exact lc_30 O hl hB h11 hi hlen hI i_objects (fun z τ σ n hI => kk z τ σ n s hI hSi)
      | 31, _ =>
        refine sw_tableIn (off := 1474) (tgt := 1517) O (xx_dt dd_L_law_0 25 rfl) (by decide) (by decide) rfl (by decide) ?_
        exact lc_31 O hl hB h11 hi hlen hI i_most (fun z τ σ n hI => kk z τ σ n s hI hSi)
      | 32, _ =>
        refine sw_tableIn (off := 1514) (tgt := 1557) O (xx_dt dd_L_law_0 25 rfl) (by decide) (by decide) rfl (by decide) ?_
        exact lc_32 O hl hB h11 hi hlen hI i_contradicts (fun z τ σ n hI => kk z τ σ n s hI hSi)
      | 33, _ =>
        refine sw_tableIn (off := 1542) (tgt := 1585) O (xx_dt dd_L_law_0 25 rfl) (by decide) (by decide) rfl (by decide) ?_
        exact lc_33 O hl hB h11 hi hlen hI i_anew (fun z τ σ n hI => kk z τ σ n s hI hSi)
      | 34, _ =>
        refine sw_tableIn (off := 1606) (tgt := 1649) O (xx_dt dd_L_law_0 25 rfl) (by decide) (by decide) rfl (by decide) ?_
        exact lc_34 O hl hB h11 hi hlen hI i_knock (fun z τ σ n hI => kk z τ σ n s hI hSi)
      | 35, _ =>
        refine sw_tableIn (off := 1619) (tgt := 1662) O (xx_dt dd_L_law_0 25 rfl) (by decide) (by decide) rfl (by decide) ?_
        exact lc_35 O hl hB h11 hi hlen hI i_isSound (fun z τ σ n hI => kk z τ σ n s hI hSi)
      | 36, _ =>
        refine sw_tableIn (off := 1632) (tgt := 1675) O (xx_dt dd_L_law_0 25 rfl) (by decide) (by decide) rfl (by decide) ?_
        exact lc_36 O hl hB h11 hi hlen hI i_digest (fun z τ σ n hI => kk z τ σ n s hI hSi)
      | k + 37, h9 => exact absurd h9 (by omega)
    · refine sw_tableOut (tgt := 1688) O (xx_dt dd_L_law_0 25 rfl) (.inr (by rw [toI_nI (by omega)]; omega)) (by decide) ?_
      exact xx_wid (k' := 700 * f) (n' := 10000 * f) (by omega) (by omega) (kk z τ σ n s hI hSi)
end
