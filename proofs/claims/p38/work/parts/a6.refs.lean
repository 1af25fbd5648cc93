section
/-! ===== what the cells name ===== -/
def cbd (C : XS9) : Prop := cn (C 5001 900) ≤ 5 ∧ cn (C 5002 900) ≤ 6 ∧ cn (C 5003 900) ≤ 60 ∧ (∀ j, j < 10 → cn (C (5030 + j) 900) ≤ 20) ∧ ∀ b, (b = 7000 ∨ b = 8000) → cn (C b 21) ≤ 60 ∧ cn (C b 22) ≤ 60 ∧ cn (C b 23) < 200 ∧ cn (C b 24) < 200
theorem box_ref {v : Int32} {e a : Nat} (h : Value.ref (xx_box v e) = .ref a) : a < 456 ∨ a = e := by
  have h9 : (_ : Nat) = a := Value.ref.inj h
  unfold xx_box at h9
  by_cases hs : xx_small v
  · rw [if_pos hs] at h9
    have := (small_nat hs).2
    left
    omega
  · rw [if_neg hs] at h9
    exact .inr h9.symm
theorem lyB_ref {C : XS9} {b i j a : Nat} {s : Nat → Int32} {c : XC} (hb : b = 7000 ∨ b = 8000) (h1 : cn (C b 21) ≤ 60) (h2 : cn (C b 22) ≤ 60) (h3 : cn (C b 23) < 200) (h4 : cn (C b 24) < 200) (e : lyB C b i s = some c) (hj : j < c.2.1) (hv : c.2.2 j = .ref a) : 5000 ≤ a ∧ a < 10200 := by
  unfold lyB at e
  by_cases w0 : i < 8
  · rw [if_pos w0] at e
    split at e <;> first | (cases e; done) | (cases e; dsimp only at hj hv; revert hv; (repeat' split) <;> intro hv <;> first | (cases hv; done) | (have h9 : (_ : Nat) = a := Value.ref.inj hv; omega))
  rw [if_neg w0] at e
  by_cases u0 : i < 200
  · rw [if_pos u0] at e
    split at e <;> first | (cases e; done) | (cases e; cases hv)
  rw [if_neg u0] at e
  by_cases u1 : i < 300
  · rw [if_pos u1] at e
    split at e <;> first | (cases e; done) | (cases e; cases hv)
  rw [if_neg u1] at e
  by_cases u2 : i < 700
  · rw [if_pos u2] at e
    split at e <;> first | (cases e; done) | (cases e; cases hv)
  rw [if_neg u2] at e
  by_cases u3 : i < 900
  · rw [if_pos u3] at e
    split at e <;> first | (cases e; done) | (cases e; cases hv)
  rw [if_neg u3] at e
  cases e
theorem lyQ_ref {z : Int64} {C : XS9} {r j a : Nat} {s : Nat → Int32} {c : XC} (hb : cbd C) (e : lyQ z C r s = some c) (hj : j < c.2.1) (hv : c.2.2 j = .ref a) : a < 456 ∨ (5000 ≤ a ∧ (r ≠ 5004 → a < 10200)) := by
  obtain ⟨b1, b2, b3, b4, b5⟩ := hb
  unfold lyQ at e
  by_cases w0 : r < 5010
  · rw [if_pos w0] at e
    by_cases x4 : r = 5004
    · subst x4
      cases e
      have h9 := box_ref hv
      rcases h9 with h9 | h9
      · exact .inl h9
      · right
        have := nmS_r (σ := C) j
        exact ⟨by omega, fun h => absurd rfl h⟩
    · right
      split at e <;> first | (cases e; done) | (exact absurd rfl x4) | (cases e; dsimp only at hj hv; revert hv; (repeat' split) <;> intro hv <;> first | (cases hv; done) | (have h9 : (_ : Nat) = a := Value.ref.inj hv; omega))
  rw [if_neg w0] at e
  by_cases u0 : r < 5020
  · rw [if_pos u0] at e
    split at e <;> first | (cases e; done) | (cases e; cases hv)
  rw [if_neg u0] at e
  by_cases u1 : r < 5030
  · rw [if_pos u1] at e
    right
    split at e
    · cases e
      dsimp only at hj hv
      by_cases k0 : j = 5
      · rw [if_pos k0] at hv
        have h9 : (_ : Nat) = a := Value.ref.inj hv
        omega
      · rw [if_neg k0] at hv
        cases hv
    · cases e
  rw [if_neg u1] at e
  by_cases u2 : r < 5040
  · rw [if_pos u2] at e
    split at e
    · cases e
      have h8 := b4 (r - 5030) (by omega)
      rw [show 5030 + (r - 5030) = r by omega] at h8
      have hj' : j < cn (C r 900) := hj
      rcases box_ref hv with h9 | h9
      · exact .inl h9
      · right
        unfold nmP at h9
        omega
    · cases e
  rw [if_neg u2] at e
  by_cases u3 : r < 5200
  · rw [if_pos u3] at e
    cases e
  rw [if_neg u3] at e
  by_cases u4 : r < 5300
  · rw [if_pos u4] at e
    right
    split at e
    · cases e
      dsimp only at hj hv
      by_cases k0 : j = 0
      · rw [if_pos k0] at hv
        cases hv
      · rw [if_neg k0] at hv
        have h9 : (_ : Nat) = a := Value.ref.inj hv
        omega
    · cases e
  rw [if_neg u4] at e
  by_cases u5 : r < 6000
  · rw [if_pos u5] at e
    cases e
  rw [if_neg u5] at e
  by_cases u6 : r < 6100
  · rw [if_pos u6] at e
    split at e <;> first | (cases e; done) | (cases e; cases hv)
  rw [if_neg u6] at e
  by_cases u7 : r < 6200
  · rw [if_pos u7] at e
    split at e <;> first | (cases e; done) | (cases e; cases hv)
  rw [if_neg u7] at e
  by_cases u8 : r < 6300
  · rw [if_pos u8] at e
    split at e <;> first | (cases e; done) | (cases e; cases hv)
  rw [if_neg u8] at e
  by_cases u9 : r < 6400
  · rw [if_pos u9] at e
    split at e <;> first | (cases e; done) | (cases e; cases hv)
  rw [if_neg u9] at e
  by_cases v0 : r < 7000
  · rw [if_pos v0] at e
    cases e
  rw [if_neg v0] at e
  by_cases v1 : r < 8000
  · rw [if_pos v1] at e
    split at e
    · cases e
    · obtain ⟨q1, q2, q3, q4⟩ := b5 7000 (.inl rfl)
      have := lyB_ref (.inl rfl) q1 q2 q3 q4 e hj hv
      exact .inr ⟨this.1, fun _ => this.2⟩
  rw [if_neg v1] at e
  by_cases v2 : r < 9000
  · rw [if_pos v2] at e
    split at e
    · cases e
    · obtain ⟨q1, q2, q3, q4⟩ := b5 8000 (.inr rfl)
      have := lyB_ref (.inr rfl) q1 q2 q3 q4 e hj hv
      exact .inr ⟨this.1, fun _ => this.2⟩
  rw [if_neg v2] at e
  by_cases v3 : r < 9010
  · rw [if_pos v3] at e
    split at e
    · cases e
    · right
      split at e <;> first | (cases e; done) | (cases e; dsimp only at hj hv; revert hv; (repeat' split) <;> intro hv <;> first | (cases hv; done) | (have h9 : (_ : Nat) = a := Value.ref.inj hv; omega))
  rw [if_neg v3] at e
  by_cases v4 : r < 10000
  · rw [if_pos v4] at e
    cases e
  rw [if_neg v4] at e
  by_cases v5 : r < 10200
  · rw [if_pos v5] at e
    split at e <;> first | (cases e; done) | (cases e; cases hv)
  rw [if_neg v5] at e
  by_cases v6 : r < 10300
  · rw [if_pos v6] at e
    split at e <;> first | (cases e; done) | (cases e; cases hv)
  rw [if_neg v6] at e
  by_cases v7 : r < 20000
  · rw [if_pos v7] at e
    cases e
  rw [if_neg v7] at e
  by_cases v8 : r < 20010
  · rw [if_pos v8] at e
    split at e <;> first | (cases e; done) | (cases e; cases hv)
  rw [if_neg v8] at e
  cases e
theorem lyK_ref {b i j a : Nat} {s : Nat → Int32} {c : XC} (hb : b = 2000 ∨ b = 3000) (hi : i < 1000) (e : lyK b i s = some c) (hj : j < c.2.1) (hv : c.2.2 j = .ref a) : 1000 ≤ a ∧ a < 4000 := by
  unfold lyK at e
  (repeat' split at e) <;> first | (cases e; done) | (cases e; dsimp only at hj hv; revert hv; (repeat' split) <;> intro hv <;> first | (cases hv; done) | (have h9 : (_ : Nat) = a := Value.ref.inj hv; omega))
theorem lyC_ref {r j a : Nat} {s : Nat → Int32} {c : XC} (hr : 1000 ≤ r ∧ r < 4000) (e : lyC r s = some c) (hj : j < c.2.1) (hv : c.2.2 j = .ref a) : 1000 ≤ a ∧ a < 4000 := by
  unfold lyC at e
  by_cases w0 : 3000 ≤ r
  · rw [if_pos w0] at e
    exact lyK_ref (.inr rfl) (by omega) e hj hv
  rw [if_neg w0] at e
  by_cases w1 : 2000 ≤ r
  · rw [if_pos w1] at e
    exact lyK_ref (.inl rfl) (by omega) e hj hv
  rw [if_neg w1] at e
  by_cases x1 : 1021 < r ∧ r ≤ 1027
  · rw [if_pos x1] at e; cases e; cases hv
  rw [if_neg x1] at e
  by_cases x2 : 1030 < r ∧ r ≤ 1036
  · rw [if_pos x2] at e; cases e; cases hv
  rw [if_neg x2] at e
  by_cases x3 : 1050 < r ∧ r ≤ 1114
  · rw [if_pos x3] at e; cases e; cases hv
  rw [if_neg x3] at e
  by_cases x4 : 1120 < r ∧ r ≤ 1124
  · rw [if_pos x4] at e; cases e; cases hv
  rw [if_neg x4] at e
  by_cases x5 : 1130 < r ∧ r ≤ 1133
  · rw [if_pos x5] at e; cases e; cases hv
  rw [if_neg x5] at e
  by_cases x6 : 1140 < r ∧ r ≤ 1145
  · rw [if_pos x6] at e; cases e; cases hv
  rw [if_neg x6] at e
  split at e <;> first | (cases e; done) | (cases e; cases hv; done) | (cases e; dsimp only at hj hv; revert hv; (repeat' split) <;> intro hv <;> first | (cases hv; done) | (have h9 : (_ : Nat) = a := Value.ref.inj hv; omega))
/-- no cell of the two sides names what lies between 4000 and 5000 -/
theorem mc_ref {h0 : XH} {z : Int64} {τ σ : XS9} {r j a : Nat} {c : XC} (h0b : ∀ r, 1000 ≤ r → h0 r = none) (h0c : ∀ (r : Nat) (c : XC) (j a : Nat), h0 r = some c → j < c.2.1 → c.2.2 j = .ref a → a < 1000) (hb : cbd (ctl τ)) (e : setM z τ (setC σ h0) r = some c) (hj : j < c.2.1) (hv : c.2.2 j = .ref a) : a < 4000 ∨ (5000 ≤ a ∧ (r ≠ 5004 → a < 10200)) := by
  unfold setM at e
  by_cases w : 5000 ≤ r ∧ r < 20010
  · rw [if_pos w] at e
    cases e9 : lyQ z (ctl τ) r (τ r) with
    | none =>
      rw [e9] at e
      have e' : setC σ h0 r = some c := e
      rw [setC_out (by omega), h0b r (by omega)] at e'
      cases e'
    | some c9 =>
      rw [e9] at e
      cases e
      rcases lyQ_ref hb e9 hj hv with h | h
      · left; omega
      · exact .inr h
  · rw [if_neg w] at e
    left
    unfold setC at e
    by_cases w2 : 1000 ≤ r ∧ r < 4000
    · rw [if_pos w2] at e
      exact (lyC_ref w2 e hj hv).2
    · rw [if_neg w2] at e
      have := h0c r c j a e hj hv
      omega
end
section
/-! ===== what the law drops ===== -/
def boxO (h : XH) : Option (Int32 × Nat) → XH
  | none => h
  | some p => boxK h p.1 p.2
section
variable {h0 : XH} {z : Int64} {τ σ : XS9} {n : Int64} {s : Option (Nat × (Nat → Value))}
theorem h0_ref (hB : okB h0) (hc0 : xx_cls h0) (r : Nat) (c : XC) (j a : Nat) (e : h0 r = some c) (hj : j < c.2.1) (hv : c.2.2 j = .ref a) : a < 1000 := by
  have := hc0 r c j e hj
  rw [hv] at this
  rcases Nat.lt_or_ge a 1000 with h | h
  · exact h
  · have e9 : (h0 a).isSome = true := this
    rw [hB.2.2 a h] at e9
    cases e9
theorem hL_mc {q : Nat} (h1 : q ≠ 4500) (h2 : q ≠ 4502) (h3 : q ≠ 4503) : hL h0 z τ σ n s q = setM z τ (setC σ h0) q := by
  by_cases a : 5000 ≤ q ∧ q < 20010
  · unfold hL setM
    rw [if_pos a, if_pos a]
    cases e : lyQ z (ctl τ) q (τ q) with
    | none => exact (setC_out (by omega)).trans ((hO_o h1 h2 h3).trans (setC_out (by omega)).symm)
    | some c => rfl
  · unfold hL
    rw [setM_out a, setM_out a]
    unfold setC
    split
    · rfl
    · exact hO_o h1 h2 h3
theorem hL_some {p : Nat × (Nat → Value)} : hL h0 z τ σ n (some p) 4502 = some (0, 4, xx_so 4503) ∧ hL h0 z τ σ n (some p) 4503 = some (102, p.1, p.2) := ⟨(setM_out (by omega)).trans ((setC_out (by omega)).trans ((xx_up_ne (by omega)).trans (xx_up_eq _ _ _))), (setM_out (by omega)).trans ((setC_out (by omega)).trans (xx_up_eq _ _ _))⟩
theorem hL_none (hB : okB h0) {q : Nat} (hq : q = 4502 ∨ q = 4503) : hL h0 z τ σ n none q = none := by
  have : hO h0 n none q = none := (xx_up_ne (by omega)).trans (hB.2.2 q (by omega))
  exact (setM_out (by omega)).trans ((setC_out (by omega)).trans this)
theorem mc_no (hB : okB h0) {q : Nat} (h1 : 4000 ≤ q) (h2 : q < 5000) : setM z τ (setC σ h0) q = none := (setM_out (by omega)).trans ((setC_out (by omega)).trans (hB.2.2 q (by omega)))
theorem drop_ask (hB : okB h0) (hc0 : xx_cls h0) (hcb : cbd (ctl τ)) {b : Option (Int32 × Nat)} (hb : ∀ p, b = some p → 10200 ≤ p.2 ∧ p.2 < 10300 ∧ (∀ s, lyQ z (ctl τ) p.2 s = none) ∧ ∀ k, k < cn (τ 5004 900) → xx_box (τ 5004 k) (nmS τ k) ≠ p.2) (hS : ∀ p, s = some p → ∀ j, j < p.1 → ∃ x : Int32, p.2 j = .int x) : xx_sub (hL h0 z τ σ n s) (setM z τ (boxO (setC σ (hO h0 n s)) b)) ∧ (xx_cls (setM z τ (boxO (setC σ (hO h0 n s)) b)) → xx_cls (hL h0 z τ σ n s)) := by
  cases b with
  | none => exact ⟨fun r d e => e, fun e => e⟩
  | some p =>
    obtain ⟨w, e⟩ := p
    obtain ⟨h1, h2, h3, h4⟩ := hb _ rfl
    dsimp only at h1 h2 h3 h4
    show xx_sub (hL h0 z τ σ n s) (setM z τ (boxK (setC σ (hO h0 n s)) w e)) ∧ (xx_cls (setM z τ (boxK (setC σ (hO h0 n s)) w e)) → xx_cls (hL h0 z τ σ n s))
    unfold boxK
    by_cases hs : xx_small w
    · rw [if_pos hs]
      exact ⟨fun r d e => e, fun e => e⟩
    · rw [if_neg hs, setM_up (.inr (h3 _))]
      have no : hL h0 z τ σ n s e = none := (setM_no (h3 _)).trans ((okM.lo (.inr (by omega))).trans (hB.2.2 e (by omega)))
      refine ⟨fun r d q => ?_, fun hcl r c j q hj => ?_⟩
      · by_cases a : r = e
        · rw [a, no] at q; cases q
        · rw [xx_up_ne a]; exact q
      · have ne : r ≠ e := fun a => by rw [a, no] at q; cases q
        have t := hcl r c j ((xx_up_ne ne).trans q) hj
        have hne : ∀ a : Nat, c.2.2 j = .ref a → a ≠ e := fun a hv => by
          by_cases x1 : r = 4500
          · rw [x1, hL_4500] at q
            cases q
            have hv' : fO n (sO s) j = .ref a := hv
            have hj' : j < 2 := hj
            match j, hj' with
            | 0, _ => cases hv'
            | 1, _ =>
              cases s with
              | none => cases hv'
              | some p =>
                have h9 : (4502 : Nat) = a := Value.ref.inj hv'
                omega
          · by_cases x2 : r = 4502
            · cases s with
              | none => rw [x2, hL_none hB (.inl rfl)] at q; cases q
              | some p =>
                rw [x2, hL_some.1] at q
                cases q
                have hv' : xx_so 4503 j = .ref a := hv
                have hj' : j < 4 := hj
                match j, hj' with
                | 0, _ =>
                  have h9 : (4503 : Nat) = a := Value.ref.inj hv'
                  omega
                | 1, _ => cases hv'
                | 2, _ => cases hv'
                | 3, _ => cases hv'
            · by_cases x3 : r = 4503
              · cases s with
                | none => rw [x3, hL_none hB (.inr rfl)] at q; cases q
                | some p =>
                  rw [x3, hL_some.2] at q
                  cases q
                  obtain ⟨x, ex⟩ := hS p rfl j hj
                  have hv' : p.2 j = .ref a := hv
                  rw [ex] at hv'
                  cases hv'
              · rw [hL_mc x1 x2 x3] at q
                by_cases x4 : r = 5004
                · subst x4
                  have q' : lyQ z (ctl τ) 5004 (τ 5004) = some c := by
                    unfold setM at q
                    rw [if_pos (by omega)] at q
                    exact q
                  cases q'
                  intro a9
                  have hv' : Value.ref (xx_box (τ 5004 j) (nmS τ j)) = .ref a := hv
                  have h9 : (xx_box (τ 5004 j) (nmS τ j) : Nat) = a := Value.ref.inj hv'
                  exact h4 j hj (h9.trans a9)
                · have := mc_ref hB.2.2 (h0_ref hB hc0) hcb q hj hv
                  omega
        revert t
        cases ev : c.2.2 j with
        | ref a =>
          intro t
          have t' : (xx_up (setM z τ (setC σ (hO h0 n s))) e (2, 1, fun _ => .int w) a).isSome = true := t
          rw [xx_up_ne (hne a ev)] at t'
          exact t'
        | _ => exact fun _ => trivial
/-- the heap behind the class's chart, its text named anew -/
def hLc (h0 : XH) (z : Int64) (τ σ : XS9) (n : Int64) (c : Nat) (G : Nat → Value) : XH := xx_up (xx_up (xx_up (setM z τ (setC σ h0)) 4500 (14, 2, fO n (.ref 4002))) 4002 (0, 4, xx_so 4003)) 4003 (102, c, G)
theorem hLc_4500 {c : Nat} {G : Nat → Value} : hLc h0 z τ σ n c G 4500 = some (14, 2, fO n (.ref 4002)) := (xx_up_ne (by omega)).trans ((xx_up_ne (by omega)).trans (xx_up_eq _ _ _))
theorem hLc_4002 {c : Nat} {G : Nat → Value} : hLc h0 z τ σ n c G 4002 = some (0, 4, xx_so 4003) := (xx_up_ne (by omega)).trans (xx_up_eq _ _ _)
theorem hLc_4003 {c : Nat} {G : Nat → Value} : hLc h0 z τ σ n c G 4003 = some (102, c, G) := xx_up_eq _ _ _
theorem hLc_o {c : Nat} {G : Nat → Value} {q : Nat} (h1 : q ≠ 4500) (h2 : q ≠ 4002) (h3 : q ≠ 4003) : hLc h0 z τ σ n c G q = setM z τ (setC σ h0) q := (xx_up_ne h3).trans ((xx_up_ne h2).trans (xx_up_ne h1))
def κS (q : Nat) : Nat := if q = 4002 then 4502 else if q = 4003 then 4503 else q
def κS' (q : Nat) : Nat := if q = 4502 then 4002 else if q = 4503 then 4003 else q
theorem κS_o {q : Nat} (h1 : q ≠ 4002) (h2 : q ≠ 4003) : κS q = q := by unfold κS; rw [if_neg h1, if_neg h2]
theorem sw_renS {Y : XY} {k9 n9 pc : Nat} {ls st : List Value} (hB : okB h0) (hc0 : xx_cls h0) (hcb : cbd (ctl τ)) (hY0 : ∀ r, (xy_h Y r).isSome = true → r < 1000) {c : Nat} {G : Nat → Value} (hG : ∀ j, j < c → ∃ x : Int32, G j = .int x) (hl : ∀ v ∈ ls, ∀ a : Nat, v = .ref a → a ≠ 4002 ∧ a ≠ 4003) (hst : ∀ v ∈ st, ∀ a : Nat, v = .ref a → a ≠ 4002 ∧ a ≠ 4003) (kk : SW Y k9 n9 (hL h0 z τ σ n (some (c, G))) pc ls st) : SW Y k9 n9 (hLc h0 z τ σ n c G) pc ls st := by
  have hfx : ∀ v : Value, (∀ a : Nat, v = .ref a → a ≠ 4002 ∧ a ≠ 4003) → vk κS v = v := fun v hv => by
    cases v with
    | ref a =>
      have := hv a rfl
      exact congrArg Value.ref (κS_o this.1 this.2)
    | _ => rfl
  have nr : ∀ r, (hLc h0 z τ σ n c G r).isSome = true → r ≠ 4502 ∧ r ≠ 4503 := fun r hr => by
    refine ⟨fun e => ?_, fun e => ?_⟩ <;> rw [e, hLc_o (by omega) (by omega) (by omega), mc_no hB (by omega) (by omega)] at hr <;> cases hr
  refine sw_ren κS κS' (fun r hr => ?_) (fun r hr => κS_o (by have := hY0 r hr; omega) (by have := hY0 r hr; omega)) (fun r hr => ⟨fun h => κS_o (by omega) (by omega), fun h => ?_⟩) (fun r' c' e => ?_) (fun r hr => ?_) (fun v hv => hfx v (hl v hv)) (fun v hv => hfx v (hst v hv)) kk
  · obtain ⟨a1, a2⟩ := nr r hr
    unfold κS κS'
    by_cases x1 : r = 4002
    · rw [if_pos x1, if_pos rfl, x1]
    · rw [if_neg x1]
      by_cases x2 : r = 4003
      · rw [if_pos x2, if_neg (by omega), if_pos rfl, x2]
      · rw [if_neg x2, if_neg a1, if_neg a2]
  · unfold κS
    split
    · omega
    · split <;> omega
  · by_cases x1 : r' = 4500
    · subst x1
      rw [hL_4500] at e
      cases e
      refine ⟨4500, _, hLc_4500, κS_o (by omega) (by omega), rfl, rfl, fun j hj => ?_⟩
      have hj' : j < 2 := hj
      match j, hj' with
      | 0, _ => rfl
      | 1, _ => rfl
    · by_cases x2 : r' = 4502
      · subst x2
        rw [hL_some.1] at e
        cases e
        refine ⟨4002, _, hLc_4002, rfl, rfl, rfl, fun j hj => ?_⟩
        have hj' : j < 4 := hj
        match j, hj' with
        | 0, _ => rfl
        | 1, _ => rfl
        | 2, _ => rfl
        | 3, _ => rfl
      · by_cases x3 : r' = 4503
        · subst x3
          rw [hL_some.2] at e
          cases e
          refine ⟨4003, _, hLc_4003, rfl, rfl, rfl, fun j hj => ?_⟩
          obtain ⟨x, ex⟩ := hG j hj
          show G j = vk κS (G j)
          rw [ex]
          rfl
        · rw [hL_mc x1 x2 x3] at e
          have n2 : r' ≠ 4002 := fun a => by rw [a, mc_no hB (by omega) (by omega)] at e; cases e
          have n3 : r' ≠ 4003 := fun a => by rw [a, mc_no hB (by omega) (by omega)] at e; cases e
          refine ⟨r', c', (hLc_o x1 n2 n3).trans e, κS_o n2 n3, rfl, rfl, fun j hj => ?_⟩
          refine (hfx _ fun a hv => ?_).symm
          have := mc_ref hB.2.2 (h0_ref hB hc0) hcb e hj hv
          omega
  · unfold κS
    by_cases x1 : r = 4002
    · rw [if_pos x1, hL_some.1]; rfl
    · rw [if_neg x1]
      by_cases x2 : r = 4003
      · rw [if_pos x2, hL_some.2]; rfl
      · rw [if_neg x2]
        by_cases x3 : r = 4500
        · rw [x3, hL_4500]; rfl
        · rw [hLc_o x3 x1 x2] at hr
          obtain ⟨a1, a2⟩ : r ≠ 4502 ∧ r ≠ 4503 := ⟨fun e => (by rw [e, mc_no hB (by omega) (by omega)] at hr; cases hr), fun e => (by rw [e, mc_no hB (by omega) (by omega)] at hr; cases hr)⟩
          rw [hL_mc x3 a1 a2]
          exact hr
/-- behind the class's chart: the old text goes, the new one gets its name -/
theorem sw_chartfix {Y : XY} {k9 n9 pc : Nat} {ls st : List Value} (hB : okB h0) (hc0 : xx_cls h0) (hcb : cbd (ctl τ)) (hY0 : ∀ r, (xy_h Y r).isSome = true → r < 1000 ∧ (h0 r).isSome = true) {c : Nat} {G : Nat → Value} (hG : ∀ j, j < c → ∃ x : Int32, G j = .int x) (hl : ∀ v ∈ ls, ∀ a : Nat, v = .ref a → a = 4500 ∨ ((setM z τ (setC σ h0)) a).isSome = true) (hst : ∀ v ∈ st, ∀ a : Nat, v = .ref a → a = 4500 ∨ ((setM z τ (setC σ h0)) a).isSome = true) (kk : SW Y k9 n9 (hL h0 z τ σ n (some (c, G))) pc ls st) : SW Y k9 n9 (xx_up (xx_up (xx_up (setC σ (setM z τ (hO h0 n s))) 4002 (0, 4, xx_so 4003)) 4003 (102, c, G)) 4500 (14, 2, updV (fO n (sO s)) 1 (.ref 4002))) pc ls st := by
  have eF : updV (fO n (sO s)) 1 (.ref 4002) = fO n (.ref 4002) := by
    funext k
    match k with
    | 0 => rfl
    | 1 => rfl
    | k + 2 => rfl
  rw [eF, ← hL_c (s := s)]
  have mcS : ∀ a : Nat, ((setM z τ (setC σ h0)) a).isSome = true → a ≠ 4002 ∧ a ≠ 4003 := fun a ha => ⟨fun e => (by rw [e, mc_no hB (by omega) (by omega)] at ha; cases ha), fun e => (by rw [e, mc_no hB (by omega) (by omega)] at ha; cases ha)⟩
  have inD : ∀ a : Nat, (a = 4500 ∨ ((setM z τ (setC σ h0)) a).isSome = true) → (hLc h0 z τ σ n c G a).isSome = true := fun a ha => by
    by_cases x3 : a = 4500
    · rw [x3, hLc_4500]; rfl
    · have h9 := ha.resolve_left x3
      obtain ⟨m1, m2⟩ := mcS a h9
      rw [hLc_o x3 m1 m2]
      exact h9
  refine sw_cls (fun hcl => ?_)
  refine sw_drop (h2 := hLc h0 z τ σ n c G) (fun q d e => ?_) (fun r c9 j e hj => ?_) (fun r hr => ?_) (fun v hv => ?_) (fun v hv => ?_) ?_
  · by_cases x3 : q = 4500
    · rw [x3, hLc_4500] at e
      rw [x3, xx_up_eq]; exact e
    · rw [xx_up_ne x3]
      by_cases x2 : q = 4003
      · rw [x2, hLc_4003] at e
        rw [x2, xx_up_eq]; exact e
      · rw [xx_up_ne x2]
        by_cases x1 : q = 4002
        · rw [x1, hLc_4002] at e
          rw [x1, xx_up_eq]; exact e
        · rw [xx_up_ne x1]
          rw [hLc_o x3 x1 x2] at e
          have a1 : q ≠ 4502 := fun a => by rw [a, mc_no hB (by omega) (by omega)] at e; cases e
          have a2 : q ≠ 4503 := fun a => by rw [a, mc_no hB (by omega) (by omega)] at e; cases e
          rw [hL_mc x3 a1 a2]
          exact e
  · by_cases x3 : r = 4500
    · rw [x3, hLc_4500] at e
      cases e
      have hj' : j < 2 := hj
      match j, hj' with
      | 0, _ => trivial
      | 1, _ => exact (by rw [hLc_4002]; rfl : (hLc h0 z τ σ n c G 4002).isSome = true)
    · by_cases x1 : r = 4002
      · rw [x1, hLc_4002] at e
        cases e
        have hj' : j < 4 := hj
        match j, hj' with
        | 0, _ => exact (by rw [hLc_4003]; rfl : (hLc h0 z τ σ n c G 4003).isSome = true)
        | 1, _ => trivial
        | 2, _ => trivial
        | 3, _ => trivial
      · by_cases x2 : r = 4003
        · rw [x2, hLc_4003] at e
          cases e
          obtain ⟨x, ex⟩ := hG j hj
          show xx_in _ (G j)
          rw [ex]
          trivial
        · rw [hLc_o x3 x1 x2] at e
          have a1 : r ≠ 4502 := fun a => by rw [a, mc_no hB (by omega) (by omega)] at e; cases e
          have a2 : r ≠ 4503 := fun a => by rw [a, mc_no hB (by omega) (by omega)] at e; cases e
          have t := hcl r c9 j ((xx_up_ne x3).trans ((xx_up_ne x2).trans ((xx_up_ne x1).trans ((hL_mc x3 a1 a2).trans e)))) hj
          have hne : ∀ a : Nat, c9.2.2 j = .ref a → ¬ (4000 ≤ a ∧ a < 5000) := fun a hv => by
            have := mc_ref hB.2.2 (h0_ref hB hc0) hcb e hj hv
            omega
          revert t
          cases ev : c9.2.2 j with
          | ref a =>
            intro t
            have na := hne a ev
            have t' : ((xx_up (xx_up (xx_up (hL h0 z τ σ n s) 4002 (0, 4, xx_so 4003)) 4003 (102, c, G)) 4500 (14, 2, fO n (.ref 4002))) a).isSome = true := t
            rw [xx_up_ne (by omega), xx_up_ne (by omega), xx_up_ne (by omega), hL_mc (by omega) (by omega) (by omega)] at t'
            exact inD a (.inr t')
          | _ => exact fun _ => trivial
  · obtain ⟨b1, b2⟩ := hY0 r hr
    have e : setM z τ (setC σ h0) r = h0 r := (setM_out (by omega)).trans (setC_out (by omega))
    exact inD r (.inr (by rw [e]; exact b2))
  · cases v with
    | ref a => exact inD a (hl _ hv a rfl)
    | _ => trivial
  · cases v with
    | ref a => exact inD a (hst _ hv a rfl)
    | _ => trivial
  · exact sw_renS hB hc0 hcb (fun r hr => (hY0 r hr).1) hG (fun v hv a e => by
      rcases hl v hv a e with h | h
      · omega
      · exact mcS a h) (fun v hv a e => by
      rcases hst v hv a e with h | h
      · omega
      · exact mcS a h) kk
end
end
section
/-! ===== the law's loop ===== -/
def sInt (s : Option (Nat × (Nat → Value))) : Prop := ∀ p, s = some p → ∀ j, j < p.1 → ∃ x : Int32, p.2 j = .int x
theorem hL_in {h0 : XH} {z : Int64} {τ σ : XS9} {n : Int64} {s : Option (Nat × (Nat → Value))} {c11 : XC} (h11 : h0 11 = some c11) {i : Nat} : ∀ v ∈ ([.ref 11, .ref 1000, .ref 5000, .ref 4500, .int (nI (5 * i)), xx_d, xx_d] : List Value), xx_in (hL h0 z τ σ n s) v := by
  intro v hv
  simp only [List.mem_cons, List.not_mem_nil, or_false] at hv
  rcases hv with rfl | rfl | rfl | rfl | rfl | rfl | rfl
  · show (hL h0 z τ σ n s 11).isSome = true
    rw [hL_lo (by omega), h11]; rfl
  · obtain ⟨f, e⟩ := hL_1000 (h0 := h0) (z := z) (τ := τ) (σ := σ) (n := n) (s := s)
    show (hL h0 z τ σ n s 1000).isSome = true
    rw [e]; rfl
  · exact in_mod
  · show (hL h0 z τ σ n s 4500).isSome = true
    rw [hL_4500]; rfl
  · trivial
  · trivial
  · trivial
theorem mc_in {h0 : XH} {z : Int64} {τ σ : XS9} {c11 : XC} (h11 : h0 11 = some c11) {i : Nat} : ∀ v ∈ ([.ref 11, .ref 1000, .ref 5000, .ref 4500, .int (nI (5 * i)), xx_d, xx_d] : List Value), ∀ a : Nat, v = .ref a → a = 4500 ∨ ((setM z τ (setC σ h0)) a).isSome = true := by
  intro v hv a e
  simp only [List.mem_cons, List.not_mem_nil, or_false] at hv
  rcases hv with rfl | rfl | rfl | rfl | rfl | rfl | rfl
  · right; cases e; rw [setM_out (by omega), setC_out (by omega), h11]; rfl
  · right; cases e; rw [setM_out (by omega), ly_1000]; rfl
  · right; cases e; rw [lm_mod]; rfl
  · left; cases e; rfl
  · cases e
  · cases e
  · cases e
theorem n5 {len i : Nat} (h : len ≤ 2560) (hi : 5 * i ≤ 2560) : nI len - 5 < nI (5 * i) ↔ len < 5 * i + 5 := by
  have e1 : (nI len - 5).toInt = (len : Int) - 5 := by
    rcases Nat.lt_or_ge len 5 with q | q
    · have : ∀ a : Fin 5, (nI a.1 - 5).toInt = (a.1 : Int) - 5 := by decide +kernel
      exact this ⟨len, q⟩
    · obtain ⟨m, rfl⟩ : ∃ m, len = m + 5 := ⟨len - 5, by omega⟩
      have e2 : nI (m + 5) - 5 = nI m := by
        have := nI_plus m 5
        rw [← this]
        show nI m + 5 - 5 = nI m
        rw [Int32.add_sub_cancel]
      rw [e2, toI_nI (by omega)]
      omega
  rw [i_lt, e1, toI_nI (by omega)]
  omega
def IF_ask (l : Launch) (LI : XS9 → XS9 → Prop) : Prop := ∀ (z : Int64) (τ σ : XS9) (p0 p1 : Int32), LI τ σ → ∃ (o : Int32 ⊕ String) (σ' : XS9) (v : Int32) (z' : Int64) (τ' : XS9) (b : Option (Int32 × Nat)), (∀ h, okC h → XEo l m_X7_ask 7 1 6 [.ref 1000, .int p0, .int p1] (setC σ h) (xoi o) (setC σ' h)) ∧ (∀ E, o = .inr E → E = eIOB ∨ E = eIAE) ∧ (∀ h, okM h → XEx l m_X14_ask 9 1 1 [.ref 5000, .int p0, .int p1] (setM z τ h) (some (.int v)) (setM z' τ' (boxO h b))) ∧ (∀ p, b = some p → 10200 ≤ p.2 ∧ p.2 < 10300 ∧ (∀ s, lyQ z' (ctl τ') p.2 s = none) ∧ ∀ k, k < cn (τ' 5004 900) → xx_box (τ' 5004 k) (nmS τ' k) ≠ p.2) ∧ LI τ' σ'
theorem lc_13 {Y : XY} {l : Launch} {h0 : XH} {xs : Nat → Int32} {len i : Nat} {n : Int64} {s : Option (Nat × (Nat → Value))} {z : Int64} {τ σ : XS9} {LI : XS9 → XS9 → Prop} (O : xx_O Y m_L_law l 40) (hl : l.stackTraces = false) (hB : okB h0) (h11 : h0 11 = some (100, len, fun j => .int (xs j))) (hi : 5 * i + 5 ≤ len) (hlen : len ≤ 2560) (hI : LI τ σ) (hc0 : xx_cls h0) (hcb : ∀ τ σ, LI τ σ → cbd (ctl τ)) (hmeI : ∀ τ σ, LI τ σ → mem_eq τ τ) (hY0 : ∀ r, (xy_h Y r).isSome = true → r < 1000 ∧ (h0 r).isSome = true) (hSi : sInt s) (hif : IF_ask l LI) {k9 n9 : Nat} (kk : ∀ z τ σ n s, LI τ σ → sInt s → SW Y k9 n9 (hL h0 z τ σ n s) 1660 [.ref 11, .ref 1000, .ref 5000, .ref 4500, .int (nI (5 * i)), xx_d, xx_d] []) : SW Y (k9 + 700) (n9 + 10000) (hL h0 z τ σ n s) 716 [.ref 11, .ref 1000, .ref 5000, .ref 4500, .int (nI (5 * i)), xx_d, xx_d] [] := by
  obtain ⟨kT, ekT⟩ : ∃ q, q = k9 + 700 := ⟨_, rfl⟩
  obtain ⟨nT, enT⟩ : ∃ q, q = n9 + 10000 := ⟨_, rfl⟩
  refine xx_wid (k' := kT) (n' := nT) (by omega) (by omega) ?_
  obtain ⟨o, σ', v, z', τ', b, hC, hE, hM, hb, hI'⟩ := hif z τ σ (xs (5 * i + 1)) (xs (5 * i + 2)) hI
  refine sw_aload_n O (xx_dt dd_L_law_6 18 rfl) rfl ?_
  refine sw_aload_n O (xx_dt dd_L_law_6 19 rfl) rfl ?_
  refine sw_iload O (xx_dt dd_L_law_6 20 rfl) rfl ?_
  refine sw_iconst (x := 1) O (xx_dt dd_L_law_6 21 rfl) (by decide) ?_
  refine sw_iadd O (xx_dt dd_L_law_6 22 rfl) ?_
  rw [show nI (5 * i) + 1 = nI (5 * i + 1) from nI_plus (5 * i) 1]
  refine sw_iaload (v := .int (xs (5 * i + 1))) O (xx_dt dd_L_law_6 23 rfl) ((hL_lo (by omega)).trans h11) (pk_in (5 * i + 1) _ (by omega)) (by rw [nI_clamp (by omega)]) ?_
  refine sw_aload_n O (xx_dt dd_L_law_6 24 rfl) rfl ?_
  refine sw_iload O (xx_dt dd_L_law_6 25 rfl) rfl ?_
  refine sw_iconst (x := 2) O (xx_dt dd_L_law_6 26 rfl) (by decide) ?_
  refine sw_iadd O (xx_dt dd_L_law_6 27 rfl) ?_
  rw [show nI (5 * i) + 2 = nI (5 * i + 2) from nI_plus (5 * i) 2]
  refine sw_iaload (v := .int (xs (5 * i + 2))) O (xx_dt dd_L_law_6 28 rfl) ((hL_lo (by omega)).trans h11) (pk_in (5 * i + 2) _ (by omega)) (by rw [nI_clamp (by omega)]) ?_
  refine sw_aload_n O (xx_dt dd_L_law_6 29 rfl) rfl ?_
  rw [hL_c]
  refine xx_wid (k' := (k9 + 699) + 1) (n' := (n9 + 9994) + 6) (by omega) (by omega) (sw_callSH (k := k9 + 699) (n := n9 + 9994) (k' := 1) (n' := 6) (as := [.ref 1000, .int (xs (5 * i + 1)), .int (xs (5 * i + 2)), .ref 4500]) (st := []) (st2 := [.int (lw_k [eIOB, eIAE] o)]) O (lw_ask hl (hC _ ⟨h0, z, τ, n, s, hB, rfl⟩) (ly_1000 σ _) (F := fO n (sO s)) ((setC_out (by omega)).trans ((setM_out (by omega)).trans hO_4500)) hE) ch_L_ask mk_L_188 st_L_ask (xx_dt dd_L_law_6 30 rfl) (by decide) rfl rfl (Nat.le_of_ble_eq_true rfl) rfl ?_)
  rw [lw_g_e]
  refine sw_istore (ls2 := [.ref 11, .ref 1000, .ref 5000, .ref 4500, .int (nI (5 * i)), .int (lw_k [eIOB, eIAE] o), xx_d]) O (xx_dt dd_L_law_6 31 rfl) (by decide) rfl ?_
  obtain ⟨kT, ekT⟩ : ∃ q, q = k9 + 699 := ⟨_, rfl⟩
  obtain ⟨nT, enT⟩ : ∃ q, q = n9 + 9994 := ⟨_, rfl⟩
  refine xx_wid (k' := kT) (n' := nT) (by omega) (by omega) ?_
  show SW Y _ _ (setM z τ (setC σ' (hO h0 (lw_n n o Int32.toInt64) s))) 735 [.ref 11, .ref 1000, .ref 5000, .ref 4500, .int (nI (5 * i)), .int (lw_k [eIOB, eIAE] o), xx_d] []
  refine sw_aload_n O (xx_dt dd_L_law_6 32 rfl) rfl ?_
  refine sw_aload_n O (xx_dt dd_L_law_6 33 rfl) rfl ?_
  refine sw_iload O (xx_dt dd_L_law_6 34 rfl) rfl ?_
  refine sw_iconst (x := 1) O (xx_dt dd_L_law_6 35 rfl) (by decide) ?_
  refine sw_iadd O (xx_dt dd_L_law_6 36 rfl) ?_
  rw [show nI (5 * i) + 1 = nI (5 * i + 1) from nI_plus (5 * i) 1]
  refine sw_iaload (v := .int (xs (5 * i + 1))) O (xx_dt dd_L_law_6 37 rfl) ((setM_out (by omega)).trans ((setC_out (by omega)).trans ((hO_o (by omega) (by omega) (by omega)).trans h11))) (pk_in (5 * i + 1) _ (by omega)) (by rw [nI_clamp (by omega)]) ?_
  refine sw_aload_n O (xx_dt dd_L_law_6 38 rfl) rfl ?_
  refine sw_iload O (xx_dt dd_L_law_6 39 rfl) rfl ?_
  refine sw_iconst (x := 2) O (xx_dt dd_L_law_6 40 rfl) (by decide) ?_
  refine sw_iadd O (xx_dt dd_L_law_6 41 rfl) ?_
  rw [show nI (5 * i) + 2 = nI (5 * i + 2) from nI_plus (5 * i) 2]
  refine sw_iaload (v := .int (xs (5 * i + 2))) O (xx_dt dd_L_law_6 42 rfl) ((setM_out (by omega)).trans ((setC_out (by omega)).trans ((hO_o (by omega) (by omega) (by omega)).trans h11))) (pk_in (5 * i + 2) _ (by omega)) (by rw [nI_clamp (by omega)]) ?_
  refine xx_wid (k' := (k9 + 698) + 1) (n' := (n9 + 9993) + 1) (by omega) (by omega) (sw_callVx (k := k9 + 698) (n := n9 + 9993) (k' := 1) (n' := 1) (as := [.int (xs (5 * i + 1)), .int (xs (5 * i + 2))]) (st := []) (st2 := [.int v]) O (hM _ ⟨h0, σ', _, s, hB, rfl⟩) ce_X14_ask ml_L_190 iv_X14_ask cl_X14 rfl lm_mod (xx_dt dd_L_law_6 43 rfl) (by decide) rfl rfl (Nat.le_of_ble_eq_true rfl) rfl ?_)
  refine sw_istore (ls2 := [.ref 11, .ref 1000, .ref 5000, .ref 4500, .int (nI (5 * i)), .int (lw_k [eIOB, eIAE] o), .int v]) O (xx_dt dd_L_law_6 44 rfl) (by decide) rfl ?_
  refine sw_goto (tgt := 1660) O (xx_dt dd_L_law_6 45 rfl) (by decide) ?_
  refine sw_dum (ls2 := [.ref 11, .ref 1000, .ref 5000, .ref 4500, .int (nI (5 * i)), xx_d, xx_d]) ⟨.inr rfl, .inr rfl, .inr rfl, .inr rfl, .inr rfl, .inl rfl, .inl rfl, trivial⟩ ?_
  obtain ⟨d1, d2⟩ := drop_ask (z := z') (σ := σ') (n := (lw_n n o Int32.toInt64)) hB hc0 (hcb _ _ hI') hb hSi
  refine sw_cls (fun hcl => ?_)
  refine sw_drop (h2 := hL h0 z' τ' σ' (lw_n n o Int32.toInt64) s) d1 (d2 hcl) (fun r hr => by rw [hL_lo (hY0 r hr).1]; exact (hY0 r hr).2) (hL_in h11) (by intro v9 hv9; cases hv9) ?_
  refine xx_wid (k' := k9) (n' := n9) (by omega) (by omega) ?_
  exact kk z' τ' σ' _ s hI' hSi
def txR : Option (Nat × (Nat → Value)) → Nat
  | none => 6
  | some _ => 20102
def txH (z : Int64) (τ : XS9) (h : XH) : Option (Nat × (Nat → Value)) → XH
  | none => setM z τ h
  | some p => setM z τ (hTM h p.1 p.2)
def IF_chart (l : Launch) (LI : XS9 → XS9 → Prop) : Prop := ∀ (z : Int64) (τ σ : XS9) (p0 : Int32), LI τ σ → ∃ (b : Option (Nat × (Nat → Value))) (t : Int32) (b2 : Option (Nat × (Nat → Value))), (∀ h, okC h → XEo l m_X7_chart 7 4 40 [.ref 1000, .int p0] (setC σ h) (xor (match b with | none => .inr eIOB | some _ => .inl 4002)) (match b with | none => setC σ h | some p => setC σ (hS h p.1 p.2))) ∧ (∀ p, b = some p → ∀ j, j < p.1 → ∃ x : Int32, p.2 j = .int x) ∧ (∀ h, okM h → XEx l m_X14_chart 9 24 158 [.ref 5000, .int p0] (setM z τ h) (some (.ref (txR b2))) (txH z (u2 τ 5000 0 t) h b2)) ∧ LI (u2 τ 5000 0 t) σ
theorem lc_26 {Y : XY} {l : Launch} {h0 : XH} {xs : Nat → Int32} {len i : Nat} {n : Int64} {s : Option (Nat × (Nat → Value))} {z : Int64} {τ σ : XS9} {LI : XS9 → XS9 → Prop} (O : xx_O Y m_L_law l 40) (hl : l.stackTraces = false) (hB : okB h0) (h11 : h0 11 = some (100, len, fun j => .int (xs j))) (hi : 5 * i + 5 ≤ len) (hlen : len ≤ 2560) (hI : LI τ σ) (hc0 : xx_cls h0) (hcb : ∀ τ σ, LI τ σ → cbd (ctl τ)) (hmeI : ∀ τ σ, LI τ σ → mem_eq τ τ) (hY0 : ∀ r, (xy_h Y r).isSome = true → r < 1000 ∧ (h0 r).isSome = true) (hSi : sInt s) (hif : IF_chart l LI) {k9 n9 : Nat} (kk : ∀ z τ σ n s, LI τ σ → sInt s → SW Y k9 n9 (hL h0 z τ σ n s) 1660 [.ref 11, .ref 1000, .ref 5000, .ref 4500, .int (nI (5 * i)), xx_d, xx_d] []) : SW Y (k9 + 700) (n9 + 10000) (hL h0 z τ σ n s) 1324 [.ref 11, .ref 1000, .ref 5000, .ref 4500, .int (nI (5 * i)), xx_d, xx_d] [] := by
  obtain ⟨kT, ekT⟩ : ∃ q, q = k9 + 700 := ⟨_, rfl⟩
  obtain ⟨nT, enT⟩ : ∃ q, q = n9 + 10000 := ⟨_, rfl⟩
  refine xx_wid (k' := kT) (n' := nT) (by omega) (by omega) ?_
  obtain ⟨b, t, b2, hC, hG, hM, hI'⟩ := hif z τ σ (xs (5 * i + 1)) hI
  have go : ∀ (s : Option (Nat × (Nat → Value))) (k : Int32), sInt s → SW Y (k9 + 696) (n9 + 9960) (hL h0 z τ σ n s) 1335 [.ref 11, .ref 1000, .ref 5000, .ref 4500, .int (nI (5 * i)), xx_d, xx_d] [.int k] := by
    intro s k hs9
    refine sw_istore (ls2 := [.ref 11, .ref 1000, .ref 5000, .ref 4500, .int (nI (5 * i)), .int k, xx_d]) O (xx_dt dd_L_law_13 22 rfl) (by decide) rfl ?_
    refine sw_cls (fun hclA => ?_)
    obtain ⟨kT, ekT⟩ : ∃ q, q = k9 + 696 := ⟨_, rfl⟩
    obtain ⟨nT, enT⟩ : ∃ q, q = n9 + 9960 := ⟨_, rfl⟩
    refine xx_wid (k' := kT) (n' := nT) (by omega) (by omega) ?_
    show SW Y _ _ (setM z τ (setC σ (hO h0 n s))) 1337 [.ref 11, .ref 1000, .ref 5000, .ref 4500, .int (nI (5 * i)), .int k, xx_d] []
    refine sw_aload_n O (xx_dt dd_L_law_13 23 rfl) rfl ?_
    refine sw_aload_n O (xx_dt dd_L_law_13 24 rfl) rfl ?_
    refine sw_iload O (xx_dt dd_L_law_13 25 rfl) rfl ?_
    refine sw_iconst (x := 1) O (xx_dt dd_L_law_13 26 rfl) (by decide) ?_
    refine sw_iadd O (xx_dt dd_L_law_13 27 rfl) ?_
    rw [show nI (5 * i) + 1 = nI (5 * i + 1) from nI_plus (5 * i) 1]
    refine sw_iaload (v := .int (xs (5 * i + 1))) O (xx_dt dd_L_law_13 28 rfl) ((setM_out (by omega)).trans ((setC_out (by omega)).trans ((hO_o (by omega) (by omega) (by omega)).trans h11))) (pk_in (5 * i + 1) _ (by omega)) (by rw [nI_clamp (by omega)]) ?_
    refine xx_wid (k' := (k9 + 672) + 24) (n' := (n9 + 9802) + 158) (by omega) (by omega) (sw_callVx (k := k9 + 672) (n := n9 + 9802) (k' := 24) (n' := 158) (as := [.int (xs (5 * i + 1))]) (st := []) (st2 := [.ref (txR b2)]) O (hM _ ⟨h0, σ, n, s, hB, rfl⟩) ce_X14_chart ml_L_230 iv_X14_chart cl_X14 rfl lm_mod (xx_dt dd_L_law_13 29 rfl) (by decide) rfl rfl (Nat.le_of_ble_eq_true rfl) rfl ?_)
    refine sw_astore (ls2 := [.ref 11, .ref 1000, .ref 5000, .ref 4500, .int (nI (5 * i)), .int k, .ref (txR b2)]) O (xx_dt dd_L_law_13 30 rfl) (by decide) rfl ?_
    refine sw_goto (tgt := 1660) O (xx_dt dd_L_law_13 31 rfl) (by decide) ?_
    refine sw_dum (ls2 := [.ref 11, .ref 1000, .ref 5000, .ref 4500, .int (nI (5 * i)), xx_d, xx_d]) ⟨.inr rfl, .inr rfl, .inr rfl, .inr rfl, .inr rfl, .inl rfl, .inl rfl, trivial⟩ ?_
    refine xx_wid (k' := k9) (n' := n9) (by omega) (by omega) ?_
    cases b2 with
    | none => exact kk z _ σ n s hI' hs9
    | some p =>
      have hclS : xx_cls (hL h0 z (u2 τ 5000 0 t) σ n s) := (mem_eq.int (r := 5000) (i := 0) (x := t) (hmeI _ _ hI) rfl).cls hclA
      refine sw_drop (h2 := hL h0 z (u2 τ 5000 0 t) σ n s) (hTM_drop (fun q a1 _ => (okM.lo (.inr (by omega))).trans (hB.2.2 q (by omega)))) hclS (fun r hr => by rw [hL_lo (hY0 r hr).1]; exact (hY0 r hr).2) (hL_in h11) (by intro v9 hv9; cases hv9) ?_
      exact kk z _ σ n s hI' hs9
  refine sw_aload_n O (xx_dt dd_L_law_13 14 rfl) rfl ?_
  refine sw_aload_n O (xx_dt dd_L_law_13 15 rfl) rfl ?_
  refine sw_iload O (xx_dt dd_L_law_13 16 rfl) rfl ?_
  refine sw_iconst (x := 1) O (xx_dt dd_L_law_13 17 rfl) (by decide) ?_
  refine sw_iadd O (xx_dt dd_L_law_13 18 rfl) ?_
  rw [show nI (5 * i) + 1 = nI (5 * i + 1) from nI_plus (5 * i) 1]
  refine sw_iaload (v := .int (xs (5 * i + 1))) O (xx_dt dd_L_law_13 19 rfl) ((hL_lo (by omega)).trans h11) (pk_in (5 * i + 1) _ (by omega)) (by rw [nI_clamp (by omega)]) ?_
  refine sw_aload_n O (xx_dt dd_L_law_13 20 rfl) rfl ?_
  rw [hL_c]
  cases b with
  | none =>
    refine xx_wid (k' := (k9 + 696) + 4) (n' := (n9 + 9960) + 40) (by omega) (by omega) (sw_callSH (k := k9 + 696) (n := n9 + 9960) (k' := 4) (n' := 40) (as := [.ref 1000, .int (xs (5 * i + 1)), .ref 4500]) (st := []) (st2 := [.int (lw_k [eIOB] (.inr eIOB : Nat ⊕ String))]) O (lw_chart hl (hC _ ⟨h0, z, τ, n, s, hB, rfl⟩) (ly_1000 σ _) (F := fO n (sO s)) ((setC_out (by omega)).trans ((setM_out (by omega)).trans hO_4500)) (fun E e => by cases e; rfl)) ch_L_chart mk_L_228 st_L_chart (xx_dt dd_L_law_13 21 rfl) (by decide) rfl rfl (Nat.le_of_ble_eq_true rfl) rfl ?_)
    show SW Y _ _ (setC σ (setM z τ (hO h0 n s))) 1335 [.ref 11, .ref 1000, .ref 5000, .ref 4500, .int (nI (5 * i)), xx_d, xx_d] _
    rw [← hL_c]
    exact go s _ hSi
  | some p =>
    refine xx_wid (k' := (k9 + 696) + 4) (n' := (n9 + 9960) + 40) (by omega) (by omega) (sw_callSH (k := k9 + 696) (n := n9 + 9960) (k' := 4) (n' := 40) (as := [.ref 1000, .int (xs (5 * i + 1)), .ref 4500]) (st := []) (st2 := [.int (lw_k [eIOB] (.inl 4002 : Nat ⊕ String))]) O (lw_chart hl (hC _ ⟨h0, z, τ, n, s, hB, rfl⟩) (ly_1000 σ _) (F := fO n (sO s)) ((setC_out (by omega)).trans ((xx_up_ne (by omega)).trans ((xx_up_ne (by omega)).trans ((setM_out (by omega)).trans hO_4500)))) (fun E e => by cases e)) ch_L_chart mk_L_228 st_L_chart (xx_dt dd_L_law_13 21 rfl) (by decide) rfl rfl (Nat.le_of_ble_eq_true rfl) rfl ?_)
    show SW Y _ _ (xx_up (setC σ (hS (setM z τ (hO h0 n s)) p.1 p.2)) 4500 (14, 2, updV (fO n (sO s)) 1 (.ref 4002))) 1335 [.ref 11, .ref 1000, .ref 5000, .ref 4500, .int (nI (5 * i)), xx_d, xx_d] _
    rw [← hS_up]
    have hG9 : ∀ j, j < p.1 → ∃ x : Int32, (fun j => if j < p.1 then p.2 j else Value.int 0) j = .int x := fun j hj => by
      obtain ⟨x, e⟩ := hG p rfl j hj
      exact ⟨x, by show (if j < p.1 then p.2 j else Value.int 0) = _; rw [if_pos hj]; exact e⟩
    refine sw_chartfix hB hc0 (hcb _ _ hI) hY0 hG9 (mc_in h11) (fun v hv a e => by simp only [List.mem_cons, List.not_mem_nil, or_false] at hv; rw [hv] at e; cases e) ?_
    exact go _ _ (fun q e j hj => by cases e; exact hG9 j hj)
def IF_knock (l : Launch) (LI : XS9 → XS9 → Prop) : Prop := ∀ (z : Int64) (τ σ : XS9), LI τ σ → ∃ (y : Int32) (σ' : XS9) (v : Int32) (z' : Int64) (τ' : XS9), (∀ h, okC h → XEx l m_X7_knock 0 0 0 [.ref 1000] (setC σ h) (some (.int y)) (setC σ' h)) ∧ (∀ h, okM h → XEx l m_X14_knock 0 0 0 [.ref 5000] (setM z τ h) (some (.int v)) (setM z' τ' h)) ∧ LI τ' σ'
theorem lc_34 {Y : XY} {l : Launch} {h0 : XH} {xs : Nat → Int32} {len i : Nat} {n : Int64} {s : Option (Nat × (Nat → Value))} {z : Int64} {τ σ : XS9} {LI : XS9 → XS9 → Prop} (O : xx_O Y m_L_law l 40) (hl : l.stackTraces = false) (hB : okB h0) (h11 : h0 11 = some (100, len, fun j => .int (xs j))) (hi : 5 * i + 5 ≤ len) (hlen : len ≤ 2560) (hI : LI τ σ) (hif : IF_knock l LI) {k9 n9 : Nat} (kk : ∀ z τ σ n, LI τ σ → SW Y k9 n9 (hL h0 z τ σ n s) 1660 [.ref 11, .ref 1000, .ref 5000, .ref 4500, .int (nI (5 * i)), xx_d, xx_d] []) : SW Y (k9 + 700) (n9 + 10000) (hL h0 z τ σ n s) 1620 [.ref 11, .ref 1000, .ref 5000, .ref 4500, .int (nI (5 * i)), xx_d, xx_d] [] := by
  obtain ⟨kT, ekT⟩ : ∃ q, q = k9 + 700 := ⟨_, rfl⟩
  obtain ⟨nT, enT⟩ : ∃ q, q = n9 + 10000 := ⟨_, rfl⟩
  refine xx_wid (k' := kT) (n' := nT) (by omega) (by omega) ?_
  obtain ⟨y, σ', v, z', τ', hC, hM, hI'⟩ := hif z τ σ hI
  refine sw_aload_n O (xx_dt dd_L_law_16 38 rfl) rfl ?_
  rw [hL_c]
  refine xx_wid (k' := (k9 + 700) + 0) (n' := (n9 + 10000) + 0) (by omega) (by omega) (sw_callVx (k := k9 + 700) (n := n9 + 10000) (k' := 0) (n' := 0) (as := []) (st := []) (st2 := [.int y]) O (hC _ ⟨h0, z, τ, n, s, hB, rfl⟩) ce_X7_knock ml_L_252 iv_X7_knock cl_X7 rfl (ly_1000 σ _) (xx_dt dd_L_law_16 39 rfl) (by decide) rfl rfl (Nat.le_of_ble_eq_true rfl) rfl ?_)
  refine sw_pop O (xx_dt dd_L_law_16 40 rfl) rfl ?_
  refine sw_aload_n O (xx_dt dd_L_law_16 41 rfl) rfl ?_
  rw [← hL_c]
  obtain ⟨kT, ekT⟩ : ∃ q, q = k9 + 700 := ⟨_, rfl⟩
  obtain ⟨nT, enT⟩ : ∃ q, q = n9 + 10000 := ⟨_, rfl⟩
  refine xx_wid (k' := kT) (n' := nT) (by omega) (by omega) ?_
  show SW Y _ _ (setM z τ (setC σ' (hO h0 n s))) 1626 [.ref 11, .ref 1000, .ref 5000, .ref 4500, .int (nI (5 * i)), xx_d, xx_d] [.ref 5000]
  refine xx_wid (k' := (k9 + 700) + 0) (n' := (n9 + 10000) + 0) (by omega) (by omega) (sw_callVx (k := k9 + 700) (n := n9 + 10000) (k' := 0) (n' := 0) (as := []) (st := []) (st2 := [.int v]) O (hM _ ⟨h0, σ', n, s, hB, rfl⟩) ce_X14_knock ml_L_255 iv_X14_knock cl_X14 rfl lm_mod (xx_dt dd_L_law_16 42 rfl) (by decide) rfl rfl (Nat.le_of_ble_eq_true rfl) rfl ?_)
  refine sw_pop O (xx_dt dd_L_law_16 43 rfl) rfl ?_
  refine sw_goto (tgt := 1660) O (xx_dt dd_L_law_16 44 rfl) (by decide) ?_
  refine xx_wid (k' := k9) (n' := n9) (by omega) (by omega) ?_
  exact kk z' τ' σ' n hI'
def IF_isSound (l : Launch) (LI : XS9 → XS9 → Prop) : Prop := ∀ (z : Int64) (τ σ : XS9), LI τ σ → ∃ (y : Int32) (σ' : XS9) (v : Int32) (z' : Int64) (τ' : XS9), (∀ h, okC h → XEx l m_X7_isSound 6 0 0 [.ref 1000] (setC σ h) (some (.int y)) (setC σ' h)) ∧ (∀ h, okM h → XEx l m_X14_isSound 13 495 8668 [.ref 5000] (setM z τ h) (some (.int v)) (setM z' τ' h)) ∧ LI τ' σ'
theorem lc_35 {Y : XY} {l : Launch} {h0 : XH} {xs : Nat → Int32} {len i : Nat} {n : Int64} {s : Option (Nat × (Nat → Value))} {z : Int64} {τ σ : XS9} {LI : XS9 → XS9 → Prop} (O : xx_O Y m_L_law l 40) (hl : l.stackTraces = false) (hB : okB h0) (h11 : h0 11 = some (100, len, fun j => .int (xs j))) (hi : 5 * i + 5 ≤ len) (hlen : len ≤ 2560) (hI : LI τ σ) (hif : IF_isSound l LI) {k9 n9 : Nat} (kk : ∀ z τ σ n, LI τ σ → SW Y k9 n9 (hL h0 z τ σ n s) 1660 [.ref 11, .ref 1000, .ref 5000, .ref 4500, .int (nI (5 * i)), xx_d, xx_d] []) : SW Y (k9 + 700) (n9 + 10000) (hL h0 z τ σ n s) 1633 [.ref 11, .ref 1000, .ref 5000, .ref 4500, .int (nI (5 * i)), xx_d, xx_d] [] := by
  obtain ⟨kT, ekT⟩ : ∃ q, q = k9 + 700 := ⟨_, rfl⟩
  obtain ⟨nT, enT⟩ : ∃ q, q = n9 + 10000 := ⟨_, rfl⟩
  refine xx_wid (k' := kT) (n' := nT) (by omega) (by omega) ?_
  obtain ⟨y, σ', v, z', τ', hC, hM, hI'⟩ := hif z τ σ hI
  refine sw_aload_n O (xx_dt dd_L_law_16 45 rfl) rfl ?_
  rw [hL_c]
  refine xx_wid (k' := (k9 + 700) + 0) (n' := (n9 + 10000) + 0) (by omega) (by omega) (sw_callVx (k := k9 + 700) (n := n9 + 10000) (k' := 0) (n' := 0) (as := []) (st := []) (st2 := [.int y]) O (hC _ ⟨h0, z, τ, n, s, hB, rfl⟩) ce_X7_isSound ml_L_256 iv_X7_isSound cl_X7 rfl (ly_1000 σ _) (xx_dt dd_L_law_16 46 rfl) (by decide) rfl rfl (Nat.le_of_ble_eq_true rfl) rfl ?_)
  refine sw_pop O (xx_dt dd_L_law_16 47 rfl) rfl ?_
  refine sw_aload_n O (xx_dt dd_L_law_16 48 rfl) rfl ?_
  rw [← hL_c]
  obtain ⟨kT, ekT⟩ : ∃ q, q = k9 + 700 := ⟨_, rfl⟩
  obtain ⟨nT, enT⟩ : ∃ q, q = n9 + 10000 := ⟨_, rfl⟩
  refine xx_wid (k' := kT) (n' := nT) (by omega) (by omega) ?_
  show SW Y _ _ (setM z τ (setC σ' (hO h0 n s))) 1639 [.ref 11, .ref 1000, .ref 5000, .ref 4500, .int (nI (5 * i)), xx_d, xx_d] [.ref 5000]
  refine xx_wid (k' := (k9 + 205) + 495) (n' := (n9 + 1332) + 8668) (by omega) (by omega) (sw_callVx (k := k9 + 205) (n := n9 + 1332) (k' := 495) (n' := 8668) (as := []) (st := []) (st2 := [.int v]) O (hM _ ⟨h0, σ', n, s, hB, rfl⟩) ce_X14_isSound ml_L_260 iv_X14_isSound cl_X14 rfl lm_mod (xx_dt dd_L_law_16 49 rfl) (by decide) rfl rfl (Nat.le_of_ble_eq_true rfl) rfl ?_)
  refine sw_pop O (xx_dt dd_L_law_16 50 rfl) rfl ?_
  refine sw_goto (tgt := 1660) O (xx_dt dd_L_law_16 51 rfl) (by decide) ?_
  refine xx_wid (k' := k9) (n' := n9) (by omega) (by omega) ?_
  exact kk z' τ' σ' n hI'
def IF_digest (l : Launch) (LI : XS9 → XS9 → Prop) : Prop := ∀ (z : Int64) (τ σ : XS9), LI τ σ → ∃ (y : Int64) (σ' : XS9) (v : Int64) (z' : Int64) (τ' : XS9), (∀ h, okC h → XEx l m_X7_digest 14 2 20 [.ref 1000] (setC σ h) (some (.long y)) (setC σ' h)) ∧ (∀ h, okM h → XEx l m_X14_digest 22 625 9590 [.ref 5000] (setM z τ h) (some (.long v)) (setM z' τ' h)) ∧ LI τ' σ' ∧ y = v
theorem lc_36 {Y : XY} {l : Launch} {h0 : XH} {xs : Nat → Int32} {len i : Nat} {n : Int64} {s : Option (Nat × (Nat → Value))} {z : Int64} {τ σ : XS9} {LI : XS9 → XS9 → Prop} (O : xx_O Y m_L_law l 40) (hl : l.stackTraces = false) (hB : okB h0) (h11 : h0 11 = some (100, len, fun j => .int (xs j))) (hi : 5 * i + 5 ≤ len) (hlen : len ≤ 2560) (hI : LI τ σ) (hif : IF_digest l LI) {k9 n9 : Nat} (kk : ∀ z τ σ n, LI τ σ → SW Y k9 n9 (hL h0 z τ σ n s) 1660 [.ref 11, .ref 1000, .ref 5000, .ref 4500, .int (nI (5 * i)), xx_d, xx_d] []) : SW Y (k9 + 700) (n9 + 10000) (hL h0 z τ σ n s) 1646 [.ref 11, .ref 1000, .ref 5000, .ref 4500, .int (nI (5 * i)), xx_d, xx_d] [] := by
  obtain ⟨kT, ekT⟩ : ∃ q, q = k9 + 700 := ⟨_, rfl⟩
  obtain ⟨nT, enT⟩ : ∃ q, q = n9 + 10000 := ⟨_, rfl⟩
  refine xx_wid (k' := kT) (n' := nT) (by omega) (by omega) ?_
  obtain ⟨y, σ', v, z', τ', hC, hM, hI', hV⟩ := hif z τ σ hI
  refine sw_aload_n O (xx_dt dd_L_law_16 52 rfl) rfl ?_
  rw [hL_c]
  refine xx_wid (k' := (k9 + 698) + 2) (n' := (n9 + 9980) + 20) (by omega) (by omega) (sw_callVx (k := k9 + 698) (n := n9 + 9980) (k' := 2) (n' := 20) (as := []) (st := []) (st2 := [.long y]) O (hC _ ⟨h0, z, τ, n, s, hB, rfl⟩) ce_X7_digest ml_L_261 iv_X7_digest cl_X7 rfl (ly_1000 σ _) (xx_dt dd_L_law_16 53 rfl) (by decide) rfl rfl (Nat.le_of_ble_eq_true rfl) rfl ?_)
  refine sw_aload_n O (xx_dt dd_L_law_16 54 rfl) rfl ?_
  rw [← hL_c]
  obtain ⟨kT, ekT⟩ : ∃ q, q = k9 + 698 := ⟨_, rfl⟩
  obtain ⟨nT, enT⟩ : ∃ q, q = n9 + 9980 := ⟨_, rfl⟩
  refine xx_wid (k' := kT) (n' := nT) (by omega) (by omega) ?_
  show SW Y _ _ (setM z τ (setC σ' (hO h0 n s))) 1651 [.ref 11, .ref 1000, .ref 5000, .ref 4500, .int (nI (5 * i)), xx_d, xx_d] [.ref 5000, .long y]
  refine xx_wid (k' := (k9 + 73) + 625) (n' := (n9 + 390) + 9590) (by omega) (by omega) (sw_callVx (k := k9 + 73) (n := n9 + 390) (k' := 625) (n' := 9590) (as := []) (st := [.long y]) (st2 := [.long v, .long y]) O (hM _ ⟨h0, σ', n, s, hB, rfl⟩) ce_X14_digest ml_L_265 iv_X14_digest cl_X14 rfl lm_mod (xx_dt dd_L_law_16 55 rfl) (by decide) rfl rfl (Nat.le_of_ble_eq_true rfl) rfl ?_)
  subst hV
  refine sw_lcmp O (xx_dt dd_L_law_16 56 rfl) ?_
  refine sw_if_eq (tgt := 1660) O (xx_dt dd_L_law_16 57 rfl) (by decide) (fun _ => ?_) (fun q9 => absurd (lw_cmp _) q9)
  refine xx_wid (k' := k9) (n' := n9) (by omega) (by omega) ?_
  exact kk z' τ' σ' n hI'
theorem law_loop {Y : XY} {l : Launch} {h0 : XH} {xs : Nat → Int32} {len : Nat} {LI : XS9 → XS9 → Prop} (O : xx_O Y m_L_law l 40) (hl : l.stackTraces = false) (hB : okB h0) (h11 : h0 11 = some (100, len, fun j => .int (xs j))) (hlen : len ≤ 2560) (hc0 : xx_cls h0) (hcb : ∀ τ σ, LI τ σ → cbd (ctl τ)) (hmeI : ∀ τ σ, LI τ σ → mem_eq τ τ) (hY0 : ∀ r, (xy_h Y r).isSome = true → r < 1000 ∧ (h0 r).isSome = true) (hQ1 : ∀ g, xy_Q Y (.inl (some (.int 1))) g) (i_region : IF_region l LI) (i_border : IF_border l LI) (i_bidder : IF_bidder l LI) (i_rules : IF_rules l LI) (i_step : IF_step l LI) (i_open : IF_open l LI) (i_wish : IF_wish l LI) (i_waive : IF_waive l LI) (i_close : IF_close l LI) (i_offer : IF_offer l LI) (i_settle : IF_settle l LI) (i_fail : IF_fail l LI) (i_station : IF_station l LI) (i_ask : IF_ask l LI) (i_packs : IF_packs l LI) (i_channel : IF_channel l LI) (i_clear : IF_clear l LI) (i_ofRegion : IF_ofRegion l LI) (i_ofBidder : IF_ofBidder l LI) (i_wants : IF_wants l LI) (i_priceIn : IF_priceIn l LI) (i_codeIn : IF_codeIn l LI) (i_ofPackage : IF_ofPackage l LI) (i_wins : IF_wins l LI) (i_pays : IF_pays l LI) (i_holder : IF_holder l LI) (i_chart : IF_chart l LI) (i_sale : IF_sale l LI) (i_worth : IF_worth l LI) (i_wouldPay : IF_wouldPay l LI) (i_objects : IF_objects l LI) (i_most : IF_most l LI) (i_contradicts : IF_contradicts l LI) (i_anew : IF_anew l LI) (i_knock : IF_knock l LI) (i_isSound : IF_isSound l LI) (i_digest : IF_digest l LI) : ∀ (f i : Nat), i + f = len / 5 → ∀ (z : Int64) (τ σ : XS9) (n : Int64) (s : Option (Nat × (Nat → Value))), LI τ σ → sInt s → SW Y (700 * f) (10000 * f) (hL h0 z τ σ n s) 27 [.ref 11, .ref 1000, .ref 5000, .ref 4500, .int (nI (5 * i)), xx_d, xx_d] []
  | 0, i, e, z, τ, σ, n, s, hI, hSi => by
    refine sw_iload O (xx_dt dd_L_law_0 14 rfl) rfl ?_
    refine sw_aload_n O (xx_dt dd_L_law_0 15 rfl) rfl ?_
    refine sw_alen (t := 100) O (xx_dt dd_L_law_0 16 rfl) (by omega) (by omega) ((hL_lo (by omega)).trans h11) ?_
    refine sw_iconst (x := 5) O (xx_dt dd_L_law_0 17 rfl) (by decide) ?_
    refine sw_isub O (xx_dt dd_L_law_0 18 rfl) ?_
    refine sw_icmp_gt (tgt := 1666) O (xx_dt dd_L_law_0 19 rfl) (by decide) (fun _ => ?_) (fun q => absurd ((n5 hlen (by omega)).mpr (by omega)) q)
    refine sw_iconst (x := 1) O (xx_dt dd_L_law_17 2 rfl) (by decide) ?_
    exact sw_iret O (xx_dt dd_L_law_17 3 rfl) rfl rfl (hQ1 _)
  | f + 1, i, e, z, τ, σ, n, s, hI, hSi => by
    have hi : 5 * i + 5 ≤ len := by omega
    have kk : ∀ z τ σ n s, LI τ σ → sInt s → SW Y (700 * f) (10000 * f) (hL h0 z τ σ n s) 1660 [.ref 11, .ref 1000, .ref 5000, .ref 4500, .int (nI (5 * i)), xx_d, xx_d] [] := by
      intro z τ σ n s hI hSi
      refine sw_iinc (y := nI (5 * (i + 1))) (ls2 := [.ref 11, .ref 1000, .ref 5000, .ref 4500, .int (nI (5 * (i + 1))), xx_d, xx_d]) O (xx_dt dd_L_law_17 0 rfl) rfl (by have := nI_plus (5 * i) 5; exact this) (by decide) rfl ?_
      refine sw_goto (tgt := 27) O (xx_dt dd_L_law_17 1 rfl) (by decide) ?_
      exact law_loop O hl hB h11 hlen hc0 hcb hmeI hY0 hQ1 i_region i_border i_bidder i_rules i_step i_open i_wish i_waive i_close i_offer i_settle i_fail i_station i_ask i_packs i_channel i_clear i_ofRegion i_ofBidder i_wants i_priceIn i_codeIn i_ofPackage i_wins i_pays i_holder i_chart i_sale i_worth i_wouldPay i_objects i_most i_contradicts i_anew i_knock i_isSound i_digest f (i + 1) (by omega) z τ σ n s hI hSi
    refine sw_iload O (xx_dt dd_L_law_0 14 rfl) rfl ?_
    refine sw_aload_n O (xx_dt dd_L_law_0 15 rfl) rfl ?_
    refine sw_alen (t := 100) O (xx_dt dd_L_law_0 16 rfl) (by omega) (by omega) ((hL_lo (by omega)).trans h11) ?_
    refine sw_iconst (x := 5) O (xx_dt dd_L_law_0 17 rfl) (by decide) ?_
    refine sw_isub O (xx_dt dd_L_law_0 18 rfl) ?_
    refine sw_icmp_gt (tgt := 1666) O (xx_dt dd_L_law_0 19 rfl) (by decide) (fun q => absurd ((n5 hlen (by omega)).mp q) (by omega)) (fun _ => ?_)
    refine sw_aload_n O (xx_dt dd_L_law_0 20 rfl) rfl ?_
    refine sw_iload O (xx_dt dd_L_law_0 21 rfl) rfl ?_
    refine sw_iaload (v := .int (xs (5 * i))) O (xx_dt dd_L_law_0 22 rfl) ((hL_lo (by omega)).trans h11) (pk_in (5 * i) _ (by omega)) (by rw [nI_clamp (by omega)]) ?_
    refine sw_bipush (x := 63) O (xx_dt dd_L_law_0 23 rfl) (by decide) ?_
    refine sw_iand O (xx_dt dd_L_law_0 24 rfl) ?_
    obtain ⟨j, hj, ej⟩ := pk_andE (xs (5 * i)) (m := 63) 6 (by decide)
    rw [ej]
    refine xx_wid (k' := 700 * f + 700) (n' := 10000 * f + 10000) (by omega) (by omega) ?_
    rcases Nat.lt_or_ge j 37 with h37 | h37
    · match j, h37 with
      | 0, _ =>
        refine sw_tableIn (off := 161) (tgt := 204) O (xx_dt dd_L_law_0 25 rfl) (by decide) (by decide) rfl (by decide) ?_
        exact lc_0 O hl hB h11 hi hlen hI i_region (fun z τ σ n hI => kk z τ σ n s hI hSi)
      | 1, _ =>
        refine sw_tableIn (off := 213) (tgt := 256) O (xx_dt dd_L_law_0 25 rfl) (by decide) (by decide) rfl (by decide) ?_
        exact lc_1 O hl hB h11 hi hlen hI i_border (fun z τ σ n hI => kk z τ σ n s hI hSi)
      | 2, _ =>
        refine sw_tableIn (off := 253) (tgt := 296) O (xx_dt dd_L_law_0 25 rfl) (by decide) (by decide) rfl (by decide) ?_
        exact lc_2 O hl hB h11 hi hlen hI i_bidder (fun z τ σ n hI => kk z τ σ n s hI hSi)
      | 3, _ =>
        refine sw_tableIn (off := 317) (tgt := 360) O (xx_dt dd_L_law_0 25 rfl) (by decide) (by decide) rfl (by decide) ?_
        exact lc_3 O hl hB h11 hi hlen hI i_rules (fun z τ σ n hI => kk z τ σ n s hI hSi)
      | 4, _ =>
        refine sw_tableIn (off := 373) (tgt := 416) O (xx_dt dd_L_law_0 25 rfl) (by decide) (by decide) rfl (by decide) ?_
        exact lc_4 O hl hB h11 hi hlen hI i_step (fun z τ σ n hI => kk z τ σ n s hI hSi)
      | 5, _ =>
        refine sw_tableIn (off := 401) (tgt := 444) O (xx_dt dd_L_law_0 25 rfl) (by decide) (by decide) rfl (by decide) ?_
        exact lc_5 O hl hB h11 hi hlen hI i_open (fun z τ σ n hI => kk z τ σ n s hI hSi)
      | 6, _ =>
        refine sw_tableIn (off := 417) (tgt := 460) O (xx_dt dd_L_law_0 25 rfl) (by decide) (by decide) rfl (by decide) ?_
        exact lc_6 O hl hB h11 hi hlen hI i_wish (fun z τ σ n hI => kk z τ σ n s hI hSi)
      | 7, _ =>
        refine sw_tableIn (off := 469) (tgt := 512) O (xx_dt dd_L_law_0 25 rfl) (by decide) (by decide) rfl (by decide) ?_
        exact lc_7 O hl hB h11 hi hlen hI i_waive (fun z τ σ n hI => kk z τ σ n s hI hSi)
      | 8, _ =>
        refine sw_tableIn (off := 497) (tgt := 540) O (xx_dt dd_L_law_0 25 rfl) (by decide) (by decide) rfl (by decide) ?_
        exact lc_8 O hl hB h11 hi hlen hI i_close (fun z τ σ n hI => kk z τ σ n s hI hSi)
      | 9, _ =>
        refine sw_tableIn (off := 525) (tgt := 568) O (xx_dt dd_L_law_0 25 rfl) (by decide) (by decide) rfl (by decide) ?_
        exact lc_9 O hl hB h11 hi hlen hI i_offer (fun z τ σ n hI => kk z τ σ n s hI hSi)
      | 10, _ =>
        refine sw_tableIn (off := 577) (tgt := 620) O (xx_dt dd_L_law_0 25 rfl) (by decide) (by decide) rfl (by decide) ?_
        exact lc_10 O hl hB h11 hi hlen hI i_settle (fun z τ σ n hI => kk z τ σ n s hI hSi)
      | 11, _ =>
        refine sw_tableIn (off := 605) (tgt := 648) O (xx_dt dd_L_law_0 25 rfl) (by decide) (by decide) rfl (by decide) ?_
        exact lc_11 O hl hB h11 hi hlen hI i_fail (fun z τ σ n hI => kk z τ σ n s hI hSi)
      | 12, _ =>
        refine sw_tableIn (off := 633) (tgt := 676) O (xx_dt dd_L_law_0 25 rfl) (by decide) (by decide) rfl (by decide) ?_
        exact lc_12 O hl hB h11 hi hlen hI i_station (fun z τ σ n hI => kk z τ σ n s hI hSi)
      | 13, _ =>
        refine sw_tableIn (off := 673) (tgt := 716) O (xx_dt dd_L_law_0 25 rfl) (by decide) (by decide) rfl (by decide) ?_
        exact lc_13 O hl hB h11 hi hlen hI hc0 hcb hmeI hY0 hSi i_ask kk
      | 14, _ =>
        refine sw_tableIn (off := 713) (tgt := 756) O (xx_dt dd_L_law_0 25 rfl) (by decide) (by decide) rfl (by decide) ?_
        exact lc_14 O hl hB h11 hi hlen hI i_packs (fun z τ σ n hI => kk z τ σ n s hI hSi)
      | 15, _ =>
        refine sw_tableIn (off := 753) (tgt := 796) O (xx_dt dd_L_law_0 25 rfl) (by decide) (by decide) rfl (by decide) ?_
        exact lc_15 O hl hB h11 hi hlen hI i_channel (fun z τ σ n hI => kk z τ σ n s hI hSi)
      | 16, _ =>
        refine sw_tableIn (off := 805) (tgt := 848) O (xx_dt dd_L_law_0 25 rfl) (by decide) (by decide) rfl (by decide) ?_
        exact lc_16 O hl hB h11 hi hlen hI i_clear (fun z τ σ n hI => kk z τ σ n s hI hSi)
      | 17, _ =>
        refine sw_tableIn (off := 833) (tgt := 876) O (xx_dt dd_L_law_0 25 rfl) (by decide) (by decide) rfl (by decide) ?_
        exact lc_17 O hl hB h11 hi hlen hI i_ofRegion (fun z τ σ n hI => kk z τ σ n s hI hSi)
      | 18, _ =>
        refine sw_tableIn (off := 873) (tgt := 916) O (xx_dt dd_L_law_0 25 rfl) (by decide) (by decide) rfl (by decide) ?_
        exact lc_18 O hl hB h11 hi hlen hI i_ofBidder (fun z τ σ n hI => kk z τ σ n s hI hSi)
      | 19, _ =>
        refine sw_tableIn (off := 913) (tgt := 956) O (xx_dt dd_L_law_0 25 rfl) (by decide) (by decide) rfl (by decide) ?_
        exact lc_19 O hl hB h11 hi hlen hI i_wants (fun z τ σ n hI => kk z τ σ n s hI hSi)
      | 20, _ =>
        refine sw_tableIn (off := 981) (tgt := 1024) O (xx_dt dd_L_law_0 25 rfl) (by decide) (by decide) rfl (by decide) ?_
        exact lc_20 O hl hB h11 hi hlen hI i_priceIn (fun z τ σ n hI => kk z τ σ n s hI hSi)
      | 21, _ =>
        refine sw_tableIn (off := 1021) (tgt := 1064) O (xx_dt dd_L_law_0 25 rfl) (by decide) (by decide) rfl (by decide) ?_
        exact lc_21 O hl hB h11 hi hlen hI i_codeIn (fun z τ σ n hI => kk z τ σ n s hI hSi)
      | 22, _ =>
        refine sw_tableIn (off := 1089) (tgt := 1132) O (xx_dt dd_L_law_0 25 rfl) (by decide) (by decide) rfl (by decide) ?_
        exact lc_22 O hl hB h11 hi hlen hI i_ofPackage (fun z τ σ n hI => kk z τ σ n s hI hSi)
      | 23, _ =>
        refine sw_tableIn (off := 1157) (tgt := 1200) O (xx_dt dd_L_law_0 25 rfl) (by decide) (by decide) rfl (by decide) ?_
        exact lc_23 O hl hB h11 hi hlen hI i_wins (fun z τ σ n hI => kk z τ σ n s hI hSi)
      | 24, _ =>
        refine sw_tableIn (off := 1185) (tgt := 1228) O (xx_dt dd_L_law_0 25 rfl) (by decide) (by decide) rfl (by decide) ?_
        exact lc_24 O hl hB h11 hi hlen hI i_pays (fun z τ σ n hI => kk z τ σ n s hI hSi)
      | 25, _ =>
        refine sw_tableIn (off := 1241) (tgt := 1284) O (xx_dt dd_L_law_0 25 rfl) (by decide) (by decide) rfl (by decide) ?_
        exact lc_25 O hl hB h11 hi hlen hI i_holder (fun z τ σ n hI => kk z τ σ n s hI hSi)
      | 26, _ =>
        refine sw_tableIn (off := 1281) (tgt := 1324) O (xx_dt dd_L_law_0 25 rfl) (by decide) (by decide) rfl (by decide) ?_
        exact lc_26 O hl hB h11 hi hlen hI hc0 hcb hmeI hY0 hSi i_chart kk
      | 27, _ =>
        refine sw_tableIn (off := 1309) (tgt := 1352) O (xx_dt dd_L_law_0 25 rfl) (by decide) (by decide) rfl (by decide) ?_
        exact lc_27 O hl hB h11 hi hlen hI i_sale (fun z τ σ n hI => kk z τ σ n s hI hSi)
      | 28, _ =>
        refine sw_tableIn (off := 1337) (tgt := 1380) O (xx_dt dd_L_law_0 25 rfl) (by decide) (by decide) rfl (by decide) ?_
        exact lc_28 O hl hB h11 hi hlen hI i_worth (fun z τ σ n hI => kk z τ σ n s hI hSi)
      | 29, _ =>
        refine sw_tableIn (off := 1365) (tgt := 1408) O (xx_dt dd_L_law_0 25 rfl) (by decide) (by decide) rfl (by decide) ?_
        exact lc_29 O hl hB h11 hi hlen hI i_wouldPay (fun z τ σ n hI => kk z τ σ n s hI hSi)
      | 30, _ =>
        refine sw_tableIn (off := 1405) (tgt := 1448) O (xx_dt dd_L_law_0 25 rfl) (by decide) (by decide) rfl (by decide) ?_
        exact lc_30 O hl hB h11 hi hlen hI i_objects (fun z τ σ n hI => kk z τ σ n s hI hSi)
      | 31, _ =>
        refine sw_tableIn (off := 1445) (tgt := 1488) O (xx_dt dd_L_law_0 25 rfl) (by decide) (by decide) rfl (by decide) ?_
        exact lc_31 O hl hB h11 hi hlen hI i_most (fun z τ σ n hI => kk z τ σ n s hI hSi)
      | 32, _ =>
        refine sw_tableIn (off := 1485) (tgt := 1528) O (xx_dt dd_L_law_0 25 rfl) (by decide) (by decide) rfl (by decide) ?_
        exact lc_32 O hl hB h11 hi hlen hI i_contradicts (fun z τ σ n hI => kk z τ σ n s hI hSi)
      | 33, _ =>
        refine sw_tableIn (off := 1513) (tgt := 1556) O (xx_dt dd_L_law_0 25 rfl) (by decide) (by decide) rfl (by decide) ?_
        exact lc_33 O hl hB h11 hi hlen hI i_anew (fun z τ σ n hI => kk z τ σ n s hI hSi)
      | 34, _ =>
        refine sw_tableIn (off := 1577) (tgt := 1620) O (xx_dt dd_L_law_0 25 rfl) (by decide) (by decide) rfl (by decide) ?_
        exact lc_34 O hl hB h11 hi hlen hI i_knock (fun z τ σ n hI => kk z τ σ n s hI hSi)
      | 35, _ =>
        refine sw_tableIn (off := 1590) (tgt := 1633) O (xx_dt dd_L_law_0 25 rfl) (by decide) (by decide) rfl (by decide) ?_
        exact lc_35 O hl hB h11 hi hlen hI i_isSound (fun z τ σ n hI => kk z τ σ n s hI hSi)
      | 36, _ =>
        refine sw_tableIn (off := 1603) (tgt := 1646) O (xx_dt dd_L_law_0 25 rfl) (by decide) (by decide) rfl (by decide) ?_
        exact lc_36 O hl hB h11 hi hlen hI i_digest (fun z τ σ n hI => kk z τ σ n s hI hSi)
      | k + 37, h9 => exact absurd h9 (by omega)
    · refine sw_tableOut (tgt := 1660) O (xx_dt dd_L_law_0 25 rfl) (.inr (by rw [toI_nI (by omega)]; omega)) (by decide) ?_
      exact xx_wid (k' := 700 * f) (n' := 10000 * f) (by omega) (by omega) (kk z τ σ n s hI hSi)
end
section
/-! ===== the start: what the statement gives of the machine's own ===== -/
abbrev stC : Cond := Jvm.Cond.and given_1 narrow_1
abbrev stFlat : List Cond := flatC stC
/-- the words of the tables and the facts of the start -/
def stH (args : Array Value) (s : State) : Prop := (∀ w ∈ lw_tbl, w.before args s = true) ∧ stC.before args s = true
section
variable {args : Array Value} {s : State}
theorem stH.gw (h : stH args s) : ∀ w ∈ xx_gws, w.before args s = true := fun w hw => h.1 w (List.mem_filter.mp hw).1
theorem stH.tb (h : stH args s) : ∀ w ∈ tables_1, w.before args s = true := fun w hw => h.1 w (List.mem_append_right _ hw)
theorem stH.fl (h : stH args s) {w : Cond} (hw : w ∈ stFlat) : w.before args s = true := flat_of_before _ h.2 w hw
def st_flat : Cond → List Cond → List Cond
  | .and a b, acc => st_flat a (st_flat b acc)
  | c, acc => c :: acc
theorem st_flatE : ∀ (c : Cond) (acc : List Cond), st_flat c acc = flatC c ++ acc := by
  intro c
  induction c with
  | and a b iha ihb =>
    intro acc
    show st_flat a (st_flat b acc) = (flatC a ++ flatC b) ++ acc
    rw [iha, ihb, List.append_assoc]
  | _ => intro acc; rfl
def st_X : List Cond := [(Jvm.Cond.isRef (Jvm.Term.arg (0 : Nat))), (Jvm.Cond.arrayOf (Jvm.Term.arg (0 : Nat)) Jvm.ClassFile.FieldType.int), (Jvm.Cond.le (Jvm.Term.length (Jvm.Term.arg (0 : Nat))) (Jvm.Term.int (2560 : Int32))), (Jvm.Cond.eq (Jvm.Term.static "java/lang/String" "COMPACT_STRINGS" "Z") (Jvm.Term.int (1 : Int32))), (Jvm.Cond.isRef (Jvm.Term.static "jdk/internal/util/Preconditions" "SIOOBE_FORMATTER" "Ljava/util/function/BiFunction;")), (Jvm.Cond.eq (Jvm.Term.static "java/lang/StringUTF16" "$assertionsDisabled" "Z") (Jvm.Term.int (1 : Int32))), (Jvm.Cond.eq (Jvm.Term.static "java/lang/StringUTF16" "HI_BYTE_SHIFT" "I") (Jvm.Term.int (0 : Int32))), (Jvm.Cond.eq (Jvm.Term.static "java/lang/StringUTF16" "LO_BYTE_SHIFT" "I") (Jvm.Term.int (8 : Int32))), (Jvm.Cond.isRef (Jvm.Term.static "java/lang/Integer" "DigitOnes" "[B")), (Jvm.Cond.arrayOf (Jvm.Term.static "java/lang/Integer" "DigitOnes" "[B") Jvm.ClassFile.FieldType.byte), (Jvm.Cond.eq (Jvm.Term.length (Jvm.Term.static "java/lang/Integer" "DigitOnes" "[B")) (Jvm.Term.int (100 : Int32))), (Jvm.Cond.eq (Jvm.Term.elem (Jvm.Term.static "java/lang/Integer" "DigitOnes" "[B") (Jvm.Term.int (0 : Int32))) (Jvm.Term.int (48 : Int32))), (Jvm.Cond.eq (Jvm.Term.elem (Jvm.Term.static "java/lang/Integer" "DigitOnes" "[B") (Jvm.Term.int (1 : Int32))) (Jvm.Term.int (49 : Int32))), (Jvm.Cond.eq (Jvm.Term.elem (Jvm.Term.static "java/lang/Integer" "DigitOnes" "[B") (Jvm.Term.int (2 : Int32))) (Jvm.Term.int (50 : Int32))), (Jvm.Cond.eq (Jvm.Term.elem (Jvm.Term.static "java/lang/Integer" "DigitOnes" "[B") (Jvm.Term.int (3 : Int32))) (Jvm.Term.int (51 : Int32))), (Jvm.Cond.eq (Jvm.Term.elem (Jvm.Term.static "java/lang/Integer" "DigitOnes" "[B") (Jvm.Term.int (4 : Int32))) (Jvm.Term.int (52 : Int32))), (Jvm.Cond.eq (Jvm.Term.elem (Jvm.Term.static "java/lang/Integer" "DigitOnes" "[B") (Jvm.Term.int (5 : Int32))) (Jvm.Term.int (53 : Int32))), (Jvm.Cond.eq (Jvm.Term.elem (Jvm.Term.static "java/lang/Integer" "DigitOnes" "[B") (Jvm.Term.int (6 : Int32))) (Jvm.Term.int (54 : Int32))), (Jvm.Cond.eq (Jvm.Term.elem (Jvm.Term.static "java/lang/Integer" "DigitOnes" "[B") (Jvm.Term.int (7 : Int32))) (Jvm.Term.int (55 : Int32))), (Jvm.Cond.eq (Jvm.Term.elem (Jvm.Term.static "java/lang/Integer" "DigitOnes" "[B") (Jvm.Term.int (8 : Int32))) (Jvm.Term.int (56 : Int32))), (Jvm.Cond.eq (Jvm.Term.elem (Jvm.Term.static "java/lang/Integer" "DigitOnes" "[B") (Jvm.Term.int (9 : Int32))) (Jvm.Term.int (57 : Int32))), (Jvm.Cond.eq (Jvm.Term.elem (Jvm.Term.static "java/lang/Integer" "DigitOnes" "[B") (Jvm.Term.int (10 : Int32))) (Jvm.Term.int (48 : Int32))), (Jvm.Cond.eq (Jvm.Term.elem (Jvm.Term.static "java/lang/Integer" "DigitOnes" "[B") (Jvm.Term.int (11 : Int32))) (Jvm.Term.int (49 : Int32))), (Jvm.Cond.eq (Jvm.Term.elem (Jvm.Term.static "java/lang/Integer" "DigitOnes" "[B") (Jvm.Term.int (12 : Int32))) (Jvm.Term.int (50 : Int32))), (Jvm.Cond.eq (Jvm.Term.elem (Jvm.Term.static "java/lang/Integer" "DigitOnes" "[B") (Jvm.Term.int (13 : Int32))) (Jvm.Term.int (51 : Int32))), (Jvm.Cond.eq (Jvm.Term.elem (Jvm.Term.static "java/lang/Integer" "DigitOnes" "[B") (Jvm.Term.int (14 : Int32))) (Jvm.Term.int (52 : Int32))), (Jvm.Cond.eq (Jvm.Term.elem (Jvm.Term.static "java/lang/Integer" "DigitOnes" "[B") (Jvm.Term.int (15 : Int32))) (Jvm.Term.int (53 : Int32))), (Jvm.Cond.eq (Jvm.Term.elem (Jvm.Term.static "java/lang/Integer" "DigitOnes" "[B") (Jvm.Term.int (16 : Int32))) (Jvm.Term.int (54 : Int32))), (Jvm.Cond.eq (Jvm.Term.elem (Jvm.Term.static "java/lang/Integer" "DigitOnes" "[B") (Jvm.Term.int (17 : Int32))) (Jvm.Term.int (55 : Int32))), (Jvm.Cond.eq (Jvm.Term.elem (Jvm.Term.static "java/lang/Integer" "DigitOnes" "[B") (Jvm.Term.int (18 : Int32))) (Jvm.Term.int (56 : Int32))), (Jvm.Cond.eq (Jvm.Term.elem (Jvm.Term.static "java/lang/Integer" "DigitOnes" "[B") (Jvm.Term.int (19 : Int32))) (Jvm.Term.int (57 : Int32))), (Jvm.Cond.eq (Jvm.Term.elem (Jvm.Term.static "java/lang/Integer" "DigitOnes" "[B") (Jvm.Term.int (20 : Int32))) (Jvm.Term.int (48 : Int32))), (Jvm.Cond.eq (Jvm.Term.elem (Jvm.Term.static "java/lang/Integer" "DigitOnes" "[B") (Jvm.Term.int (21 : Int32))) (Jvm.Term.int (49 : Int32))), (Jvm.Cond.eq (Jvm.Term.elem (Jvm.Term.static "java/lang/Integer" "DigitOnes" "[B") (Jvm.Term.int (22 : Int32))) (Jvm.Term.int (50 : Int32))), (Jvm.Cond.eq (Jvm.Term.elem (Jvm.Term.static "java/lang/Integer" "DigitOnes" "[B") (Jvm.Term.int (23 : Int32))) (Jvm.Term.int (51 : Int32))), (Jvm.Cond.eq (Jvm.Term.elem (Jvm.Term.static "java/lang/Integer" "DigitOnes" "[B") (Jvm.Term.int (24 : Int32))) (Jvm.Term.int (52 : Int32))), (Jvm.Cond.eq (Jvm.Term.elem (Jvm.Term.static "java/lang/Integer" "DigitOnes" "[B") (Jvm.Term.int (25 : Int32))) (Jvm.Term.int (53 : Int32))), (Jvm.Cond.eq (Jvm.Term.elem (Jvm.Term.static "java/lang/Integer" "DigitOnes" "[B") (Jvm.Term.int (26 : Int32))) (Jvm.Term.int (54 : Int32))), (Jvm.Cond.eq (Jvm.Term.elem (Jvm.Term.static "java/lang/Integer" "DigitOnes" "[B") (Jvm.Term.int (27 : Int32))) (Jvm.Term.int (55 : Int32))), (Jvm.Cond.eq (Jvm.Term.elem (Jvm.Term.static "java/lang/Integer" "DigitOnes" "[B") (Jvm.Term.int (28 : Int32))) (Jvm.Term.int (56 : Int32))), (Jvm.Cond.eq (Jvm.Term.elem (Jvm.Term.static "java/lang/Integer" "DigitOnes" "[B") (Jvm.Term.int (29 : Int32))) (Jvm.Term.int (57 : Int32))), (Jvm.Cond.eq (Jvm.Term.elem (Jvm.Term.static "java/lang/Integer" "DigitOnes" "[B") (Jvm.Term.int (30 : Int32))) (Jvm.Term.int (48 : Int32))), (Jvm.Cond.eq (Jvm.Term.elem (Jvm.Term.static "java/lang/Integer" "DigitOnes" "[B") (Jvm.Term.int (31 : Int32))) (Jvm.Term.int (49 : Int32))), (Jvm.Cond.eq (Jvm.Term.elem (Jvm.Term.static "java/lang/Integer" "DigitOnes" "[B") (Jvm.Term.int (32 : Int32))) (Jvm.Term.int (50 : Int32))), (Jvm.Cond.eq (Jvm.Term.elem (Jvm.Term.static "java/lang/Integer" "DigitOnes" "[B") (Jvm.Term.int (33 : Int32))) (Jvm.Term.int (51 : Int32))), (Jvm.Cond.eq (Jvm.Term.elem (Jvm.Term.static "java/lang/Integer" "DigitOnes" "[B") (Jvm.Term.int (34 : Int32))) (Jvm.Term.int (52 : Int32))), (Jvm.Cond.eq (Jvm.Term.elem (Jvm.Term.static "java/lang/Integer" "DigitOnes" "[B") (Jvm.Term.int (35 : Int32))) (Jvm.Term.int (53 : Int32))), (Jvm.Cond.eq (Jvm.Term.elem (Jvm.Term.static "java/lang/Integer" "DigitOnes" "[B") (Jvm.Term.int (36 : Int32))) (Jvm.Term.int (54 : Int32))), (Jvm.Cond.eq (Jvm.Term.elem (Jvm.Term.static "java/lang/Integer" "DigitOnes" "[B") (Jvm.Term.int (37 : Int32))) (Jvm.Term.int (55 : Int32))), (Jvm.Cond.eq (Jvm.Term.elem (Jvm.Term.static "java/lang/Integer" "DigitOnes" "[B") (Jvm.Term.int (38 : Int32))) (Jvm.Term.int (56 : Int32))), (Jvm.Cond.eq (Jvm.Term.elem (Jvm.Term.static "java/lang/Integer" "DigitOnes" "[B") (Jvm.Term.int (39 : Int32))) (Jvm.Term.int (57 : Int32))), (Jvm.Cond.eq (Jvm.Term.elem (Jvm.Term.static "java/lang/Integer" "DigitOnes" "[B") (Jvm.Term.int (40 : Int32))) (Jvm.Term.int (48 : Int32))), (Jvm.Cond.eq (Jvm.Term.elem (Jvm.Term.static "java/lang/Integer" "DigitOnes" "[B") (Jvm.Term.int (41 : Int32))) (Jvm.Term.int (49 : Int32))), (Jvm.Cond.eq (Jvm.Term.elem (Jvm.Term.static "java/lang/Integer" "DigitOnes" "[B") (Jvm.Term.int (42 : Int32))) (Jvm.Term.int (50 : Int32))), (Jvm.Cond.eq (Jvm.Term.elem (Jvm.Term.static "java/lang/Integer" "DigitOnes" "[B") (Jvm.Term.int (43 : Int32))) (Jvm.Term.int (51 : Int32))), (Jvm.Cond.eq (Jvm.Term.elem (Jvm.Term.static "java/lang/Integer" "DigitOnes" "[B") (Jvm.Term.int (44 : Int32))) (Jvm.Term.int (52 : Int32))), (Jvm.Cond.eq (Jvm.Term.elem (Jvm.Term.static "java/lang/Integer" "DigitOnes" "[B") (Jvm.Term.int (45 : Int32))) (Jvm.Term.int (53 : Int32))), (Jvm.Cond.eq (Jvm.Term.elem (Jvm.Term.static "java/lang/Integer" "DigitOnes" "[B") (Jvm.Term.int (46 : Int32))) (Jvm.Term.int (54 : Int32))), (Jvm.Cond.eq (Jvm.Term.elem (Jvm.Term.static "java/lang/Integer" "DigitOnes" "[B") (Jvm.Term.int (47 : Int32))) (Jvm.Term.int (55 : Int32))), (Jvm.Cond.eq (Jvm.Term.elem (Jvm.Term.static "java/lang/Integer" "DigitOnes" "[B") (Jvm.Term.int (48 : Int32))) (Jvm.Term.int (56 : Int32))), (Jvm.Cond.eq (Jvm.Term.elem (Jvm.Term.static "java/lang/Integer" "DigitOnes" "[B") (Jvm.Term.int (49 : Int32))) (Jvm.Term.int (57 : Int32))), (Jvm.Cond.eq (Jvm.Term.elem (Jvm.Term.static "java/lang/Integer" "DigitOnes" "[B") (Jvm.Term.int (50 : Int32))) (Jvm.Term.int (48 : Int32))), (Jvm.Cond.eq (Jvm.Term.elem (Jvm.Term.static "java/lang/Integer" "DigitOnes" "[B") (Jvm.Term.int (51 : Int32))) (Jvm.Term.int (49 : Int32))), (Jvm.Cond.eq (Jvm.Term.elem (Jvm.Term.static "java/lang/Integer" "DigitOnes" "[B") (Jvm.Term.int (52 : Int32))) (Jvm.Term.int (50 : Int32))), (Jvm.Cond.eq (Jvm.Term.elem (Jvm.Term.static "java/lang/Integer" "DigitOnes" "[B") (Jvm.Term.int (53 : Int32))) (Jvm.Term.int (51 : Int32))), (Jvm.Cond.eq (Jvm.Term.elem (Jvm.Term.static "java/lang/Integer" "DigitOnes" "[B") (Jvm.Term.int (54 : Int32))) (Jvm.Term.int (52 : Int32))), (Jvm.Cond.eq (Jvm.Term.elem (Jvm.Term.static "java/lang/Integer" "DigitOnes" "[B") (Jvm.Term.int (55 : Int32))) (Jvm.Term.int (53 : Int32))), (Jvm.Cond.eq (Jvm.Term.elem (Jvm.Term.static "java/lang/Integer" "DigitOnes" "[B") (Jvm.Term.int (56 : Int32))) (Jvm.Term.int (54 : Int32))), (Jvm.Cond.eq (Jvm.Term.elem (Jvm.Term.static "java/lang/Integer" "DigitOnes" "[B") (Jvm.Term.int (57 : Int32))) (Jvm.Term.int (55 : Int32))), (Jvm.Cond.eq (Jvm.Term.elem (Jvm.Term.static "java/lang/Integer" "DigitOnes" "[B") (Jvm.Term.int (58 : Int32))) (Jvm.Term.int (56 : Int32))), (Jvm.Cond.eq (Jvm.Term.elem (Jvm.Term.static "java/lang/Integer" "DigitOnes" "[B") (Jvm.Term.int (59 : Int32))) (Jvm.Term.int (57 : Int32))), (Jvm.Cond.eq (Jvm.Term.elem (Jvm.Term.static "java/lang/Integer" "DigitOnes" "[B") (Jvm.Term.int (60 : Int32))) (Jvm.Term.int (48 : Int32))), (Jvm.Cond.eq (Jvm.Term.elem (Jvm.Term.static "java/lang/Integer" "DigitOnes" "[B") (Jvm.Term.int (61 : Int32))) (Jvm.Term.int (49 : Int32))), (Jvm.Cond.eq (Jvm.Term.elem (Jvm.Term.static "java/lang/Integer" "DigitOnes" "[B") (Jvm.Term.int (62 : Int32))) (Jvm.Term.int (50 : Int32))), (Jvm.Cond.eq (Jvm.Term.elem (Jvm.Term.static "java/lang/Integer" "DigitOnes" "[B") (Jvm.Term.int (63 : Int32))) (Jvm.Term.int (51 : Int32))), (Jvm.Cond.eq (Jvm.Term.elem (Jvm.Term.static "java/lang/Integer" "DigitOnes" "[B") (Jvm.Term.int (64 : Int32))) (Jvm.Term.int (52 : Int32))), (Jvm.Cond.eq (Jvm.Term.elem (Jvm.Term.static "java/lang/Integer" "DigitOnes" "[B") (Jvm.Term.int (65 : Int32))) (Jvm.Term.int (53 : Int32))), (Jvm.Cond.eq (Jvm.Term.elem (Jvm.Term.static "java/lang/Integer" "DigitOnes" "[B") (Jvm.Term.int (66 : Int32))) (Jvm.Term.int (54 : Int32))), (Jvm.Cond.eq (Jvm.Term.elem (Jvm.Term.static "java/lang/Integer" "DigitOnes" "[B") (Jvm.Term.int (67 : Int32))) (Jvm.Term.int (55 : Int32))), (Jvm.Cond.eq (Jvm.Term.elem (Jvm.Term.static "java/lang/Integer" "DigitOnes" "[B") (Jvm.Term.int (68 : Int32))) (Jvm.Term.int (56 : Int32))), (Jvm.Cond.eq (Jvm.Term.elem (Jvm.Term.static "java/lang/Integer" "DigitOnes" "[B") (Jvm.Term.int (69 : Int32))) (Jvm.Term.int (57 : Int32))), (Jvm.Cond.eq (Jvm.Term.elem (Jvm.Term.static "java/lang/Integer" "DigitOnes" "[B") (Jvm.Term.int (70 : Int32))) (Jvm.Term.int (48 : Int32))), (Jvm.Cond.eq (Jvm.Term.elem (Jvm.Term.static "java/lang/Integer" "DigitOnes" "[B") (Jvm.Term.int (71 : Int32))) (Jvm.Term.int (49 : Int32))), (Jvm.Cond.eq (Jvm.Term.elem (Jvm.Term.static "java/lang/Integer" "DigitOnes" "[B") (Jvm.Term.int (72 : Int32))) (Jvm.Term.int (50 : Int32))), (Jvm.Cond.eq (Jvm.Term.elem (Jvm.Term.static "java/lang/Integer" "DigitOnes" "[B") (Jvm.Term.int (73 : Int32))) (Jvm.Term.int (51 : Int32))), (Jvm.Cond.eq (Jvm.Term.elem (Jvm.Term.static "java/lang/Integer" "DigitOnes" "[B") (Jvm.Term.int (74 : Int32))) (Jvm.Term.int (52 : Int32))), (Jvm.Cond.eq (Jvm.Term.elem (Jvm.Term.static "java/lang/Integer" "DigitOnes" "[B") (Jvm.Term.int (75 : Int32))) (Jvm.Term.int (53 : Int32))), (Jvm.Cond.eq (Jvm.Term.elem (Jvm.Term.static "java/lang/Integer" "DigitOnes" "[B") (Jvm.Term.int (76 : Int32))) (Jvm.Term.int (54 : Int32))), (Jvm.Cond.eq (Jvm.Term.elem (Jvm.Term.static "java/lang/Integer" "DigitOnes" "[B") (Jvm.Term.int (77 : Int32))) (Jvm.Term.int (55 : Int32))), (Jvm.Cond.eq (Jvm.Term.elem (Jvm.Term.static "java/lang/Integer" "DigitOnes" "[B") (Jvm.Term.int (78 : Int32))) (Jvm.Term.int (56 : Int32))), (Jvm.Cond.eq (Jvm.Term.elem (Jvm.Term.static "java/lang/Integer" "DigitOnes" "[B") (Jvm.Term.int (79 : Int32))) (Jvm.Term.int (57 : Int32))), (Jvm.Cond.eq (Jvm.Term.elem (Jvm.Term.static "java/lang/Integer" "DigitOnes" "[B") (Jvm.Term.int (80 : Int32))) (Jvm.Term.int (48 : Int32))), (Jvm.Cond.eq (Jvm.Term.elem (Jvm.Term.static "java/lang/Integer" "DigitOnes" "[B") (Jvm.Term.int (81 : Int32))) (Jvm.Term.int (49 : Int32))), (Jvm.Cond.eq (Jvm.Term.elem (Jvm.Term.static "java/lang/Integer" "DigitOnes" "[B") (Jvm.Term.int (82 : Int32))) (Jvm.Term.int (50 : Int32))), (Jvm.Cond.eq (Jvm.Term.elem (Jvm.Term.static "java/lang/Integer" "DigitOnes" "[B") (Jvm.Term.int (83 : Int32))) (Jvm.Term.int (51 : Int32))), (Jvm.Cond.eq (Jvm.Term.elem (Jvm.Term.static "java/lang/Integer" "DigitOnes" "[B") (Jvm.Term.int (84 : Int32))) (Jvm.Term.int (52 : Int32))), (Jvm.Cond.eq (Jvm.Term.elem (Jvm.Term.static "java/lang/Integer" "DigitOnes" "[B") (Jvm.Term.int (85 : Int32))) (Jvm.Term.int (53 : Int32))), (Jvm.Cond.eq (Jvm.Term.elem (Jvm.Term.static "java/lang/Integer" "DigitOnes" "[B") (Jvm.Term.int (86 : Int32))) (Jvm.Term.int (54 : Int32))), (Jvm.Cond.eq (Jvm.Term.elem (Jvm.Term.static "java/lang/Integer" "DigitOnes" "[B") (Jvm.Term.int (87 : Int32))) (Jvm.Term.int (55 : Int32))), (Jvm.Cond.eq (Jvm.Term.elem (Jvm.Term.static "java/lang/Integer" "DigitOnes" "[B") (Jvm.Term.int (88 : Int32))) (Jvm.Term.int (56 : Int32))), (Jvm.Cond.eq (Jvm.Term.elem (Jvm.Term.static "java/lang/Integer" "DigitOnes" "[B") (Jvm.Term.int (89 : Int32))) (Jvm.Term.int (57 : Int32))), (Jvm.Cond.eq (Jvm.Term.elem (Jvm.Term.static "java/lang/Integer" "DigitOnes" "[B") (Jvm.Term.int (90 : Int32))) (Jvm.Term.int (48 : Int32))), (Jvm.Cond.eq (Jvm.Term.elem (Jvm.Term.static "java/lang/Integer" "DigitOnes" "[B") (Jvm.Term.int (91 : Int32))) (Jvm.Term.int (49 : Int32))), (Jvm.Cond.eq (Jvm.Term.elem (Jvm.Term.static "java/lang/Integer" "DigitOnes" "[B") (Jvm.Term.int (92 : Int32))) (Jvm.Term.int (50 : Int32))), (Jvm.Cond.eq (Jvm.Term.elem (Jvm.Term.static "java/lang/Integer" "DigitOnes" "[B") (Jvm.Term.int (93 : Int32))) (Jvm.Term.int (51 : Int32))), (Jvm.Cond.eq (Jvm.Term.elem (Jvm.Term.static "java/lang/Integer" "DigitOnes" "[B") (Jvm.Term.int (94 : Int32))) (Jvm.Term.int (52 : Int32))), (Jvm.Cond.eq (Jvm.Term.elem (Jvm.Term.static "java/lang/Integer" "DigitOnes" "[B") (Jvm.Term.int (95 : Int32))) (Jvm.Term.int (53 : Int32))), (Jvm.Cond.eq (Jvm.Term.elem (Jvm.Term.static "java/lang/Integer" "DigitOnes" "[B") (Jvm.Term.int (96 : Int32))) (Jvm.Term.int (54 : Int32))), (Jvm.Cond.eq (Jvm.Term.elem (Jvm.Term.static "java/lang/Integer" "DigitOnes" "[B") (Jvm.Term.int (97 : Int32))) (Jvm.Term.int (55 : Int32))), (Jvm.Cond.eq (Jvm.Term.elem (Jvm.Term.static "java/lang/Integer" "DigitOnes" "[B") (Jvm.Term.int (98 : Int32))) (Jvm.Term.int (56 : Int32))), (Jvm.Cond.eq (Jvm.Term.elem (Jvm.Term.static "java/lang/Integer" "DigitOnes" "[B") (Jvm.Term.int (99 : Int32))) (Jvm.Term.int (57 : Int32))), (Jvm.Cond.isRef (Jvm.Term.static "java/lang/Throwable" "UNASSIGNED_STACK" "[Ljava/lang/StackTraceElement;")), (Jvm.Cond.isRef (Jvm.Term.static "java/lang/Throwable" "SUPPRESSED_SENTINEL" "Ljava/util/List;")), (Jvm.Cond.isRef (Jvm.Term.static "java/util/ArrayList" "DEFAULTCAPACITY_EMPTY_ELEMENTDATA" "[Ljava/lang/Object;")), (Jvm.Cond.arrayOf (Jvm.Term.static "java/util/ArrayList" "DEFAULTCAPACITY_EMPTY_ELEMENTDATA" "[Ljava/lang/Object;") (Jvm.ClassFile.FieldType.object "java/lang/Object")), (Jvm.Cond.exactly (Jvm.Term.static "java/util/ArrayList" "DEFAULTCAPACITY_EMPTY_ELEMENTDATA" "[Ljava/lang/Object;") "[Ljava/lang/Object;"), (Jvm.Cond.eq (Jvm.Term.length (Jvm.Term.static "java/util/ArrayList" "DEFAULTCAPACITY_EMPTY_ELEMENTDATA" "[Ljava/lang/Object;")) (Jvm.Term.int (0 : Int32))), (Jvm.Cond.eq (Jvm.Term.static "java/lang/Integer$IntegerCache" "high" "I") (Jvm.Term.int (127 : Int32))), (Jvm.Cond.isRef (Jvm.Term.static "java/lang/Integer$IntegerCache" "cache" "[Ljava/lang/Integer;")), (Jvm.Cond.arrayOf (Jvm.Term.static "java/lang/Integer$IntegerCache" "cache" "[Ljava/lang/Integer;") (Jvm.ClassFile.FieldType.object "java/lang/Integer")), (Jvm.Cond.eq (Jvm.Term.length (Jvm.Term.static "java/lang/Integer$IntegerCache" "cache" "[Ljava/lang/Integer;")) (Jvm.Term.int (256 : Int32))), (Jvm.Cond.all (Jvm.Term.static "java/lang/Integer$IntegerCache" "cache" "[Ljava/lang/Integer;") (Jvm.Cond.and (Jvm.Cond.exactly (Jvm.Term.elem (Jvm.Term.static "java/lang/Integer$IntegerCache" "cache" "[Ljava/lang/Integer;") (Jvm.Term.index (0 : Nat))) "java/lang/Integer") (Jvm.Cond.eq (Jvm.Term.field (Jvm.Term.elem (Jvm.Term.static "java/lang/Integer$IntegerCache" "cache" "[Ljava/lang/Integer;") (Jvm.Term.index (0 : Nat))) "java/lang/Integer" "value" "I") (Jvm.Term.sub (Jvm.Term.index (0 : Nat)) (Jvm.Term.int (128 : Int32)))))), (Jvm.Cond.not (Jvm.Cond.castable "Wavesale" "java/lang/IllegalArgumentException")), (Jvm.Cond.not (Jvm.Cond.castable "Wavesale$Terms" "java/lang/IllegalArgumentException")), (Jvm.Cond.not (Jvm.Cond.castable "Wavesale$Clock" "java/lang/IllegalArgumentException")), (Jvm.Cond.not (Jvm.Cond.castable "Wavesale$Market" "java/lang/IllegalArgumentException")), (Jvm.Cond.not (Jvm.Cond.castable "Wavesale$Payments" "java/lang/IllegalArgumentException")), (Jvm.Cond.not (Jvm.Cond.castable "Wavesale$Names" "java/lang/IllegalArgumentException")), (Jvm.Cond.not (Jvm.Cond.castable "Wavesale$Stations" "java/lang/IllegalArgumentException")), (Jvm.Cond.not (Jvm.Cond.castable "WavesaleModel" "java/lang/IllegalArgumentException")), (Jvm.Cond.not (Jvm.Cond.castable "java/util/ArrayList" "java/lang/IllegalArgumentException")), (Jvm.Cond.not (Jvm.Cond.castable "WavesaleLaw$Out" "java/lang/IllegalArgumentException")), (Jvm.Cond.not (Jvm.Cond.castable "java/lang/IllegalStateException" "java/lang/IllegalArgumentException")), (Jvm.Cond.not (Jvm.Cond.castable "WavesaleModel$Region" "java/lang/IllegalArgumentException")), (Jvm.Cond.not (Jvm.Cond.castable "java/lang/IndexOutOfBoundsException" "java/lang/IllegalArgumentException")), (Jvm.Cond.not (Jvm.Cond.castable "java/util/ArrayList$Itr" "java/lang/IllegalArgumentException")), (Jvm.Cond.not (Jvm.Cond.castable "WavesaleModel$Bidder" "java/lang/IllegalArgumentException")), (Jvm.Cond.not (Jvm.Cond.castable "WavesaleModel$Clock" "java/lang/IllegalArgumentException")), (Jvm.Cond.not (Jvm.Cond.castable "WavesaleModel$Round" "java/lang/IllegalArgumentException")), (Jvm.Cond.not (Jvm.Cond.castable "java/lang/Integer" "java/lang/IllegalArgumentException")), (Jvm.Cond.not (Jvm.Cond.castable "WavesaleModel$Choice" "java/lang/IllegalArgumentException")), (Jvm.Cond.not (Jvm.Cond.castable "java/lang/StringBuilder" "java/lang/IllegalArgumentException")), (Jvm.Cond.not (Jvm.Cond.castable "java/lang/String" "java/lang/IllegalArgumentException")), (Jvm.Cond.not (Jvm.Cond.castable "java/lang/StringIndexOutOfBoundsException" "java/lang/IllegalArgumentException")), (Jvm.Cond.not (Jvm.Cond.castable "java/lang/ArrayIndexOutOfBoundsException" "java/lang/IllegalArgumentException")), (Jvm.Cond.not (Jvm.Cond.castable "Wavesale" "java/lang/IllegalStateException")), (Jvm.Cond.not (Jvm.Cond.castable "Wavesale$Terms" "java/lang/IllegalStateException")), (Jvm.Cond.not (Jvm.Cond.castable "Wavesale$Clock" "java/lang/IllegalStateException")), (Jvm.Cond.not (Jvm.Cond.castable "Wavesale$Market" "java/lang/IllegalStateException")), (Jvm.Cond.not (Jvm.Cond.castable "Wavesale$Payments" "java/lang/IllegalStateException")), (Jvm.Cond.not (Jvm.Cond.castable "Wavesale$Names" "java/lang/IllegalStateException")), (Jvm.Cond.not (Jvm.Cond.castable "Wavesale$Stations" "java/lang/IllegalStateException")), (Jvm.Cond.not (Jvm.Cond.castable "WavesaleModel" "java/lang/IllegalStateException")), (Jvm.Cond.not (Jvm.Cond.castable "java/util/ArrayList" "java/lang/IllegalStateException")), (Jvm.Cond.not (Jvm.Cond.castable "WavesaleLaw$Out" "java/lang/IllegalStateException")), (Jvm.Cond.not (Jvm.Cond.castable "java/lang/IllegalArgumentException" "java/lang/IllegalStateException")), (Jvm.Cond.not (Jvm.Cond.castable "WavesaleModel$Region" "java/lang/IllegalStateException")), (Jvm.Cond.not (Jvm.Cond.castable "java/lang/IndexOutOfBoundsException" "java/lang/IllegalStateException")), (Jvm.Cond.not (Jvm.Cond.castable "java/util/ArrayList$Itr" "java/lang/IllegalStateException")), (Jvm.Cond.not (Jvm.Cond.castable "WavesaleModel$Bidder" "java/lang/IllegalStateException")), (Jvm.Cond.not (Jvm.Cond.castable "WavesaleModel$Clock" "java/lang/IllegalStateException")), (Jvm.Cond.not (Jvm.Cond.castable "WavesaleModel$Round" "java/lang/IllegalStateException")), (Jvm.Cond.not (Jvm.Cond.castable "java/lang/Integer" "java/lang/IllegalStateException")), (Jvm.Cond.not (Jvm.Cond.castable "WavesaleModel$Choice" "java/lang/IllegalStateException")), (Jvm.Cond.not (Jvm.Cond.castable "java/lang/StringBuilder" "java/lang/IllegalStateException")), (Jvm.Cond.not (Jvm.Cond.castable "java/lang/String" "java/lang/IllegalStateException")), (Jvm.Cond.not (Jvm.Cond.castable "java/lang/StringIndexOutOfBoundsException" "java/lang/IllegalStateException")), (Jvm.Cond.not (Jvm.Cond.castable "java/lang/ArrayIndexOutOfBoundsException" "java/lang/IllegalStateException")), (Jvm.Cond.not (Jvm.Cond.castable "Wavesale" "java/lang/IndexOutOfBoundsException")), (Jvm.Cond.not (Jvm.Cond.castable "Wavesale$Terms" "java/lang/IndexOutOfBoundsException")), (Jvm.Cond.not (Jvm.Cond.castable "Wavesale$Clock" "java/lang/IndexOutOfBoundsException")), (Jvm.Cond.not (Jvm.Cond.castable "Wavesale$Market" "java/lang/IndexOutOfBoundsException")), (Jvm.Cond.not (Jvm.Cond.castable "Wavesale$Payments" "java/lang/IndexOutOfBoundsException")), (Jvm.Cond.not (Jvm.Cond.castable "Wavesale$Names" "java/lang/IndexOutOfBoundsException")), (Jvm.Cond.not (Jvm.Cond.castable "Wavesale$Stations" "java/lang/IndexOutOfBoundsException")), (Jvm.Cond.not (Jvm.Cond.castable "WavesaleModel" "java/lang/IndexOutOfBoundsException")), (Jvm.Cond.not (Jvm.Cond.castable "java/util/ArrayList" "java/lang/IndexOutOfBoundsException")), (Jvm.Cond.not (Jvm.Cond.castable "WavesaleLaw$Out" "java/lang/IndexOutOfBoundsException")), (Jvm.Cond.not (Jvm.Cond.castable "java/lang/IllegalArgumentException" "java/lang/IndexOutOfBoundsException")), (Jvm.Cond.not (Jvm.Cond.castable "java/lang/IllegalStateException" "java/lang/IndexOutOfBoundsException")), (Jvm.Cond.not (Jvm.Cond.castable "WavesaleModel$Region" "java/lang/IndexOutOfBoundsException")), (Jvm.Cond.not (Jvm.Cond.castable "java/util/ArrayList$Itr" "java/lang/IndexOutOfBoundsException")), (Jvm.Cond.not (Jvm.Cond.castable "WavesaleModel$Bidder" "java/lang/IndexOutOfBoundsException")), (Jvm.Cond.not (Jvm.Cond.castable "WavesaleModel$Clock" "java/lang/IndexOutOfBoundsException")), (Jvm.Cond.not (Jvm.Cond.castable "WavesaleModel$Round" "java/lang/IndexOutOfBoundsException")), (Jvm.Cond.not (Jvm.Cond.castable "java/lang/Integer" "java/lang/IndexOutOfBoundsException")), (Jvm.Cond.not (Jvm.Cond.castable "WavesaleModel$Choice" "java/lang/IndexOutOfBoundsException")), (Jvm.Cond.not (Jvm.Cond.castable "java/lang/StringBuilder" "java/lang/IndexOutOfBoundsException")), (Jvm.Cond.not (Jvm.Cond.castable "java/lang/String" "java/lang/IndexOutOfBoundsException")), (Jvm.Cond.isRef (Jvm.Term.mirror "[Ljava/lang/Object;")), (Jvm.Cond.exactly (Jvm.Term.string "WavesaleModel" (335 : Nat)) "java/lang/String"), (Jvm.Cond.eq (Jvm.Term.field (Jvm.Term.string "WavesaleModel" (335 : Nat)) "java/lang/String" "coder" "B") (Jvm.Term.int (0 : Int32))), (Jvm.Cond.arrayOf (Jvm.Term.field (Jvm.Term.string "WavesaleModel" (335 : Nat)) "java/lang/String" "value" "[B") Jvm.ClassFile.FieldType.byte), (Jvm.Cond.eq (Jvm.Term.length (Jvm.Term.field (Jvm.Term.string "WavesaleModel" (335 : Nat)) "java/lang/String" "value" "[B")) (Jvm.Term.int (1 : Int32))), (Jvm.Cond.eq (Jvm.Term.elem (Jvm.Term.field (Jvm.Term.string "WavesaleModel" (335 : Nat)) "java/lang/String" "value" "[B") (Jvm.Term.int (0 : Int32))) (Jvm.Term.int (44 : Int32))), (Jvm.Cond.exactly (Jvm.Term.string "WavesaleModel" (337 : Nat)) "java/lang/String"), (Jvm.Cond.eq (Jvm.Term.field (Jvm.Term.string "WavesaleModel" (337 : Nat)) "java/lang/String" "coder" "B") (Jvm.Term.int (0 : Int32))), (Jvm.Cond.arrayOf (Jvm.Term.field (Jvm.Term.string "WavesaleModel" (337 : Nat)) "java/lang/String" "value" "[B") Jvm.ClassFile.FieldType.byte), (Jvm.Cond.eq (Jvm.Term.length (Jvm.Term.field (Jvm.Term.string "WavesaleModel" (337 : Nat)) "java/lang/String" "value" "[B")) (Jvm.Term.int (0 : Int32))), (Jvm.Cond.exactly (Jvm.Term.string "WavesaleModel" (343 : Nat)) "java/lang/String"), (Jvm.Cond.eq (Jvm.Term.field (Jvm.Term.string "WavesaleModel" (343 : Nat)) "java/lang/String" "coder" "B") (Jvm.Term.int (0 : Int32))), (Jvm.Cond.arrayOf (Jvm.Term.field (Jvm.Term.string "WavesaleModel" (343 : Nat)) "java/lang/String" "value" "[B") Jvm.ClassFile.FieldType.byte), (Jvm.Cond.eq (Jvm.Term.length (Jvm.Term.field (Jvm.Term.string "WavesaleModel" (343 : Nat)) "java/lang/String" "value" "[B")) (Jvm.Term.int (1 : Int32))), (Jvm.Cond.eq (Jvm.Term.elem (Jvm.Term.field (Jvm.Term.string "WavesaleModel" (343 : Nat)) "java/lang/String" "value" "[B") (Jvm.Term.int (0 : Int32))) (Jvm.Term.int (45 : Int32))), (Jvm.Cond.exactly (Jvm.Term.static "java/lang/Integer" "DigitOnes" "[B") "[B"), (Jvm.Cond.exactly (Jvm.Term.field (Jvm.Term.string "WavesaleModel" (335 : Nat)) "java/lang/String" "value" "[B") "[B"), (Jvm.Cond.exactly (Jvm.Term.field (Jvm.Term.string "WavesaleModel" (337 : Nat)) "java/lang/String" "value" "[B") "[B"), (Jvm.Cond.exactly (Jvm.Term.field (Jvm.Term.string "WavesaleModel" (343 : Nat)) "java/lang/String" "value" "[B") "[B")]
theorem st_Xs : st_X.isSublist (st_flat stC []) = true := by decide +kernel
theorem stH.fa (h : stH args s) {w : Cond} (hw : w ∈ st_X) : w.before args s = true := by
  have e := st_flatE stC []
  rw [List.append_nil] at e
  exact h.fl (show w ∈ flatC stC by rw [← e]; exact (List.isSublist_iff_sublist.mp st_Xs).subset hw)
def st_isY : Cond → Bool
  | .laysStatic _ _ _ => true
  | .initialized _ => true
  | .arrayClass _ => true
  | .arrayOver _ => true
  | .stringRef _ _ _ => true
  | _ => false
theorem st_Y {w : Cond} (hw : w ∈ tables_1.filter st_isY) : w ∈ lw_tbl := List.mem_append_right _ (List.mem_filter.mp hw).1
theorem st_Yt {w : Cond} (hw : w ∈ tables_1.filter st_isY) : w ∈ tables_1 := (List.mem_filter.mp hw).1
theorem st_kn (h : stH args s) {ci n : Nat} {C : String} {T : u_T} {N : Nat} {ty : Nat → FieldType} (K : xx_cl ci C T N ty) (hi : Cond.instantiable C n ∈ xx_gws) : ∃ p : ClassId × (Nat → Nat), ∀ q : vw_C, vwCl[ci]? = some q → u_Kn s q.1 q.2.1 q.2.2 p.1 p.2 := by
  obtain ⟨cC, iS, h1⟩ := u_known h.gw K.2.2.1 (h.gw _ hi)
  exact ⟨(cC, iS), fun q hq => by cases Option.some.inj (hq.symm.trans K.2.1); exact h1⟩
theorem st_G (h : stH args s) : ∃ G : va_G, va_K G vwCl [] s := by
  have h1 : ∀ ci : Nat, ∃ p : ClassId × (Nat → Nat), ∀ q : vw_C, vwCl[ci]? = some q → u_Kn s q.1 q.2.1 q.2.2 p.1 p.2 := fun ci =>
    match ci with
    | 0 => st_kn h cl_J0 nw_J4_18.2.1
    | 1 => st_kn h cl_J4 nw_J7_45.2.1
    | 2 => st_kn h cl_J6 nw_J6_1.2.1
    | 3 => st_kn h cl_Jx00060 nw_J7_68.2.1
    | 4 => st_kn h cl_Jx7c733 nw_J5_129.2.1
    | 5 => st_kn h cl_Jx35411 nw_Jx4a65c_267.2.1
    | 6 => st_kn h cl_Jx4a65c nw_X14_20.2.1
    | 7 => st_kn h cl_X1 nw_X7_16.2.1
    | 8 => st_kn h cl_X2 nw_X7_26.2.1
    | 9 => st_kn h cl_X3 nw_X7_40.2.1
    | 10 => st_kn h cl_X4 nw_X7_33.2.1
    | 11 => st_kn h cl_X5 nw_X7_47.2.1
    | 12 => st_kn h cl_X6 nw_X7_9.2.1
    | 13 => st_kn h cl_X7 nw_L_8.2.1
    | 14 => st_kn h cl_X8 nw_L_14.2.1
    | 15 => st_kn h cl_X9 nw_X14_118.2.1
    | 16 => st_kn h cl_X10 nw_X14_218.2.1
    | 17 => st_kn h cl_X11 nw_X14_136.2.1
    | 18 => st_kn h cl_X12 nw_X14_65.2.1
    | 19 => st_kn h cl_X13 nw_X14_172.2.1
    | 20 => st_kn h cl_X14 nw_L_137.2.1
    | n + 21 => (st_kn h cl_J0 nw_J4_18.2.1).imp fun p _ q hq => absurd (List.getElem?_eq_some_iff.mp hq).1 (by show ¬ n + 21 < 21; omega)
  obtain ⟨p, hp⟩ := Classical.axiomOfChoice h1
  exact ⟨(fun c => (p c).1, fun c => (p c).2), fun c q hq => hp c q hq, fun k q hq => by simp at hq⟩
theorem st_arr {c : ClassId} {k : Class} {comp : ClassId} {ty : FieldType} (hk : s.vm.classes[c]? = some k) (hkind : k.kind = .array comp ty) : ArrOfT s c ty := fun N f => ⟨fun q hq => (by cases hq), k, hk, comp, hkind⟩
theorem st_A (h : stH args s) (h5 : ∃ c, ArrOfT s c (.object "java/lang/Integer")) : ∃ A : Nat → ClassId, ∀ t, 100 ≤ t → t < 106 → ArrOfT s (A t) (xx_aty t) ∧ (t < 105 → va_RA s (A t) (xx_aty t)) := by
  obtain ⟨c0, k0, p0, a0, b0, d0⟩ := Cond.arrayClass_spec (args := args) (first := s) (o := none) (s := s) (idx := []) (h.1 (.arrayClass .int) (st_Y (by decide +kernel)))
  obtain ⟨c1, k1, p1, a1, b1, d1⟩ := Cond.arrayClass_spec (args := args) (first := s) (o := none) (s := s) (idx := []) (h.1 (.arrayClass .boolean) (st_Y (by decide +kernel)))
  obtain ⟨c2, k2, p2, a2, b2, d2⟩ := Cond.arrayClass_spec (args := args) (first := s) (o := none) (s := s) (idx := []) (h.1 (.arrayClass .byte) (st_Y (by decide +kernel)))
  obtain ⟨p3, c3, k3, -, b3, d3, a3⟩ := Cond.arrayOver_specA (args := args) (first := s) (o := none) (s := s) (idx := []) (h.1 (.arrayOver (.array .int)) (st_Y (by decide +kernel)))
  obtain ⟨p4, c4, k4, e4, -, b4, d4, a4⟩ := Cond.arrayOver_spec (args := args) (first := s) (o := none) (s := s) (idx := []) (h.1 (.arrayOver (.object "java/lang/Object")) (st_Y (by decide +kernel)))
  obtain ⟨c5, h5⟩ := h5
  refine ⟨fun t => if t = 100 then c0 else if t = 101 then c1 else if t = 102 then c2 else if t = 103 then c3 else if t = 104 then c4 else c5, fun t h1 h2 => ?_⟩
  rcases (show t = 100 ∨ t = 101 ∨ t = 102 ∨ t = 103 ∨ t = 104 ∨ t = 105 by omega) with rfl | rfl | rfl | rfl | rfl | rfl
  · exact ⟨st_arr b0 d0, fun _ => a0⟩
  · exact ⟨st_arr b1 d1, fun _ => a1⟩
  · exact ⟨st_arr b2 d2, fun _ => a2⟩
  · exact ⟨st_arr b3 d3, fun _ => a3⟩
  · exact ⟨st_arr b4 d4, fun _ => ⟨k4, p4, b4, d4, e4, a4⟩⟩
  · exact ⟨h5, fun q => absurd q (by decide)⟩
theorem st_str {own tx : String} {k : Nat} (h1 : (Cond.stringRef own k tx).before args s = true) : ∃ a, vk_R own k tx a s := by
  cases hc : s.vm.findClass own with
  | none => simp [Cond.before, Cond.holds, Cond.value, hc] at h1
  | some c =>
    obtain ⟨-, -, -, a, -, -, -, -, -, e⟩ := Cond.stringRef_spec (args := args) (first := s) (o := none) (s := s) (idx := []) hc h1
    exact ⟨a, .of h1 e⟩
theorem st_N (h : stH args s) {D : XD} (hl : ∀ q ∈ xx_lits, vk_R q.1 q.2.1 q.2.2.1 (xd_E D q.2.2.2) s) : xx_N D s := by
  refine ⟨fun w hw => ?_, fun q hq => ?_, hl, fun q hq => ?_⟩
  · have h1 := h.tb w (List.mem_filter.mp hw).1
    have h2 : xx_nest w = true := (List.mem_filter.mp hw).2
    cases w <;> first | exact va_Nw.of rfl h1 | (exact absurd h2 (by simp [xx_nest]))
  · obtain ⟨w, hw, e⟩ := List.mem_filterMap.mp hq
    have h1 := h.tb w hw
    cases w <;> first | (rename_i own k tx; cases Option.some.inj e; exact st_str h1) | (exact absurd e (by simp))
  · rcases List.mem_cons.mp hq with rfl | hq
    · exact va_Nc.of (h.fa (by decide +kernel))
    rcases List.mem_cons.mp hq with rfl | hq
    · exact va_Nc.of (h.fa (by decide +kernel))
    rcases List.mem_cons.mp hq with rfl | hq
    · exact va_Nc.of (h.fa (by decide +kernel))
    · cases hq

abbrev stA (s : State) : Nat → Prop := fun q => s.heap.size ≤ q
theorem st_hA : ∀ a : Nat, a < s.heap.size → ¬ stA s a := fun a h1 h2 => absurd h1 (Nat.not_lt.mpr h2)
abbrev tmO : Term := .static "java/lang/Integer" "DigitOnes" "[B"
abbrev tmC : Term := .static "java/lang/Integer$IntegerCache" "cache" "[Ljava/lang/Integer;"
abbrev tmE : Term := .static "java/util/ArrayList" "DEFAULTCAPACITY_EMPTY_ELEMENTDATA" "[Ljava/lang/Object;"
abbrev tmS (k : Nat) : Term := .string "WavesaleModel" k
def stDg (j : Nat) : Int32 := 48 + Int32.ofNat (j % 10)
theorem st_dg : ∀ j : Fin 100, Cond.eq (.elem tmO (.int (Int32.ofNat j.val))) (.int (stDg j.val)) ∈ st_X := by
  first
  | exact fun j => (List.isSublist_iff_sublist.mp (show ((List.finRange 100).map fun j : Fin 100 => Cond.eq (.elem tmO (.int (Int32.ofNat j.val))) (.int (stDg j.val))).isSublist st_X = true from by decide +kernel)).subset (List.mem_map.mpr ⟨j, List.mem_finRange j, rfl⟩)
  | decide +kernel
theorem st_T4 (h : stH args s) : ∃ t, tmO.eval args s none [] s = some (.ref t) ∧ va_T .byte t 100 (fun j => .int (stDg j)) (stA s) s s.heap :=
  va_Tof (by decide) (h.fa (by decide +kernel)) (va_eqt (h.fa (by decide +kernel))) (fun j hj => va_eqt (h.fa (st_dg ⟨j, hj⟩))) st_hA
theorem st_T0 (h : stH args s) : ∃ t, tmE.eval args s none [] s = some (.ref t) ∧ va_T (.object "java/lang/Object") t 0 (fun _ => .null) (stA s) s s.heap :=
  va_Tof (by decide) (h.fa (by decide +kernel)) (va_eqt (h.fa (by decide +kernel))) (fun j hj => absurd hj (Nat.not_lt_zero j)) st_hA
theorem st_T1 (h : stH args s) : ∃ (t : Nat) (ad : Nat → Nat), tmC.eval args s none [] s = some (.ref t) ∧ va_T (.object "java/lang/Integer") t 256 (fun j => .ref (ad j)) (stA s) s s.heap ∧ vb_C ad (stA s) s s.heap := by
  have hlen : (Term.length tmC).eval args s none [] s = some (.int (Int32.ofNat 256)) := va_eqt (h.fa (by decide +kernel))
  obtain ⟨ad, h1, h2⟩ := vb_Cof (args := args) (s := s) (A := stA s) (st := tmC) rfl hlen (h.fa (by decide +kernel)) st_hA
  obtain ⟨t, h3, h4⟩ := va_Tof (N := 256) (ty := .object "java/lang/Integer") (f := fun j => .ref (ad j)) (A := stA s) (by decide) (h.fa (by decide +kernel)) hlen h2 st_hA
  exact ⟨t, ad, h3, h4, h1⟩
/-- a text: its object at a, its signs at u -/
def stTx (s : State) (a u n : Nat) (b : Int32) : Prop := va_O "java/lang/String" a (stA s) s s.heap ∧ va_OF "java/lang/String" "coder" "B" (.int 0) a (stA s) s s.heap ∧ va_OF "java/lang/String" "value" "[B" (.ref u) a (stA s) s s.heap ∧ va_T .byte u n (fun _ => .int b) (stA s) s s.heap
theorem st_tx {k n : Nat} {b : Int32} (hn : n ≤ 1) (hex : (Cond.exactly (tmS k) "java/lang/String").before args s = true) (hco : (Cond.eq (.field (tmS k) "java/lang/String" "coder" "B") (.int 0)).before args s = true)
    (har : (Cond.arrayOf (.field (tmS k) "java/lang/String" "value" "[B") .byte).before args s = true) (hle : (Cond.eq (.length (.field (tmS k) "java/lang/String" "value" "[B")) (.int (Int32.ofNat n))).before args s = true)
    (hel : 0 < n → (Cond.eq (.elem (.field (tmS k) "java/lang/String" "value" "[B") (.int (Int32.ofNat 0))) (.int b)).before args s = true) :
    ∃ a u, (tmS k).eval args s none [] s = some (.ref a) ∧ stTx s a u n b := by
  obtain ⟨a, c, cA, kA, q1, q2, q3, q4, q5, q6, -⟩ := Cond.exactly_spec (args := args) (first := s) (o := none) (s := s) (idx := []) (t := tmS k) (cls := "java/lang/String") hex
  obtain ⟨t, ht, hT⟩ := va_Tof (f := fun _ => .int b) (A := stA s) (N := n) (by omega) har (va_eqt hle) (fun j hj => by obtain rfl : j = 0 := by omega
                                                                                                                        exact va_eqt (hel (by omega))) st_hA
  exact ⟨a, t, q1, ⟨cA, q3, q5, by rw [q6]; exact q2, st_hA a (Array.getElem?_eq_some_iff.mp q3).1⟩, vk_OFof q1 (va_eqt hco) st_hA, vk_OFof q1 ht st_hA, hT⟩
theorem st_S5 (h : stH args s) : ∃ a u, (tmS 335).eval args s none [] s = some (.ref a) ∧ stTx s a u 1 44 := st_tx (Nat.le_refl 1) (h.fa (by decide +kernel)) (h.fa (by decide +kernel)) (h.fa (by decide +kernel)) (h.fa (by decide +kernel)) (fun _ => h.fa (by decide +kernel))
theorem st_S6 (h : stH args s) : ∃ a u, (tmS 337).eval args s none [] s = some (.ref a) ∧ stTx s a u 0 0 := st_tx (Nat.zero_le 1) (h.fa (by decide +kernel)) (h.fa (by decide +kernel)) (h.fa (by decide +kernel)) (h.fa (by decide +kernel)) (fun q => absurd q (Nat.lt_irrefl 0))
theorem st_S7 (h : stH args s) : ∃ a u, (tmS 343).eval args s none [] s = some (.ref a) ∧ stTx s a u 1 45 := st_tx (Nat.le_refl 1) (h.fa (by decide +kernel)) (h.fa (by decide +kernel)) (h.fa (by decide +kernel)) (h.fa (by decide +kernel)) (fun _ => h.fa (by decide +kernel))

/-- the heap that was there: what the run reads of it, by names under 1000 -/
def h0S (L : Nat) (xs : Nat → Int32) : XH := fun r => if 200 ≤ r ∧ r < 456 then some (2, 1, fun _ => .int (nI (r - 200) - 128)) else match r with
  | 0 => some (104, 0, fun _ => .null)
  | 1 => some (105, 256, fun j => .ref (200 + j))
  | 3 => some (300, 0, fun _ => .null)
  | 4 => some (102, 100, fun j => .int (stDg j))
  | 5 => some (0, 4, vp_V [.ref 8, .int 0, .int 0, .int 0])
  | 6 => some (0, 4, vp_V [.ref 9, .int 0, .int 0, .int 0])
  | 7 => some (0, 4, vp_V [.ref 10, .int 0, .int 0, .int 0])
  | 8 => some (102, 1, fun _ => .int 44)
  | 9 => some (102, 0, fun _ => .int 0)
  | 10 => some (102, 1, fun _ => .int 45)
  | 11 => some (100, L, fun j => .int (xs j))
  | _ => none
def stE (ad : Nat → Nat) (a0 a1 a3 a4 a5 a6 a7 a8 a9 a10 a11 : Nat) : Nat → Nat := fun r => if 200 ≤ r then ad (r - 200) else match r with
  | 0 => a0
  | 1 => a1
  | 3 => a3
  | 4 => a4
  | 5 => a5
  | 6 => a6
  | 7 => a7
  | 8 => a8
  | 9 => a9
  | 10 => a10
  | _ => a11
theorem h0S_cases {L : Nat} {xs : Nat → Int32} {r : Nat} {c : XC} (e : h0S L xs r = some c) : (∃ j, j < 256 ∧ r = 200 + j ∧ c = (2, 1, fun _ => .int (nI j - 128))) ∨ (r = 0 ∧ c = (104, 0, fun _ => .null)) ∨ (r = 1 ∧ c = (105, 256, fun j => .ref (200 + j))) ∨ (r = 3 ∧ c = (300, 0, fun _ => .null)) ∨ (r = 4 ∧ c = (102, 100, fun j => .int (stDg j))) ∨
    (r = 5 ∧ c = (0, 4, vp_V [.ref 8, .int 0, .int 0, .int 0])) ∨ (r = 6 ∧ c = (0, 4, vp_V [.ref 9, .int 0, .int 0, .int 0])) ∨ (r = 7 ∧ c = (0, 4, vp_V [.ref 10, .int 0, .int 0, .int 0])) ∨ (r = 8 ∧ c = (102, 1, fun _ => .int 44)) ∨ (r = 9 ∧ c = (102, 0, fun _ => .int 0)) ∨ (r = 10 ∧ c = (102, 1, fun _ => .int 45)) ∨ (r = 11 ∧ c = (100, L, fun j => .int (xs j))) := by
  unfold h0S at e
  split at e
  · rename_i q
    exact .inl ⟨r - 200, by omega, by omega, (Option.some.inj e).symm⟩
  · right
    split at e <;> first | (cases e; simp) | (cases e)
theorem st_z (h : stH args s) {C n d : String} {v : Value} (w1 : Cond.laysStatic C n d ∈ lw_tbl) (w2 : Cond.initialized C ∈ lw_tbl) (hv : (Term.static C n d).eval args s none [] s = some v) : va_Z C n d v (stA s) s s.heap := va_Zof (h.1 _ w1) (h.1 _ w2) hv st_hA
/-- an old array's cell -/
theorem st_oarr {D : XD} {ρ : Nat → Nat} {r t N a : Nat} {ty : FieldType} {f g : Nat → Value} (h1 : 100 ≤ t) (h2 : t < 200) (ho : xx_ota r = some t) (hr : ρ r = a) (hT : va_T ty a N g (stA s) s s.heap) (hf : ∀ j, j < N → xx_v ρ (f j) = g j) : xx_oldc D ρ r (t, N, f) s.heap := by
  unfold xx_oldc
  rw [if_neg (by show ¬ t < 100; omega), if_pos (show t < 200 by omega)]
  obtain ⟨cell, e1, e2, e3, e4, e5, e6, -⟩ := hT
  exact ⟨ho, cell, by rw [hr]; exact e1, e3, e4, e5, fun j hj => by rw [show (t, N, f).2.2 j = f j from rfl, hf j hj]; exact e6 j hj⟩
theorem st_oobj {D : XD} {ρ : Nat → Nat} {r ci N a : Nat} {C : String} {T : u_T} {f : Nat → Value} (hD : xd_cl D = vwCl) (hG : va_K (xd_G D) vwCl [] s) (hci : ci < 100) (hc : vwCl[ci]? = some (C, T, N)) (h0 : 0 < N) (hr : ρ r = a) (hO : va_O C a (stA s) s s.heap) (hF : ∀ k, k < N → (ci = 0 → k < 2) → va_OF (T k).1 (T k).2.1 (T k).2.2.1 (xx_v ρ (f k)) a (stA s) s s.heap) : xx_oldc D ρ r (ci, N, f) s.heap := by
  unfold xx_oldc
  rw [if_pos (show ci < 100 from hci)]
  obtain ⟨cell, e1, e2, e3, -⟩ := hO
  obtain ⟨hS, hfc, -⟩ := hG.1 ci _ hc
  obtain ⟨-, -, -, -, cell0, -, -, g3, g4, -, -⟩ := hF 0 h0 (fun _ => by decide)
  cases Option.some.inj (e1.symm.trans g3)
  refine ⟨_, cell, by rw [hD]; exact hc, rfl, by rw [hr]; exact e1, Option.some.inj (e3.symm.trans hfc), ⟨e2, g4⟩, fun k hk hk2 => ?_⟩
  obtain ⟨cf, kF, fi, fd, cell2, i1, i2, i3, i4, i5, i6⟩ := hF k hk hk2
  obtain ⟨_, _, _, fd2, j1, j2⟩ := hS k hk
  cases Option.some.inj (i1.symm.trans j1)
  cases Option.some.inj (e1.symm.trans i3)
  show cell.slots[(xd_G D).2 ci k]? = _
  rw [← j2]
  exact i5
theorem h0S_hi {L : Nat} {xs : Nat → Int32} {r : Nat} (h1 : 1000 ≤ r) : h0S L xs r = none := by
  cases e : h0S L xs r with
  | none => rfl
  | some c =>
    rcases h0S_cases e with ⟨j, hj, rfl, -⟩ | ⟨rfl, -⟩ | ⟨rfl, -⟩ | ⟨rfl, -⟩ | ⟨rfl, -⟩ | ⟨rfl, -⟩ | ⟨rfl, -⟩ | ⟨rfl, -⟩ | ⟨rfl, -⟩ | ⟨rfl, -⟩ | ⟨rfl, -⟩ | ⟨rfl, -⟩ <;> omega
theorem h0S_int {L : Nat} {xs : Nat → Int32} {j : Nat} (hj : j < 256) : h0S L xs (200 + j) = some (2, 1, fun _ => .int (nI j - 128)) := by
  unfold h0S
  rw [if_pos ⟨by omega, by omega⟩, Nat.add_sub_cancel_left]
theorem h0S_cls {L : Nat} {xs : Nat → Int32} : xx_cls (h0S L xs) := by
  intro r c j e hj
  rcases h0S_cases e with ⟨k, hk, rfl, rfl⟩ | ⟨rfl, rfl⟩ | ⟨rfl, rfl⟩ | ⟨rfl, rfl⟩ | ⟨rfl, rfl⟩ | ⟨rfl, rfl⟩ | ⟨rfl, rfl⟩ | ⟨rfl, rfl⟩ | ⟨rfl, rfl⟩ | ⟨rfl, rfl⟩ | ⟨rfl, rfl⟩ | ⟨rfl, rfl⟩
  · exact trivial
  · exact trivial
  · show (h0S L xs (200 + j)).isSome = true
    rw [h0S_int hj]
    rfl
  · exact trivial
  · exact trivial
  · match j, hj with
    | 0, _ => exact rfl
    | 1, _ => exact trivial
    | 2, _ => exact trivial
    | 3, _ => exact trivial
  · match j, hj with
    | 0, _ => exact rfl
    | 1, _ => exact trivial
    | 2, _ => exact trivial
    | 3, _ => exact trivial
  · match j, hj with
    | 0, _ => exact rfl
    | 1, _ => exact trivial
    | 2, _ => exact trivial
    | 3, _ => exact trivial
  · exact trivial
  · exact trivial
  · exact trivial
  · exact trivial
theorem h0S_ok {L : Nat} {xs : Nat → Int32} : okB (h0S L xs) := by
  refine ⟨⟨⟨_, rfl⟩, ⟨_, rfl⟩, rfl, fun j hj => h0S_int hj, h0S_hi (by decide), h0S_hi (by decide)⟩, ⟨⟨⟨⟨_, rfl, rfl, rfl⟩, rfl, fun j _ => ⟨44, rfl, rfl⟩, by decide⟩, ⟨⟨_, rfl, rfl, rfl⟩, rfl, fun j _ => ⟨0, rfl, rfl⟩, by decide⟩, ⟨⟨_, rfl, rfl, rfl⟩, rfl, fun j _ => ⟨45, rfl, rfl⟩, by decide⟩⟩, ⟨_, rfl, fun x hx => ?_⟩⟩, fun r hr => h0S_hi hr⟩
  show Value.int (stDg x) = _
  unfold stDg
  rw [Nat.mod_eq_of_lt hx]
  rfl
theorem st_ltT {a N : Nat} {ty : FieldType} {g : Nat → Value} (hT : va_T ty a N g (stA s) s s.heap) : a < s.heap.size := Nat.not_le.mp hT.out
theorem st_ltO {a : Nat} {C : String} (hO : va_O C a (stA s) s s.heap) : a < s.heap.size := by
  obtain ⟨_, _, _, _, hn⟩ := hO
  exact Nat.not_le.mp hn
theorem st_txo {D : XD} {r u a v n : Nat} {b : Int32} (hD : xd_cl D = vwCl) (hG : va_K (xd_G D) vwCl [] s) (hr : xd_E D r = a) (hu : xd_E D u = v) (X : stTx s a v n b) : xx_oldc D (xd_E D) r (0, 4, vp_V [.ref u, .int 0, .int 0, .int 0]) s.heap :=
  st_oobj (T := TJ0) (C := RJ0) hD hG (by decide) rfl (by decide) hr X.1 (fun k hk hk2 => by
    have h2 := hk2 rfl
    match k, h2 with
    | 0, _ => exact (by show va_OF _ _ _ (.ref (xd_E D u)) _ _ _ _; rw [hu]; exact X.2.2.1)
    | 1, _ => exact X.2.1)
set_option maxRecDepth 4000 in
theorem st_D (h : stH args s) {b L : Nat} {xs : Nat → Int32} (hX : va_X b L xs s s.heap) : ∃ D : XD, xd_H D = s.heap ∧ xd_E D 11 = b ∧ xx_K D s ∧ xx_N D s ∧ xx_S D (xd_E D) (fun _ => none) (h0S L xs) s.heap := by
  obtain ⟨G, hG⟩ := st_G h
  obtain ⟨a4, v4, T4⟩ := st_T4 h
  obtain ⟨a0, v0, T0⟩ := st_T0 h
  obtain ⟨a1, ad, v1, T1, C1⟩ := st_T1 h
  obtain ⟨a5, a8, v5, X5⟩ := st_S5 h
  obtain ⟨a6, a9, v6, X6⟩ := st_S6 h
  obtain ⟨a7, a10, v7, X7⟩ := st_S7 h
  obtain ⟨a3, M3⟩ := va_Mi.of (h.fa (w := .isRef (.mirror "[Ljava/lang/Object;")) (by decide +kernel))
  have h105 : ∃ c, ArrOfT s c (.object "java/lang/Integer") := by
    obtain ⟨cell, -, e2, -⟩ := T1
    obtain ⟨-, k, hk, comp, hkind⟩ := e2
    exact ⟨cell.cls, st_arr hk hkind⟩
  obtain ⟨A, hA⟩ := st_A h h105
  have T11 : va_T .int b L (fun j => .int (xs j)) (stA s) s s.heap := by
    obtain ⟨scr, e1, e2, e3, e4, e5⟩ := hX
    exact ⟨scr, e1, e2, e3, by omega, congrArg Nat.toInt32 e4, e5, st_hA _ (Array.getElem?_eq_some_iff.mp e1).1⟩
  have arrOf : ∀ {ty : FieldType} {a N : Nat} {g : Nat → Value}, va_T ty a N g (stA s) s s.heap → ∃ cell : Cell, s.heap[a]? = some cell ∧ s.isArrayOf cell ty := fun hT => by
    obtain ⟨cell, e1, e2, -⟩ := hT
    exact ⟨cell, e1, e2⟩
  have hEi : ∀ j, stE ad a0 a1 a3 a4 a5 a6 a7 a8 a9 a10 b (200 + j) = ad j := fun j => by
    unfold stE
    rw [if_pos (by omega), Nat.add_sub_cancel_left]
  refine ⟨(vwCl, G, A, s.heap, stE ad a0 a1 a3 a4 a5 a6 a7 a8 a9 a10 b), rfl, rfl, ⟨rfl, ⟨hG, h.1 (.arrayOver (.array .int)) (st_Y (by decide +kernel)), ?_, ?_, ?_, M3, h.1 (.arrayOver (.object "java/lang/Object")) (st_Y (by decide +kernel)), ?_⟩, hA⟩, st_N h ?_, Nat.le_refl _, fun a _ => rfl, fun a r e => (by cases e), fun r c e => ?_, h0S_cls⟩
  · exact vx_Zqof (h.1 _ (st_Y (by decide +kernel))) (h.1 _ (st_Y (by decide +kernel))) (h.fa (by decide +kernel)) st_hA
  · exact vx_Zqof (h.1 _ (st_Y (by decide +kernel))) (h.1 _ (st_Y (by decide +kernel))) (h.fa (by decide +kernel)) st_hA
  · refine List.forall_mem_cons.mpr ⟨?_, List.forall_mem_cons.mpr ⟨?_, List.forall_mem_cons.mpr ⟨?_, List.forall_mem_cons.mpr ⟨?_, List.forall_mem_cons.mpr ⟨?_, fun _ q => absurd q List.not_mem_nil⟩⟩⟩⟩⟩
    · exact st_z h (st_Y (by decide +kernel)) (st_Y (by decide +kernel)) (va_eqt (h.fa (by decide +kernel)))
    · exact st_z h (st_Y (by decide +kernel)) (st_Y (by decide +kernel)) (va_eqt (h.fa (by decide +kernel)))
    · exact st_z h (st_Y (by decide +kernel)) (st_Y (by decide +kernel)) v1
    · exact st_z h (st_Y (by decide +kernel)) (st_Y (by decide +kernel)) v0
    · exact st_z h (st_Y (by decide +kernel)) (st_Y (by decide +kernel)) v4
  · intro r t e
    unfold xx_ota at e
    split at e
    · rename_i q; subst q; cases e; exact arrOf T0
    split at e
    · rename_i q; subst q; cases e; exact arrOf T1
    split at e
    · rename_i q; subst q; cases e; exact arrOf T11
    split at e
    · rename_i q
      cases e
      rcases q with rfl | rfl | rfl | rfl
      · exact arrOf T4
      · exact arrOf X5.2.2.2
      · exact arrOf X6.2.2.2
      · exact arrOf X7.2.2.2
    · cases e
  · refine List.forall_mem_cons.mpr ⟨?_, List.forall_mem_cons.mpr ⟨?_, List.forall_mem_cons.mpr ⟨?_, fun _ q => absurd q List.not_mem_nil⟩⟩⟩
    · exact vk_R.of (h.tb _ (st_Yt (by decide +kernel))) v5
    · exact vk_R.of (h.tb _ (st_Yt (by decide +kernel))) v6
    · exact vk_R.of (h.tb _ (st_Yt (by decide +kernel))) v7
  · rcases h0S_cases e with ⟨j, hj, rfl, rfl⟩ | ⟨rfl, rfl⟩ | ⟨rfl, rfl⟩ | ⟨rfl, rfl⟩ | ⟨rfl, rfl⟩ | ⟨rfl, rfl⟩ | ⟨rfl, rfl⟩ | ⟨rfl, rfl⟩ | ⟨rfl, rfl⟩ | ⟨rfl, rfl⟩ | ⟨rfl, rfl⟩ | ⟨rfl, rfl⟩
    · refine ⟨.inl ⟨by omega, fun _ => ?_, rfl⟩, fun _ => ?_, fun q => absurd q (by omega)⟩
      · show stE ad a0 a1 a3 a4 a5 a6 a7 a8 a9 a10 b (200 + j) < _
        rw [hEi j]
        exact st_ltO (C1.1 j hj)
      · exact st_oobj (T := TJ6) (C := RJ6) rfl hG (by decide) rfl (by decide) (hEi j) (C1.1 j hj) (fun k hk _ => by
          obtain rfl : k = 0 := by omega
          exact C1.2 j hj)
    · exact ⟨.inl ⟨by decide, fun _ => st_ltT T0, rfl⟩, fun _ => st_oarr (by decide) (by decide) rfl rfl T0 (fun j hj => absurd hj (Nat.not_lt_zero j)), fun q => absurd q (by decide)⟩
    · exact ⟨.inl ⟨by decide, fun _ => st_ltT T1, rfl⟩, fun _ => st_oarr (by decide) (by decide) rfl rfl T1 (fun j hj => congrArg Value.ref (hEi j)), fun q => absurd q (by decide)⟩
    · exact ⟨.inl ⟨by decide, fun q => absurd q (by decide), rfl⟩, fun _ => (by show ¬ 300 < 300; decide), fun q => absurd q (by decide)⟩
    · exact ⟨.inl ⟨by decide, fun _ => st_ltT T4, rfl⟩, fun _ => st_oarr (by decide) (by decide) rfl rfl T4 (fun j hj => rfl), fun q => absurd q (by decide)⟩
    · exact ⟨.inl ⟨by decide, fun _ => st_ltO X5.1, rfl⟩, fun _ => st_txo rfl hG rfl rfl X5, fun q => absurd q (by decide)⟩
    · exact ⟨.inl ⟨by decide, fun _ => st_ltO X6.1, rfl⟩, fun _ => st_txo rfl hG rfl rfl X6, fun q => absurd q (by decide)⟩
    · exact ⟨.inl ⟨by decide, fun _ => st_ltO X7.1, rfl⟩, fun _ => st_txo rfl hG rfl rfl X7, fun q => absurd q (by decide)⟩
    · exact ⟨.inl ⟨by decide, fun _ => st_ltT X5.2.2.2, rfl⟩, fun _ => st_oarr (by decide) (by decide) rfl rfl X5.2.2.2 (fun j hj => rfl), fun q => absurd q (by decide)⟩
    · exact ⟨.inl ⟨by decide, fun _ => st_ltT X6.2.2.2, rfl⟩, fun _ => st_oarr (by decide) (by decide) rfl rfl X6.2.2.2 (fun j hj => rfl), fun q => absurd q (by decide)⟩
    · exact ⟨.inl ⟨by decide, fun _ => st_ltT X7.2.2.2, rfl⟩, fun _ => st_oarr (by decide) (by decide) rfl rfl X7.2.2.2 (fun j hj => rfl), fun q => absurd q (by decide)⟩
    · exact ⟨.inl ⟨by decide, fun _ => st_ltT T11, rfl⟩, fun _ => st_oarr (by decide) (by decide) rfl rfl T11 (fun j hj => rfl), fun q => absurd q (by decide)⟩
end
end
section
/-! ===== the law from its entry on ===== -/
theorem ct_X8_init {l : Launch} {h : XH} (hl : l.stackTraces = false) {r : Nat}  : XEx l m_X8_init 1 0 0 [.ref r] (h) (none) (h) := by
  refine XMet.of hl rfl rfl (Nat.le_of_ble_eq_true rfl) (fun Y O hh hQ => ?_)
  show SW Y 0 0 (h) 0 [.ref r] []
  refine sw_aload_n O (xx_dt dd_X8_init 0 rfl) rfl ?_
  refine sw_objInit O oi_X8_1 (xx_dt dd_X8_init 1 rfl) (by omega) (Nat.le_of_ble_eq_true rfl) ?_
  exact sw_ret O (xx_dt dd_X8_init 2 rfl) rfl (by rw [hQ]; exact ⟨rfl, rfl⟩)
theorem xx_bs.C {h : XH} {σ : XS9} (b : xx_bs h) : xx_bs (setC σ h) :=
  ⟨b.1.imp fun f0 e => (setC_out (by omega)).trans e, b.2.1.imp fun c3 e => (setC_out (by omega)).trans e, (setC_out (by omega)).trans b.2.2.1, fun j hj => (setC_out (by omega)).trans (b.2.2.2.1 j hj), (setC_out (by omega)).trans b.2.2.2.2.1, (setC_out (by omega)).trans b.2.2.2.2.2⟩
theorem setC_in {σ : XS9} {h : XH} {c : XC} : setC σ (xx_up h 1000 c) = setC σ h := by
  funext q
  unfold setC
  by_cases a : 1000 ≤ q ∧ q < 4000
  · rw [if_pos a, if_pos a]
  · rw [if_neg a, if_neg a]
    exact xx_up_ne (by omega)
theorem fO_new : (fun j => defaultValue (tyX8 j)) = fO 0 .null := by
  funext k
  match k with
  | 0 => rfl
  | 1 => rfl
  | k + 2 => rfl
section
variable {Y : XY} {l : Launch} {h0 : XH} {xs : Nat → Int32} {len : Nat} {LI : XS9 → XS9 → Prop}
theorem law_begin {k n : Nat} (O : xx_O Y m_L_law l 40) (hl : l.stackTraces = false) (hB : okB h0) (kk : SW Y k n (hL h0 0 s0M s0C 0 none) 27 [.ref 11, .ref 1000, .ref 5000, .ref 4500, .int (nI (5 * 0)), xx_d, xx_d] []) : SW Y (k + 511) (n + 3665) h0 0 [.ref 11, xx_d, xx_d, xx_d, xx_d, xx_d, xx_d] [] := by
  refine xx_wid (k' := k + 510 + 1) (n' := n + 3653 + 12) (by omega) (by omega) (sw_new (k := k + 510) (n := n + 3653) (r := 1000) O (xx_dt dd_L_law_0 0 rfl) cl_X7 nw_L_8 (hB.2.2 1000 (by omega)) (by omega) ?_)
  rw [xx_blk_up]
  refine sw_dup O (xx_dt dd_L_law_0 1 rfl) rfl ?_
  refine xx_wid (k' := k + 9 + 501) (n' := n + 48 + 3605) (by omega) (by omega) (sw_callIx (k := k + 9) (n := n + 48) (k' := 501) (n' := 3605) (as := []) (st := [.ref 1000]) (st2 := [.ref 1000]) O (ct_X7_init hl (fun q h1 h2 h3 => (xx_up_ne h3).trans (hB.2.2 q h1)) (xx_up_eq _ _ _)) ce_X7_init ml_L_136 ii_X7_init (xx_dt dd_L_law_0 2 rfl) (by decide) rfl rfl (Nat.le_of_ble_eq_true rfl) rfl ?_)
  rw [setC_in]
  refine sw_astore_n (ls2 := [.ref 11, .ref 1000, xx_d, xx_d, xx_d, xx_d, xx_d]) O (xx_dt dd_L_law_0 3 rfl) (by decide) rfl ?_
  have hbC : xx_bs (setC s0C h0) := hB.1.C
  have hfC : ∀ r, 4000 ≤ r → setC s0C h0 r = none := fun r hr => (setC_out (by omega)).trans (hB.2.2 r (by omega))
  refine xx_wid (k' := k + 8 + 1) (n' := n + 31 + 17) (by omega) (by omega) (sw_new (k := k + 8) (n := n + 31) (r := 5000) O (xx_dt dd_L_law_0 4 rfl) cl_X14 nw_L_137 (hfC 5000 (by omega)) (by omega) ?_)
  rw [xx_blk_up]
  refine sw_dup O (xx_dt dd_L_law_0 5 rfl) rfl ?_
  refine xx_wid (k' := k + 1 + 7) (n' := n + 2 + 29) (by omega) (by omega) (sw_callIx (k := k + 1) (n := n + 2) (k' := 7) (n' := 29) (as := []) (st := [.ref 5000]) (st2 := [.ref 5000]) O (ct_X14_init hl hbC (fun r h1 h2 => hfC r (by omega))) ce_X14_init ml_L_139 ii_X14_init (xx_dt dd_L_law_0 6 rfl) (by decide) rfl rfl (Nat.le_of_ble_eq_true rfl) rfl ?_)
  refine sw_astore_n (ls2 := [.ref 11, .ref 1000, .ref 5000, xx_d, xx_d, xx_d, xx_d]) O (xx_dt dd_L_law_0 7 rfl) (by decide) rfl ?_
  refine sw_new (k := k) (n := n) (r := 4500) O (xx_dt dd_L_law_0 8 rfl) cl_X8 nw_L_14 ((setM_out (by omega)).trans (hfC 4500 (by omega))) (by omega) ?_
  rw [xx_blk_up]
  refine sw_dup O (xx_dt dd_L_law_0 9 rfl) rfl ?_
  refine sw_callIx (k := k) (n := n) (k' := 0) (n' := 0) (as := []) (st := [.ref 4500]) (st2 := [.ref 4500]) O (ct_X8_init hl) ce_X8_init ml_L_140 ii_X8_init (xx_dt dd_L_law_0 10 rfl) (by decide) rfl rfl (Nat.le_of_ble_eq_true rfl) rfl ?_
  refine sw_astore_n (ls2 := [.ref 11, .ref 1000, .ref 5000, .ref 4500, xx_d, xx_d, xx_d]) O (xx_dt dd_L_law_0 11 rfl) (by decide) rfl ?_
  refine sw_iconst (x := 0) O (xx_dt dd_L_law_0 12 rfl) (by decide) ?_
  refine sw_istore (ls2 := [.ref 11, .ref 1000, .ref 5000, .ref 4500, .int (nI (5 * 0)), xx_d, xx_d]) O (xx_dt dd_L_law_0 13 rfl) (by decide) rfl ?_
  have e : hL h0 0 s0M s0C 0 none = xx_up (setM 0 s0M (setC s0C h0)) 4500 (14, 2, fun j => defaultValue (tyX8 j)) := by
    unfold hL hO
    rw [setC_up (by omega), setM_up (.inl (by omega)), fO_new]
  rw [e] at kk
  exact kk
theorem law_all (O : xx_O Y m_L_law l 40) (hl : l.stackTraces = false) (hB : okB h0) (h11 : h0 11 = some (100, len, fun j => .int (xs j))) (hlen : len ≤ 2560) (hc0 : xx_cls h0) (hcb : ∀ τ σ, LI τ σ → cbd (ctl τ)) (hmeI : ∀ τ σ, LI τ σ → mem_eq τ τ) (hY0 : ∀ r, (xy_h Y r).isSome = true → r < 1000 ∧ (h0 r).isSome = true) (hQ1 : ∀ g, xy_Q Y (.inl (some (.int 1))) g) (hI0 : LI s0M s0C) (i_region : IF_region l LI) (i_border : IF_border l LI) (i_bidder : IF_bidder l LI) (i_rules : IF_rules l LI) (i_step : IF_step l LI) (i_open : IF_open l LI) (i_wish : IF_wish l LI) (i_waive : IF_waive l LI) (i_close : IF_close l LI) (i_offer : IF_offer l LI) (i_settle : IF_settle l LI) (i_fail : IF_fail l LI) (i_station : IF_station l LI) (i_ask : IF_ask l LI) (i_packs : IF_packs l LI) (i_channel : IF_channel l LI) (i_clear : IF_clear l LI) (i_ofRegion : IF_ofRegion l LI) (i_ofBidder : IF_ofBidder l LI) (i_wants : IF_wants l LI) (i_priceIn : IF_priceIn l LI) (i_codeIn : IF_codeIn l LI) (i_ofPackage : IF_ofPackage l LI) (i_wins : IF_wins l LI) (i_pays : IF_pays l LI) (i_holder : IF_holder l LI) (i_chart : IF_chart l LI) (i_sale : IF_sale l LI) (i_worth : IF_worth l LI) (i_wouldPay : IF_wouldPay l LI) (i_objects : IF_objects l LI) (i_most : IF_most l LI) (i_contradicts : IF_contradicts l LI) (i_anew : IF_anew l LI) (i_knock : IF_knock l LI) (i_isSound : IF_isSound l LI) (i_digest : IF_digest l LI) : SW Y (700 * (len / 5) + 511) (10000 * (len / 5) + 3665) h0 0 [.ref 11, xx_d, xx_d, xx_d, xx_d, xx_d, xx_d] [] :=
  law_begin O hl hB (law_loop O hl hB h11 hlen hc0 hcb hmeI hY0 hQ1 i_region i_border i_bidder i_rules i_step i_open i_wish i_waive i_close i_offer i_settle i_fail i_station i_ask i_packs i_channel i_clear i_ofRegion i_ofBidder i_wants i_priceIn i_codeIn i_ofPackage i_wins i_pays i_holder i_chart i_sale i_worth i_wouldPay i_objects i_most i_contradicts i_anew i_knock i_isSound i_digest (len / 5) 0 (Nat.zero_add _) 0 s0M s0C 0 none hI0 (fun p e => by cases e))
end
end
section
/-! ===== the whole law over interfaces ===== -/
def R_law : String := "WavesaleLaw"
def lw_P (b : Addr) (xs : List Int32) (args : Array Value) (s : State) : Prop := args = #[.ref b] ∧ s.IntsAt b xs ∧ xs.length ≤ 2560 ∧ (Jvm.Cond.and given_1 narrow_1).before args s = true
def lw_Q (_ : Array Value) (s : State) (o : Outcome) (t : State) : Prop := o = .returned (some (.int 1)) ∧ Framed s o t [] 601024 7293034
def lw_Z (below : List Frame) (a : Array Value) (s : State) : State → Prop := fun t => ∃ o, t.status = .running ∧ Ended t below o ∧ lw_Q a s o t
def lw_At (p : Program) (s : State) (m : MethodId) (meth : Method) (c : Code) (b L : Nat) (xs : Nat → Int32) : Prop :=
  p.tables.exec = Jvm.exec ∧ c.code = code ∧ meth.sig.returnType = ret ∧ c.maxLocals = 7 ∧ s.vm.findClass R_law = some m.cls ∧ (∀ w ∈ lw_tbl, w.before #[Value.ref b] s = true) ∧ va_X b L xs s s.heap ∧ b < s.heap.size ∧ meth.locks = false ∧ (Jvm.Cond.and given_1 narrow_1).before #[Value.ref b] s = true ∧ meth.name = "law"
set_option maxRecDepth 100000 in
theorem law_whole {p : Program} {e : Env} {s : State} {m : MethodId} {below : List Frame} {meth : Method} {c : Code} (l : Launch) (hflags : l.flags = flags0) {b L : Nat} {xs : Nat → Int32} (hL : L ≤ 2560) (C0 : lw_At p s m meth c b L xs) {LI : XS9 → XS9 → Prop} (hcb : ∀ τ σ, LI τ σ → cbd (ctl τ)) (hmeI : ∀ τ σ, LI τ σ → mem_eq τ τ) (hI0 : LI s0M s0C)
    (i_region : IF_region l LI) (i_border : IF_border l LI) (i_bidder : IF_bidder l LI) (i_rules : IF_rules l LI) (i_step : IF_step l LI) (i_open : IF_open l LI) (i_wish : IF_wish l LI) (i_waive : IF_waive l LI) (i_close : IF_close l LI) (i_offer : IF_offer l LI) (i_settle : IF_settle l LI) (i_fail : IF_fail l LI) (i_station : IF_station l LI) (i_ask : IF_ask l LI) (i_packs : IF_packs l LI) (i_channel : IF_channel l LI) (i_clear : IF_clear l LI) (i_ofRegion : IF_ofRegion l LI) (i_ofBidder : IF_ofBidder l LI) (i_wants : IF_wants l LI) (i_priceIn : IF_priceIn l LI) (i_codeIn : IF_codeIn l LI) (i_ofPackage : IF_ofPackage l LI) (i_wins : IF_wins l LI) (i_pays : IF_pays l LI) (i_holder : IF_holder l LI) (i_chart : IF_chart l LI) (i_sale : IF_sale l LI) (i_worth : IF_worth l LI) (i_wouldPay : IF_wouldPay l LI) (i_objects : IF_objects l LI) (i_most : IF_most l LI) (i_contradicts : IF_contradicts l LI) (i_anew : IF_anew l LI) (i_knock : IF_knock l LI) (i_isSound : IF_isSound l LI) (i_digest : IF_digest l LI) : W p l e room_1 s m #[Value.ref b] below meth c s.heap [] 0 0 (lw_Z below #[Value.ref b] s) (entryFrame m ([Value.ref b] : List Value).toArray 7) := by
  obtain ⟨hx, hb, hr, hml, hown, hts, hX, hbl, hlocks, hgv, hnm⟩ := C0
  have H : stH #[Value.ref b] s := ⟨hts, hgv⟩
  obtain ⟨D, hDH, hDE, hK, hN, hS⟩ := st_D H hX
  have hl : l.stackTraces = false := by
    unfold Launch.stackTraces
    rw [hflags]
    rfl
  have O : xx_O ((p, l, e, room_1, s, m, #[Value.ref b], below, meth, c), D, xd_E D, h0S L xs, fun o _ => o = .inl (some (.int 1))) m_L_law l 40 :=
    ⟨hx, hb, hml, hr, hlocks, H.gw, hown, hK, hN, hl, hnm, rfl, Nat.le_of_ble_eq_true rfl, Nat.le_of_ble_eq_true rfl, fun E h9 q => (by cases q), fun a ha => by rw [hDH]⟩
  have sw := law_all O hl h0S_ok rfl hL h0S_cls hcb hmeI (fun r hr => ⟨Nat.not_le.mp fun q => (by
    have hr : (h0S L xs r).isSome = true := hr
    rw [h0S_hi q] at hr
    cases hr), hr⟩) (fun g => rfl) hI0 i_region i_border i_bidder i_rules i_step i_open i_wish i_waive i_close i_offer i_settle i_fail i_station i_ask i_packs i_channel i_clear i_ofRegion i_ofBidder i_wants i_priceIn i_codeIn i_ofPackage i_wins i_pays i_holder i_chart i_sale i_worth i_wouldPay i_objects i_most i_contradicts i_anew i_knock i_isSound i_digest
  have e11 : ([Value.ref 11].map (xx_v (xd_E D))) = [Value.ref b] := by
    show [Value.ref (xd_E D 11)] = _
    rw [hDE]
  have hent := lv_entry [Value.ref b] (n := 7) (Nat.le_of_ble_eq_true rfl)
  have hent2 : lv_has ((lg_sl [Value.ref b] ++ List.replicate (7 - (lg_sl [Value.ref b]).length) Slot.unset).toArray) 7 (lv_args 0 ([Value.ref 11].map (xx_v (xd_E D)))) := by
    rw [e11]
    exact hent
  have hls : xx_L (xd_E D) c.maxLocals [.ref 11, xx_d, xx_d, xx_d, xx_d, xx_d, xx_d] ((lg_sl [Value.ref b] ++ List.replicate (7 - (lg_sl [Value.ref b]).length) Slot.unset).toArray) := by
    rw [hml]
    exact xx_L.entry hent2
  have hin : ∀ v ∈ [Value.ref 11, xx_d, xx_d, xx_d, xx_d, xx_d, xx_d], xx_in (h0S L xs) v := by
    intro v hv
    rcases List.mem_cons.mp hv with rfl | hv
    · exact rfl
    · have : v = xx_d := by simpa using hv
      rw [this]
      exact trivial
  have g1 : 0 + (700 * (L / 5) + 511) ≤ 601024 := by omega
  have g2 : 0 + (10000 * (L / 5) + 3665) ≤ 7293034 := by omega
  have hx9 := sw (xd_E D) (fun _ => none) s.heap [] 0 0 _ ⟨hS, fun r hr => ⟨hr, rfl⟩, fun z hz => absurd hz List.not_mem_nil, g1, g2, hls, hin, fun v hv => absurd hv List.not_mem_nil⟩
  rw [lg_entry_eq]
  intro T hT X
  obtain ⟨t, a1, o, b1, b2, b3⟩ := hx9 T hT X
  refine ⟨t, a1, o, b1, b2, ?_⟩
  rcases b3 with ⟨hq, Lc, hF, hfree⟩ | ⟨q, rfl, E, ce, L9, hXc, -⟩
  · obtain ⟨v, h', ρ', ow', rfl, hQ, -⟩ := hq
    cases hQ
    obtain ⟨s1, s2, s3, s4, s5, s6⟩ := hF.2.2
    refine ⟨rfl, ⟨_, rfl⟩, hF.2.1, s1, s2, s3, s4, s5, fun a c9 ha => ?_⟩
    obtain ⟨c', e1, e2, e3, e4⟩ := s6 a c9 ha
    refine ⟨c', e1, e2, e3, fun i _ => e4 i (fun hm => ?_)⟩
    have h8 : (xd_H D).size ≤ a := hfree _ hm
    have h9 := (Array.getElem?_eq_some_iff.mp ha).1
    rw [hDH] at h8
    exact absurd h9 (Nat.not_lt.mpr h8)
  · obtain ⟨h', ρ', ow', hQ, -⟩ := hXc
    cases hQ
end
section
/-! ===== pure facts: what holds of the class's memory at all times ===== -/
/-- a number from 0 to m -/
def bd (m : Nat) (v : Int32) : Prop := v = nI (cn v) ∧ cn v ≤ m
theorem bd.nat {m n : Nat} (h : n ≤ m) (hm : m < 2147483648) : bd m (nI n) := by
  have e : cn (nI n) = n := cn_nI (by omega)
  exact ⟨by rw [e], by rw [e]; exact h⟩
theorem bd.le {m n : Nat} {v : Int32} (h : bd m v) (hm : m ≤ n) : bd n v := ⟨h.1, Nat.le_trans h.2 hm⟩
theorem bd.zero {m : Nat} : bd m 0 := ⟨rfl, Nat.zero_le _⟩
theorem bd.bt {m : Nat} {v lo hi : Int32} (h : n_bt v lo hi) (hl : 0 ≤ lo) (hm : hi = nI m) (hm2 : m < 2147483648) : bd m v := by
  obtain ⟨e, e2⟩ := cn_of (Int32.le_trans hl h.1)
  refine ⟨e, ?_⟩
  have h2 := Int32.le_iff_toInt_le.mp h.2
  rw [hm, toI_nI hm2] at h2
  omega
theorem bd.lt {x : Int32} {R m : Nat} (h : n_lt x R) (hm : R ≤ m + 1) : bd m x := ⟨h.1, by have := h.2; omega⟩
/-- a block's holder: nobody, or a bidder -/
def hd (v : Int32) : Prop := v = -1 ∨ bd 9 v
/-- the places that the invariant speaks of -/
def ky (q i : Nat) : Prop := (q = 1000 ∧ i = 9) ∨ (q = 1001 ∧ (i = 4 ∨ i = 9)) ∨ (q = 1006 ∧ i = 1) ∨ q = 1010 ∨ q = 1017 ∨ (1020 ≤ q ∧ q ≤ 1036) ∨ (1141 ≤ q ∧ q ≤ 1145) ∨ q = 1151 ∨ (q = 2000 ∧ i = 9)
def JC (σ : XS9) : Prop := bd 5 (σ 1001 4) ∧ bd 6 (σ 1001 9) ∧ bd 60 (σ 2000 9) ∧ bd 10 (σ 1006 1) ∧ bd 2 (σ 1000 9) ∧ (∀ i, i < 6 → bd 3 (σ 1017 i)) ∧ (∀ i, i < 6 → bd 6 (σ 1020 i)) ∧ (∀ r, r < 5 → bd 5 (σ 1010 r)) ∧ XCD σ ∧ (∀ i, i < 10 → bd 4 (σ 1151 i)) ∧ (∀ i k, i < 6 → k < 6 → 0 ≤ σ (1031 + i) k) ∧ ∀ r k, r < 5 → k < 5 → hd (σ (1141 + r) k)
theorem JC.of {σ σ' : XS9} (h : JC σ) (e : ∀ q i, ky q i → σ' q i = σ q i) : JC σ' := by
  obtain ⟨h1, h2, h3, h4, h5, h6, h7, h8, h9, h10, h11, h12⟩ := h
  refine ⟨by rw [e _ _ (by unfold ky; omega)]; exact h1, by rw [e _ _ (by unfold ky; omega)]; exact h2, by rw [e _ _ (by unfold ky; omega)]; exact h3, by rw [e _ _ (by unfold ky; omega)]; exact h4, by rw [e _ _ (by unfold ky; omega)]; exact h5, fun i hi => ?_, fun i hi => ?_, fun i hi => ?_, fun i k hi hk => ?_, fun i hi => ?_, fun i k hi hk => ?_, fun r k hr hk => ?_⟩
  · rw [e _ _ (by unfold ky; omega)]; exact h6 i hi
  · rw [e _ _ (by unfold ky; omega)]; exact h7 i hi
  · rw [e _ _ (by unfold ky; omega)]; exact h8 i hi
  · rw [e _ _ (by unfold ky; omega)]; exact h9 i k hi hk
  · rw [e _ _ (by unfold ky; omega)]; exact h10 i hi
  · rw [e _ _ (by unfold ky; omega)]; exact h11 i k hi hk
  · rw [e _ _ (by unfold ky; omega)]; exact h12 r k hr hk
theorem JC.set {σ : XS9} (h : JC σ) {q i : Nat} {x : Int32} (hq : ¬ ky q i) : JC (u2 σ q i x) := h.of fun q9 i9 hk => by
  by_cases e : q9 = q
  · subst e
    exact u2_oi (fun e2 => hq (by rw [← e2]; exact hk))
  · rw [u2_ne e]
theorem JC.rows {σ σ' : XS9} (h : JC σ) (e : ∀ q, (q = 1000 ∨ q = 1001 ∨ q = 1006 ∨ q = 1010 ∨ q = 1017 ∨ (1020 ≤ q ∧ q ≤ 1036) ∨ (1141 ≤ q ∧ q ≤ 1145) ∨ q = 1151 ∨ q = 2000) → σ' q = σ q) : JC σ' := h.of fun q i hk => by
  rw [e q (by unfold ky at hk; omega)]
theorem JC.init : JC s0C := by
  refine ⟨⟨by decide, by decide⟩, ⟨by decide, by decide⟩, ⟨by decide, by decide⟩, ⟨by decide, by decide⟩, ⟨by decide, by decide⟩, fun i hi => ?_, fun i hi => ?_, fun i hi => ?_, fun i k hi hk => ?_, fun i hi => ?_, fun i k hi hk => ?_, fun r k hr hk => ?_⟩
  · rw [s0C_z (by decide) (by decide) (by omega) (by decide)]; exact bd.zero
  · rw [s0C_z (by decide) (by decide) (by omega) (by decide)]; exact bd.zero
  · rw [s0C_z (by decide) (by decide) (by omega) (by decide)]; exact bd.zero
  · rw [s0C_z (by omega) (by omega) (by omega) (by omega)]; exact Int32.le_refl _
  · rw [s0C_z (by decide) (by decide) (by omega) (by decide)]; exact bd.zero
  · rw [s0C_z (by omega) (by omega) (by omega) (by omega)]; exact Int32.le_refl _
  · left
    unfold s0C
    rw [if_neg (by omega), if_neg (by omega), if_pos (by omega)]
/-! the class's methods keep it -/
theorem ky.n {q i : Nat} (h : ¬ (q = 1000 ∨ q = 1001 ∨ q = 1006 ∨ q = 1010 ∨ q = 1017 ∨ (1020 ≤ q ∧ q ≤ 1036) ∨ (1141 ≤ q ∧ q ≤ 1145) ∨ q = 1151 ∨ q = 2000)) : ¬ ky q i := fun k => by
  unfold ky at k
  omega
section
variable {σ : XS9} {R B C K w : Nat}
theorem JC.begin (h : JC σ) : JC (g_begin σ 2000) := by
  have e : ∀ q, q ≠ 2000 → (q < 2001 ∨ 2006 < q) → g_begin σ 2000 q = σ q := fun q a b => fr_begin (by omega)
  have e9 : g_begin σ 2000 2000 9 = 0 := by
    unfold g_begin
    rw [u2_oi (by decide)]
    exact u2_at
  obtain ⟨h1, h2, h3, h4, h5, h6, h7, h8, h9, h10, h11, h12⟩ := h
  refine ⟨by rw [e _ (by omega) (by omega)]; exact h1, by rw [e _ (by omega) (by omega)]; exact h2, by rw [e9]; exact bd.zero, by rw [e _ (by omega) (by omega)]; exact h4, by rw [e _ (by omega) (by omega)]; exact h5, fun i hi => ?_, fun i hi => ?_, fun i hi => ?_, fun i k hi hk => ?_, fun i hi => ?_, fun i k hi hk => ?_, fun r k hr hk => ?_⟩
  · rw [e _ (by omega) (by omega)]; exact h6 i hi
  · rw [e _ (by omega) (by omega)]; exact h7 i hi
  · rw [e _ (by omega) (by omega)]; exact h8 i hi
  · rw [e _ (by omega) (by omega)]; exact h9 i k hi hk
  · rw [e _ (by omega) (by omega)]; exact h10 i hi
  · rw [e _ (by omega) (by omega)]; exact h11 i k hi hk
  · rw [e _ (by omega) (by omega)]; exact h12 r k hr hk
/-- one place of a row is written with what the row may hold -/
theorem JC.put {q i : Nat} {x : Int32} (h : JC σ) (hx : (q = 1001 ∧ i = 4 ∧ bd 5 x) ∨ (q = 1001 ∧ i = 9 ∧ bd 6 x) ∨ (q = 1006 ∧ i = 1 ∧ bd 10 x) ∨ (q = 1000 ∧ i = 9 ∧ bd 2 x) ∨ (q = 1017 ∧ bd 3 x) ∨ (q = 1020 ∧ bd 6 x) ∨ (q = 1010 ∧ bd 5 x) ∨ (1022 ≤ q ∧ q < 1028 ∧ 0 ≤ x) ∨ (q = 1151 ∧ bd 4 x) ∨ (1031 ≤ q ∧ q < 1037 ∧ 0 ≤ x) ∨ (1141 ≤ q ∧ q ≤ 1145 ∧ hd x)) : JC (u2 σ q i x) := by
  have e : ∀ q9 i9, (q9 = q → i9 ≠ i) → u2 σ q i x q9 i9 = σ q9 i9 := fun q9 i9 hn => by
    by_cases e : q9 = q
    · subst e
      exact u2_oi (hn rfl)
    · rw [u2_ne e]
  have g : ∀ (P : Int32 → Prop) q9 i9, P (σ q9 i9) → (q9 = q → i9 = i → P x) → P (u2 σ q i x q9 i9) := fun P q9 i9 h1 h2 => by
    by_cases e1 : q9 = q
    · by_cases e2 : i9 = i
      · subst e1
        subst e2
        rw [u2_at]
        exact h2 rfl rfl
      · rw [e _ _ (fun _ => e2)]
        exact h1
    · rw [e _ _ (fun z => absurd z e1)]
      exact h1
  obtain ⟨h1, h2, h3, h4, h5, h6, h7, h8, h9, h10, h11, h12⟩ := h
  refine ⟨g _ _ _ h1 (fun a b => ?_), g _ _ _ h2 (fun a b => ?_), g _ _ _ h3 (fun a b => ?_), g _ _ _ h4 (fun a b => ?_), g _ _ _ h5 (fun a b => ?_), fun i hi => g _ _ _ (h6 i hi) (fun a b => ?_), fun i hi => g _ _ _ (h7 i hi) (fun a b => ?_), fun i hi => g _ _ _ (h8 i hi) (fun a b => ?_), fun i k hi hk => g (fun v => 0 ≤ v) _ _ (h9 i k hi hk) (fun a b => ?_), fun i hi => g _ _ _ (h10 i hi) (fun a b => ?_), fun i k hi hk => g (fun v => 0 ≤ v) _ _ (h11 i k hi hk) (fun a b => ?_), fun r k hr hk => g _ _ _ (h12 r k hr hk) (fun a b => ?_)⟩ <;> (rcases hx with ⟨z1, z2, z⟩ | ⟨z1, z2, z⟩ | ⟨z1, z2, z⟩ | ⟨z1, z2, z⟩ | ⟨z1, z⟩ | ⟨z1, z⟩ | ⟨z1, z⟩ | ⟨z1, z2, z⟩ | ⟨z1, z⟩ | ⟨z1, z2, z⟩ | ⟨z1, z2, z⟩ <;> first | exact z | (exfalso; omega))
theorem JC.region {x y z : Int32} (h : JC σ) (hR6 : R ≤ 5) : JC (g_region σ x y z R) := by
  unfold g_region
  split
  · rename_i hx
    split
    · split
      · split
        · split
          · rename_i hR9
            have hR5 : R < 5 := (nI_ltI (a := R) (b := 5) (by omega) (by omega)).mp hR9
            refine JC.begin ?_
            unfold g_addRegion
            refine JC.put (JC.set (q := 1012) (JC.set (q := 1011) (JC.put h (.inr (.inr (.inr (.inr (.inr (.inr (.inl ⟨rfl, bd.bt hx (by decide) rfl (by decide)⟩)))))))) (ky.n (by decide))) (ky.n (by decide))) (.inl ⟨rfl, rfl, bd.nat (by omega) (by decide)⟩)
          · exact h
        · exact h
      · exact h
    · exact h
  · exact h
theorem JC.bidder {x y z v : Int32} (h : JC σ) (hB6 : B ≤ 6) : JC (g_bidder σ x y z v B) := by
  unfold g_bidder
  split
  · split
    · split
      · split
        · rename_i hv
          split
          · split
            · rename_i hB9
              have hB5 : B < 6 := (nI_ltI (a := B) (b := 6) (by omega) (by omega)).mp hB9
              refine JC.begin ?_
              unfold g_addBidder
              exact JC.put (JC.put (JC.set (q := 1016) (JC.set (q := 1015) (JC.set (q := 1014) h (ky.n (by decide))) (ky.n (by decide))) (ky.n (by decide))) (q := 1017) (.inr (.inr (.inr (.inr (.inl ⟨rfl, bd.bt hv (by decide) rfl (by decide)⟩)))))) (.inr (.inl ⟨rfl, rfl, bd.nat (by omega) (by decide)⟩))
            · exact h
          · exact h
        · exact h
      · exact h
    · exact h
  · exact h
theorem JC.border {x y : Int32} (h : JC σ) : JC (g_border σ x y R) := by
  unfold g_border
  split
  · split
    · split
      · exact h
      · split
        · unfold g_addBorder
          exact JC.set (q := 1013) (JC.set (q := 1013) h (ky.n (by decide))) (ky.n (by decide))
        · exact h
    · exact h
  · exact h
theorem JC.rules {x y : Int32} (h : JC σ) : JC (g_rules σ x y) := by
  have k1 : ∀ i, (i = 10 ∨ i = 11) → ¬ ky 1001 i := fun i hi k => by unfold ky at k; omega
  unfold g_rules
  split
  · split
    · exact JC.set (JC.set h (k1 10 (.inl rfl))) (k1 11 (.inr rfl))
    · exact h
  · exact h
theorem ky1000 {i : Nat} (hi : i ≠ 9) : ¬ ky 1000 i := fun k => by unfold ky at k; omega
theorem JC.step {x : Int32} (h : JC σ) : JC (g_step σ x) := by
  unfold g_step
  split
  · split
    · exact JC.set h (ky1000 (by decide))
    · split
      · exact JC.set h (ky1000 (by decide))
      · exact h
  · exact h
theorem JC.opn (h : JC σ) : JC (g_open σ R B) := by
  unfold g_open
  split
  · split
    · exact h
    · split
      · exact h
      · exact JC.set h (ky1000 (by decide))
  · exact h
theorem JC.wish {x y z : Int32} (h : JC σ) : JC (g_wish σ x y z R B) := by
  unfold g_wish
  split
  · split
    · split
      · split
        · split
          · exact h
          · exact JC.set (q := 2003) h (ky.n (by decide))
        · exact h
      · exact h
    · exact h
  · exact h
theorem JC.waive {x : Int32} (h : JC σ) : JC (g_waive σ x B) := by
  have k1 : ¬ ky 2000 12 := fun k => by unfold ky at k; omega
  unfold g_waive
  split
  · split
    · split
      · exact h
      · split
        · unfold g_useWaiver
          exact JC.set (q := 2000) (JC.set (q := 2005) h (ky.n (by decide))) k1
        · exact h
    · exact h
  · exact h
theorem JC.station {x y : Int32} (h : JC σ) (hR5 : R ≤ 5) (hC10 : C ≤ 10) : JC (g_station σ x y R C) := by
  unfold g_station
  split
  · rename_i hx
    split
    · split
      · rename_i hC9
        have hC5 : C < 10 := (nI_ltI (a := C) (b := 10) (by omega) (by omega)).mp hC9
        unfold g_add
        refine JC.put (JC.set (q := 1150) (JC.put h (q := 1151) (.inr (.inr (.inr (.inr (.inr (.inr (.inr (.inr (.inl ⟨rfl, ?_⟩)))))))))) (ky.n (by decide))) (.inr (.inr (.inl ⟨rfl, rfl, bd.nat (by omega) (by decide)⟩)))
        exact bd.nat (by have := hx.2; omega) (by decide)
      · exact h
    · exact h
  · exact h
theorem JC.ask {x y : Int32} (h : JC σ) : JC (g_ask σ x y C) := by
  unfold g_ask
  split
  · split
    · exact JC.set (q := 1150) h (ky.n (by decide))
    · exact h
  · exact h
theorem JC.pack {x : Int32} {ch : Nat} {rg : Nat → Nat} (h : JC σ) : JC (g_pack σ x ch C rg) := h.rows fun q hq => fr_packM (by omega)
theorem JC.cheapest {ch : Nat} {rg : Nat → Nat} (h : JC σ) : JC (g_cheapest σ ch C rg) := h.rows fun q hq => fr_cheapest (by omega)
theorem JC.packs {x y : Int32} {rg : Nat → Nat} (h : JC σ) : JC (g_packs σ x y C rg) := by
  unfold g_packs
  split
  · split
    · exact h.pack
    · exact h
  · exact h
theorem JC.channel {x y z : Int32} {rg : Nat → Nat} (h : JC σ) : JC (g_channel σ x y z C rg) := by
  unfold g_channel
  split
  · split
    · split
      · exact h.pack
      · exact h
    · exact h
  · exact h
theorem JC.clear {x : Int32} {rg : Nat → Nat} (h : JC σ) : JC (g_clear σ x C rg) := by
  unfold g_clear
  split
  · exact h.cheapest
  · exact h
theorem JC.runLog {x y : Int32} {j r : Nat} (h : JC σ) (hK60 : K ≤ 60) : JC (g_runLog σ 3000 2000 x j r y B R K) := h.rows fun q hq => fr_runLog hK60 (by omega)
theorem JC.anew {x y z v : Int32} (h : JC σ) (hK60 : K ≤ 60) : JC (g_anew σ x y z v R B K) := by
  unfold g_anew
  split
  · split
    · split
      · split
        · exact h.runLog hK60
        · exact h
      · exact h
    · exact h
  · exact h
theorem JC.isSound (h : JC σ) (hK60 : K ≤ 60) : JC (g_isSound σ R B w K) := h.runLog hK60
theorem JC.digest {rg : Nat → Nat} (h : JC σ) (hK60 : K ≤ 60) : JC (g_digest σ K B R C w rg) := by
  unfold g_digest g_dgS
  split
  · exact JC.isSound h.cheapest.cheapest hK60
  · exact JC.isSound h hK60
theorem JC.knock (h : JC σ) : JC (g_knock σ) := JC.set h (ky1000 (by decide))
theorem JC.addM {i : Nat} {x y : Int32} {gr cnt : Nat → Nat} (h : JC σ) (hi : i < 6) (hg : ∀ i, i < 6 → gr i < 4) (hc : cnt i ≤ 6) (hx : 0 ≤ x) (hy : 0 ≤ y) : JC (g_addM σ i x y R B gr cnt) := by
  have hgi := hg i hi
  have hp : 2 ^ i < 64 := by
    have := Nat.pow_lt_pow_right (a := 2) (by decide) hi
    exact this
  unfold g_addM
  split
  · rename_i q
    have hc6 : cnt i < 6 := (nI_ltI (a := cnt i) (b := 6) (by omega) (by omega)).mp q
    have A : JC (u2 (u2 (u2 σ (1022 + i) (cnt i) x) (1031 + i) (cnt i) y) 1020 i (nI (cnt i + 1))) :=
      JC.put (JC.put (JC.put h (.inr (.inr (.inr (.inr (.inr (.inr (.inr (.inl ⟨by omega, by omega, hx⟩))))))))) (.inr (.inr (.inr (.inr (.inr (.inr (.inr (.inr (.inr (.inl ⟨by omega, by omega, hy⟩))))))))))) (.inr (.inr (.inr (.inr (.inr (.inl ⟨rfl, bd.nat (by omega) (by decide)⟩))))))
    generalize u2 (u2 (u2 σ (1022 + i) (cnt i) x) (1031 + i) (cnt i) y) 1020 i (nI (cnt i + 1)) = s at A ⊢
    split
    · exact A.rows fun q hq => fr_findWinners (by omega)
    · refine A.rows fun q hq => ?_
      rw [fr_findWinners (by omega), fr_giveBack (by omega), fr_pickFrom ⟨hg, hp, by omega, by omega, by omega, by omega, by omega⟩, fr_take (by omega)]
  · exact h
theorem JC.find (h : JC σ) : JC (g_find σ) := h.rows fun q hq => fr_find (by omega)
theorem JC.offer {x y z : Int32} {gr cnt : Nat → Nat} (h : JC σ) (hB6 : B ≤ 6) (hg : ∀ i, i < 6 → gr i < 4) (hc : ∀ i, i < 6 → cnt i ≤ 6) : JC (g_offer σ x y z R B gr cnt) := by
  unfold g_offer
  split
  · rename_i hx
    have hx6 : cn x < 6 := by have := hx.2; omega
    split
    · exact h
    · rename_i hy
      have hy0 : 0 ≤ y := by
        refine Int32.not_lt.mp fun q => hy ?_
        unfold f_isCode
        rw [if_pos q]
      split
      · rename_i hz
        split
        · split
          · exact h
          · split
            · exact h
            · exact (h.addM hx6 hg (hc _ hx6) hy0 hz).find
        · exact h
      · exact h
  · exact h
def hdI (s : XS9) : Prop := ∀ r k, r < 5 → k < 5 → hd (s (1141 + r) k)
theorem hd.six {n : Nat} : hd (nI (n % 6)) := .inr (bd.nat (by omega) (by decide))
theorem hdI.u2 {s : XS9} (h : hdI s) {q k : Nat} {x : Int32} (hx : hd x) : hdI (u2 s q k x) := fun r9 k9 hr hk => by
  by_cases e : 1141 + r9 = q
  · by_cases e2 : k9 = k
    · rw [e, e2, u2_at]
      exact hx
    · rw [e, u2_oi e2, ← e]
      exact h r9 k9 hr hk
  · rw [u2_ne e]
    exact h r9 k9 hr hk
theorem hdI.fill {s : XS9} (h : hdI s) {a n : Nat} {x : Int32} (hx : hd x) : hdI (g_fill s a n x) := by
  unfold g_fill x_fill_5
  exact xit_inv hdI (N := n) (fun i3 s3 _ hP3 => hP3.u2 hx) n 0 _ (Nat.zero_add _) h
theorem hdI.turn62 {s s0 : XS9} {s2 : XS9 × Nat} {i : Nat} (h : hdI s0) {r t : Nat} {sp : Nat → Nat} : hdI (x_giveByTurn_62 s r t sp i s2 s0) := by
  unfold x_giveByTurn_62
  generalize min (s2.2 + cbw s2.1 ((t + i) % 6) r) (sp r) - s2.2 = n9
  exact xit_inv hdI (N := n9) (fun i3 s3 _ hP3 => hP3.u2 hd.six) n9 0 _ (Nat.zero_add _) h
theorem hdI.turn {s : XS9} (h : hdI s) {r t : Nat} {sp : Nat → Nat} : hdI (g_giveByTurn s r t sp) := by
  unfold g_giveByTurn x_giveByTurn_20
  generalize 6 = n9
  exact xit_inv (fun s : XS9 × Nat => hdI s.1) (N := n9) (fun i s2 _ hP => hdI.turn62 (s := s) hP) n9 0 _ (Nat.zero_add _) (hdI.fill h (.inl rfl))
theorem hdI.give25 {s : XS9} {s0 : XS9 × Nat × Int32} (h : hdI s0.1) {sp : Nat → Nat} {i : Nat} : hdI (x_give_25 s R sp i s0).1 := by
  unfold x_give_25
  generalize 6 = n9
  refine xit_inv (fun s : XS9 × Nat × Int32 => hdI s.1) (N := n9) (fun i3 s3 _ hP3 => ?_) n9 0 _ (Nat.zero_add _) h
  have e := hP3.turn (r := i) (t := i3) (sp := sp)
  generalize g_giveByTurn s3.1 i i3 sp = g9 at e ⊢
  split
  · exact e
  · exact e
theorem hdI.give {s : XS9} (h : hdI s) {sp : Nat → Nat} : hdI (g_give s R sp) := by
  unfold g_give x_give_7
  refine xit_inv hdI (N := R) (fun i s2 _ hP => ?_) R 0 _ (Nat.zero_add _) (fun r k hr hk => by rw [u2_ne (by omega)]; exact h r k hr hk)
  have e : hdI (x_give_25 s R sp i (s2, 0, 25)).1 := hdI.give25 hP
  generalize x_give_25 s R sp i (s2, 0, 25) = y9 at e ⊢
  have e2 := e.turn (r := i) (t := y9.2.1) (sp := sp)
  generalize g_giveByTurn y9.1 i y9.2.1 sp = z9 at e2 ⊢
  intro r k hr hk
  rw [u2_ne (by omega)]
  exact e2 r k hr hk
theorem JC.give {sp : Nat → Nat} (h : JC σ) (hR5 : R ≤ 5) : JC (g_give σ R sp) := by
  have e : ∀ q, q ≠ 1005 → (q < 1141 ∨ 1145 < q) → g_give σ R sp q = σ q := fun q a b => fr_give hR5 ⟨a, b⟩
  have hh : hdI (g_give σ R sp) := hdI.give (s := σ) (R := R) h.2.2.2.2.2.2.2.2.2.2.2
  obtain ⟨h1, h2, h3, h4, h5, h6, h7, h8, h9, h10, h11, h12⟩ := h
  refine ⟨by rw [e _ (by omega) (by omega)]; exact h1, by rw [e _ (by omega) (by omega)]; exact h2, by rw [e _ (by omega) (by omega)]; exact h3, by rw [e _ (by omega) (by omega)]; exact h4, by rw [e _ (by omega) (by omega)]; exact h5, fun i hi => ?_, fun i hi => ?_, fun i hi => ?_, fun i k hi hk => ?_, fun i hi => ?_, fun i k hi hk => ?_, hh⟩
  · rw [e _ (by omega) (by omega)]; exact h6 i hi
  · rw [e _ (by omega) (by omega)]; exact h7 i hi
  · rw [e _ (by omega) (by omega)]; exact h8 i hi
  · rw [e _ (by omega) (by omega)]; exact h9 i k hi hk
  · rw [e _ (by omega) (by omega)]; exact h10 i hi
  · rw [e _ (by omega) (by omega)]; exact h11 i k hi hk
theorem JC.settle {x : Int32} {sp : Nat → Nat} (h : JC σ) (hR5 : R ≤ 5) : JC (g_settle σ x R sp) := by
  unfold g_settle
  split
  · rename_i hx
    split
    · exact JC.give (JC.set (JC.put h (.inr (.inr (.inr (.inl ⟨rfl, rfl, bd.bt hx (by decide) rfl (by decide)⟩))))) (ky1000 (by decide))) hR5
    · exact h
  · exact h
theorem JC.leaveOut {i : Nat} (h : JC σ) : JC (g_leaveOut σ i) := h.rows fun q hq => fr_leaveOut (by omega)
theorem JC.fail {x : Int32} {sp : Nat → Nat} (h : JC σ) (hR5 : R ≤ 5) : JC (g_fail σ x R B sp) := by
  unfold g_fail
  split
  · split
    · split
      · exact h
      · exact JC.give (JC.set h (ky1000 (by decide))).leaveOut.find hR5
    · exact h
  · exact h
end
end
