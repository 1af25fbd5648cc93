/-! ===== what was made is dropped ===== -/
theorem lyB_in {H : XH} {C : XS9} {b i : Nat} {s s' : Nat → Int32} : ∀ c, lyB C b i s = some c → ∃ c', lyB C b i s' = some c' ∧ c'.2.1 = c.2.1 ∧ ∀ j, xx_in H (c'.2.2 j) → xx_in H (c.2.2 j) := by
  intro c e
  unfold lyB at e ⊢
  by_cases w0 : i < 8
  · rw [if_pos w0] at e ⊢
    split at e <;> cases e <;> first | (exact ⟨_, rfl, rfl, fun j h => h⟩) | (exact ⟨_, rfl, rfl, fun j _ => trivial⟩) | (refine ⟨_, rfl, rfl, fun j => ?_⟩; (try dsimp only); (repeat' split) <;> first | exact id | exact fun _ => trivial)
  rw [if_neg w0] at e ⊢
  by_cases u0 : i < 200
  · rw [if_pos u0] at e ⊢
    by_cases v : 100 ≤ i ∧ i - 100 < cn (C b 21)
    · rw [if_pos v] at e ⊢
      cases e
      exact ⟨_, rfl, rfl, fun j _ => trivial⟩
    · rw [if_neg v] at e ⊢
      cases e
  rw [if_neg u0] at e ⊢
  by_cases u1 : i < 300
  · rw [if_pos u1] at e ⊢
    by_cases v : i - 200 < cn (C b 22)
    · rw [if_pos v] at e ⊢
      cases e
      exact ⟨_, rfl, rfl, fun j _ => trivial⟩
    · rw [if_neg v] at e ⊢
      cases e
  rw [if_neg u1] at e ⊢
  by_cases u2 : i < 700
  · rw [if_pos u2] at e ⊢
    by_cases v : 500 ≤ i ∧ i - 500 ≤ cn (C b 23)
    · rw [if_pos v] at e ⊢
      cases e
      exact ⟨_, rfl, rfl, fun j _ => trivial⟩
    · rw [if_neg v] at e ⊢
      cases e
  rw [if_neg u2] at e ⊢
  by_cases u3 : i < 900
  · rw [if_pos u3] at e ⊢
    by_cases v : i - 700 ≤ cn (C b 24)
    · rw [if_pos v] at e ⊢
      cases e
      exact ⟨_, rfl, rfl, fun j _ => trivial⟩
    · rw [if_neg v] at e ⊢
      cases e
  rw [if_neg u3] at e ⊢
  cases e
theorem lyQ_in {H : XH} {z : Int64} {C : XS9} {r : Nat} {s s' : Nat → Int32} : ∀ c, lyQ z C r s = some c → ∃ c', lyQ z C r s' = some c' ∧ c'.2.1 = c.2.1 ∧ ∀ j, xx_in H (c'.2.2 j) → xx_in H (c.2.2 j) := by
  intro c e
  unfold lyQ at e ⊢
  by_cases w0 : r < 5010
  · rw [if_pos w0] at e ⊢
    split at e <;> first | (cases e; done) | (cases e; first | (exact ⟨_, rfl, rfl, fun j h => h⟩) | (exact ⟨_, rfl, rfl, fun j _ => trivial⟩) | (refine ⟨_, rfl, rfl, fun j => ?_⟩; (try dsimp only); (repeat' split) <;> first | exact id | exact fun _ => trivial))
  rw [if_neg w0] at e ⊢
  by_cases u0 : r < 5020
  · rw [if_pos u0] at e ⊢
    by_cases v : r - 5010 < cn (C 5001 900)
    · rw [if_pos v] at e ⊢
      cases e
      exact ⟨_, rfl, rfl, fun j _ => trivial⟩
    · rw [if_neg v] at e ⊢
      cases e
  rw [if_neg u0] at e ⊢
  by_cases u1 : r < 5030
  · rw [if_pos u1] at e ⊢
    by_cases v : r - 5020 < cn (C 5002 900)
    · rw [if_pos v] at e ⊢
      cases e
      refine ⟨_, rfl, rfl, fun j => ?_⟩; (try dsimp only); (repeat' split) <;> first | exact id | exact fun _ => trivial
    · rw [if_neg v] at e ⊢
      cases e
  rw [if_neg u1] at e ⊢
  by_cases u2 : r < 5040
  · rw [if_pos u2] at e ⊢
    by_cases v : r - 5030 < cn (C 5002 900)
    · rw [if_pos v] at e ⊢
      cases e
      exact ⟨_, rfl, rfl, fun j h => h⟩
    · rw [if_neg v] at e ⊢
      cases e
  rw [if_neg u2] at e ⊢
  by_cases u3 : r < 5200
  · rw [if_pos u3] at e ⊢
    cases e
  rw [if_neg u3] at e ⊢
  by_cases u4 : r < 5300
  · rw [if_pos u4] at e ⊢
    by_cases v : r - 5200 < cn (C 5003 900)
    · rw [if_pos v] at e ⊢
      cases e
      refine ⟨_, rfl, rfl, fun j => ?_⟩; (try dsimp only); (repeat' split) <;> first | exact id | exact fun _ => trivial
    · rw [if_neg v] at e ⊢
      cases e
  rw [if_neg u4] at e ⊢
  by_cases u5 : r < 6000
  · rw [if_pos u5] at e ⊢
    cases e
  rw [if_neg u5] at e ⊢
  by_cases u6 : r < 6100
  · rw [if_pos u6] at e ⊢
    by_cases v : r - 6000 < cn (C 5003 900)
    · rw [if_pos v] at e ⊢
      cases e
      exact ⟨_, rfl, rfl, fun j _ => trivial⟩
    · rw [if_neg v] at e ⊢
      cases e
  rw [if_neg u6] at e ⊢
  by_cases u7 : r < 6200
  · rw [if_pos u7] at e ⊢
    by_cases v : r - 6100 < cn (C 5003 900)
    · rw [if_pos v] at e ⊢
      cases e
      exact ⟨_, rfl, rfl, fun j _ => trivial⟩
    · rw [if_neg v] at e ⊢
      cases e
  rw [if_neg u7] at e ⊢
  by_cases u8 : r < 6300
  · rw [if_pos u8] at e ⊢
    by_cases v : r - 6200 < cn (C 5003 900)
    · rw [if_pos v] at e ⊢
      cases e
      exact ⟨_, rfl, rfl, fun j _ => trivial⟩
    · rw [if_neg v] at e ⊢
      cases e
  rw [if_neg u8] at e ⊢
  by_cases u9 : r < 6400
  · rw [if_pos u9] at e ⊢
    by_cases v : r - 6300 < cn (C 5003 900)
    · rw [if_pos v] at e ⊢
      cases e
      exact ⟨_, rfl, rfl, fun j _ => trivial⟩
    · rw [if_neg v] at e ⊢
      cases e
  rw [if_neg u9] at e ⊢
  by_cases u10 : r < 7000
  · rw [if_pos u10] at e ⊢
    cases e
  rw [if_neg u10] at e ⊢
  by_cases u11 : r < 8000
  · rw [if_pos u11] at e ⊢
    by_cases v : C 7000 20 = 0
    · rw [if_pos v] at e ⊢
      cases e
    · rw [if_neg v] at e ⊢
      exact lyB_in c e
  rw [if_neg u11] at e ⊢
  by_cases u12 : r < 9000
  · rw [if_pos u12] at e ⊢
    by_cases v : C 8000 20 = 0
    · rw [if_pos v] at e ⊢
      cases e
    · rw [if_neg v] at e ⊢
      exact lyB_in c e
  rw [if_neg u12] at e ⊢
  by_cases u13 : r < 9010
  · rw [if_pos u13] at e ⊢
    by_cases v : C 9000 20 = 0
    · rw [if_pos v] at e ⊢
      cases e
    · rw [if_neg v] at e ⊢
      split at e <;> first | (cases e; done) | (cases e; first | (exact ⟨_, rfl, rfl, fun j _ => trivial⟩) | (refine ⟨_, rfl, rfl, fun j => ?_⟩; (try dsimp only); (repeat' split) <;> first | exact id | exact fun _ => trivial))
  rw [if_neg u13] at e ⊢
  by_cases u14 : r < 10000
  · rw [if_pos u14] at e ⊢
    cases e
  rw [if_neg u14] at e ⊢
  by_cases u15 : r < 10200
  · rw [if_pos u15] at e ⊢
    by_cases v : (r - 10000) / 20 < cn (C 5002 900) ∧ (r - 10000) % 20 < cn (C (5030 + (r - 10000) / 20) 900) ∧ ¬ xx_small (C (5030 + (r - 10000) / 20) ((r - 10000) % 20))
    · rw [if_pos v] at e ⊢
      cases e
      exact ⟨_, rfl, rfl, fun j h => h⟩
    · rw [if_neg v] at e ⊢
      cases e
  rw [if_neg u15] at e ⊢
  by_cases u16 : r < 10300
  · rw [if_pos u16] at e ⊢
    by_cases v : (r - 10200) / 2 < cn (C 5004 900) ∧ r = nmS C ((r - 10200) / 2) ∧ ¬ xx_small (C 5004 ((r - 10200) / 2))
    · rw [if_pos v] at e ⊢
      cases e
      exact ⟨_, rfl, rfl, fun j h => h⟩
    · rw [if_neg v] at e ⊢
      cases e
  rw [if_neg u16] at e ⊢
  by_cases u17 : r < 20000
  · rw [if_pos u17] at e ⊢
    cases e
  rw [if_neg u17] at e ⊢
  by_cases u18 : r < 20010
  · rw [if_pos u18] at e ⊢
    by_cases v : C r 20 = 0
    · rw [if_pos v] at e ⊢
      cases e
    · rw [if_neg v] at e ⊢
      cases e
      exact ⟨_, rfl, rfl, fun j _ => trivial⟩
  rw [if_neg u18] at e ⊢
  cases e
/-- the same but for ints, and for what is made and dropped -/
def mem_eq (σ τ : XS9) : Prop := (∀ q i, q < 20000 → q ≠ 9000 → q ≠ 8000 → ctl τ q i = ctl σ q i) ∧ ((τ 9000 20 = 0 ∧ σ 9000 20 = 0) ∧ τ 8000 20 = 0 ∧ σ 8000 20 = 0) ∧ ∀ q, 20000 ≤ q → q < 20010 → τ q 20 = 0 ∧ σ q 20 = 0
theorem mem_eq.lq {z : Int64} {σ τ : XS9} (e : mem_eq σ τ) (r : Nat) (s : Nat → Int32) : lyQ z (ctl τ) r s = lyQ z (ctl σ) r s := by
  by_cases hr : 20000 ≤ r ∧ r < 20010
  · have f1 : ∀ μ : XS9, μ r 20 = 0 → lyQ z (ctl μ) r s = none := fun μ hc => by
      rw [lq_tmp hr, if_pos ((ctl_at (by rw [tmpCtl hr]; rfl)).trans hc)]
    rw [f1 τ (e.2.2 r hr.1 hr.2).1, f1 σ (e.2.2 r hr.1 hr.2).2]
  · by_cases h9 : 9000 ≤ r ∧ r < 9010
    · have f1 : ∀ C : XS9, C 9000 20 = 0 → lyQ z C r s = none := fun C hc => by
        unfold lyQ
        rw [if_neg (by omega), if_neg (by omega), if_neg (by omega), if_neg (by omega), if_neg (by omega), if_neg (by omega), if_neg (by omega), if_neg (by omega), if_neg (by omega), if_neg (by omega), if_neg (by omega), if_neg (by omega), if_neg (by omega), if_neg (show ¬ r < 9000 by omega), if_pos (by omega), if_pos hc]
      rw [f1 (ctl τ) e.2.1.1.1, f1 (ctl σ) e.2.1.1.2]
    · by_cases h8 : 8000 ≤ r ∧ r < 9000
      · have f1 : ∀ C : XS9, C 8000 20 = 0 → lyQ z C r s = none := fun C hc => by
          unfold lyQ
          rw [if_neg (by omega), if_neg (by omega), if_neg (by omega), if_neg (by omega), if_neg (by omega), if_neg (by omega), if_neg (by omega), if_neg (by omega), if_neg (by omega), if_neg (by omega), if_neg (by omega), if_neg (by omega), if_neg (by omega), if_pos (by omega), if_pos hc]
        rw [f1 (ctl τ) e.2.1.2.1, f1 (ctl σ) e.2.1.2.2]
      · rw [lyQ_ctl (C := ctl τ) (C' := fun q i => if q = 9000 ∨ q = 8000 then ctl τ q i else ctl σ q i) (fun q i hq => by
          by_cases e9 : q = 9000 ∨ q = 8000
          · rw [if_pos e9]
          · rw [if_neg e9]
            exact e.1 q i hq (by omega) (by omega)) (by omega)]
        rw [lyQ_9 (C' := fun q i => if q = 8000 then ctl τ q i else ctl σ q i) (fun q i hq => by
          by_cases e8 : q = 8000
          · rw [if_pos e8, if_pos (.inr e8)]
          · rw [if_neg e8, if_neg (by omega)]) (by omega)]
        exact lyQ_8 (fun q i hq => if_neg hq) (by omega)
theorem mem_eq.dom {z : Int64} {σ τ : XS9} {h : XH} (e : mem_eq σ τ) {r : Nat} (hr : (setM z σ h r).isSome = true) : (setM z τ h r).isSome = true := by
  unfold setM at *
  split
  · rename_i e1
    rw [if_pos e1] at hr
    rw [e.lq]
    cases e2 : lyQ z (ctl σ) r (σ r) with
    | none =>
      rw [e2] at hr
      cases e3 : lyQ z (ctl σ) r (τ r) with
      | none => exact hr
      | some c => rfl
    | some c =>
      obtain ⟨c', e3, -⟩ := lyQ_in (H := fun _ => none) (s' := τ r) c e2
      rw [e3]
      rfl
  · rename_i e1
    rw [if_neg e1] at hr
    exact hr
theorem mem_eq.cls {z : Int64} {σ τ : XS9} {h : XH} (e : mem_eq σ τ) (hcl : xx_cls (setM z σ h)) : xx_cls (setM z τ h) := by
  have mono : ∀ v, xx_in (setM z σ h) v → xx_in (setM z τ h) v := fun v hv => xx_in_of (fun a ha => e.dom ha) hv
  intro r c j hc hj
  have hout : setM z σ h r = some c → xx_in (setM z τ h) (c.2.2 j) := fun q => mono _ (hcl r c j q hj)
  by_cases e1 : 5000 ≤ r ∧ r < 20010
  · unfold setM at hc
    rw [if_pos e1, e.lq] at hc
    cases e2 : lyQ z (ctl σ) r (τ r) with
    | none =>
      rw [e2] at hc
      have e3 : lyQ z (ctl σ) r (σ r) = none := by
        cases e4 : lyQ z (ctl σ) r (σ r) with
        | none => rfl
        | some d =>
          obtain ⟨c', e5, -⟩ := lyQ_in (H := fun _ => none) (s' := τ r) d e4
          rw [e2] at e5
          cases e5
      exact hout ((setM_no e3).trans hc)
    | some d =>
      rw [e2] at hc
      cases hc
      obtain ⟨c', e3, e4, e5⟩ := lyQ_in (H := setM z τ h) (s' := σ r) c e2
      exact e5 j (mono _ (hcl r c' j (setM_of e1 e3) (by rw [e4]; exact hj)))
  · exact hout ((setM_out e1).trans ((setM_out e1).symm.trans hc))
theorem drop9 {z : Int64} {τ : XS9} {h : XH} (hfr : ∀ r, 5000 ≤ r → r < 20010 → h r = none) : xx_sub (setM z (u2 τ 9000 20 0) h) (setM z τ h) := by
  intro r c hc
  by_cases e1 : 5000 ≤ r ∧ r < 20010
  · have hn := hfr r e1.1 e1.2
    unfold setM at hc ⊢
    rw [if_pos e1] at hc ⊢
    by_cases h9 : r < 9000 ∨ 9010 ≤ r
    · rw [u2_ne (by omega), lyQ_9 (C := ctl (u2 τ 9000 20 0)) (C' := ctl τ) (fun q i hq => by unfold ctl; rw [u2_ne hq]) h9] at hc
      exact hc
    · have f1 : lyQ z (ctl (u2 τ 9000 20 0)) r (u2 τ 9000 20 0 r) = none := by
        have e9 : ctl (u2 τ 9000 20 0) 9000 20 = 0 := rfl
        unfold lyQ
        rw [if_neg (by omega), if_neg (by omega), if_neg (by omega), if_neg (by omega), if_neg (by omega), if_neg (by omega), if_neg (by omega), if_neg (by omega), if_neg (by omega), if_neg (by omega), if_neg (by omega), if_neg (by omega), if_neg (by omega), if_neg (show ¬ r < 9000 by omega), if_pos (by omega), if_pos e9]
      rw [f1, hn] at hc
      cases hc
  · rw [setM_out e1] at hc ⊢
    exact hc
theorem dropT {z : Int64} {τ : XS9} {h : XH} {q : Nat} (hq : 20000 ≤ q ∧ q < 20010) (hfr : ∀ r, 5000 ≤ r → r < 20010 → h r = none) : xx_sub (setM z (u2 τ q 20 0) h) (setM z τ h) := by
  intro r c hc
  by_cases e1 : 5000 ≤ r ∧ r < 20010
  · have hn := hfr r e1.1 e1.2
    unfold setM at hc ⊢
    rw [if_pos e1] at hc ⊢
    have ho : ∀ a i, a ≠ q → ctl (u2 τ q 20 0) a i = ctl τ a i := fun a i hq => by unfold ctl; rw [u2_ne hq]
    by_cases h9 : r = q
    · have f1 : lyQ z (ctl (u2 τ q 20 0)) r (u2 τ q 20 0 r) = none := by
        rw [h9, lq_tmp hq, if_pos ((ctl_at (by rw [tmpCtl hq]; rfl)).trans (by rw [u2_eq]; rfl))]
      rw [f1, hn] at hc
      cases hc
    · rw [u2_ne h9, lyQ_ctl (C := ctl (u2 τ q 20 0)) (C' := ctl τ) (fun a i ha => ho a i (by omega)) (.inr (.inr fun i => ho r i h9))] at hc
      exact hc
  · rw [setM_out e1] at hc ⊢
    exact hc
theorem xx_sub.trans {a b c : XH} (h1 : xx_sub a b) (h2 : xx_sub b c) : xx_sub a c := fun r d e => h2 r d (h1 r d e)
theorem mem_eq.int {σ τ : XS9} {r i : Nat} {x : Int32} (e : mem_eq σ τ) (h : isCtl r i = false) : mem_eq σ (u2 τ r i x) := by
  refine ⟨fun q j h1 h2 h3 => by rw [ctl_u2 h]; exact e.1 q j h1 h2 h3, ⟨⟨?_, e.2.1.1.2⟩, ?_, e.2.1.2.2⟩, fun q h1 h2 => ⟨?_, (e.2.2 q h1 h2).2⟩⟩
  · have := e.2.1.1.1
    by_cases e9 : r = 9000
    · subst e9
      rw [u2_oi (by intro w; subst w; cases h)]
      exact this
    · rw [u2_ne (by omega)]
      exact this
  · have := e.2.1.2.1
    by_cases e9 : r = 8000
    · subst e9
      rw [u2_oi (by intro w; subst w; cases h)]
      exact this
    · rw [u2_ne (by omega)]
      exact this
  · have h3 := (e.2.2 q h1 h2).1
    by_cases e9 : q = r
    · subst e9
      rw [u2_oi (by intro w; subst w; rw [tmpCtl ⟨h1, h2⟩] at h; cases h)]
      exact h3
    · rw [u2_ne e9]
      exact h3
