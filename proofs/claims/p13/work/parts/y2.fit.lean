/-! ===== digits of a code, region by region: what fits, what is taken ===== -/
def fOK (x : Int32) (q t u : Nat → Nat) (cap g r : Nat) : Prop := t r + dgt x r ≤ q r ∧ (g ≠ 0 → u r + dgt x r ≤ cap)
section
variable {σ s : XS9} {x y : Int32} {R i k cap : Nat} {gr q t u : Nat → Nat} {D : Nat → Nat → Nat → Nat} {c : Nat → Nat}
theorem div6z {n : Nat} (hn : n ≤ 7775) : nI n / 6 = nI (n / 6) := nI_div (m := n) (k := 6) (by omega) (by decide) (by decide)
theorem pow6s {n k : Nat} : n / 6 ^ k / 6 = n / 6 ^ (k + 1) := by rw [Nat.div_div_eq_div_mul, ← Nat.pow_succ]
theorem at6 (hx : bd 7775 x) : (nI (cn x / 6 ^ k)) - (nI (cn x / 6 ^ k)) / 6 * 6 = nI (dgt x k) ∧ (nI (cn x / 6 ^ k)) / 6 = nI (cn x / 6 ^ (k + 1)) := by
  have h2 := hx.2
  have l : cn x / 6 ^ k ≤ cn x := Nat.div_le_self _ _
  refine ⟨mod6x (by omega), ?_⟩
  rw [div6z (by omega), pow6s]
theorem fits_go (hx : bd 7775 x) (ht : ∀ r, r < R → σ 1010 r = nI (q r) ∧ q r ≤ 5 ∧ σ 1044 r = nI (t r) ∧ t r ≤ q r) (hu : gr i ≠ 0 → ∀ r, r < R → σ (1121 + gr i) r = nI (u r) ∧ u r ≤ cap) (hcap : σ 1001 10 = nI cap) (hc5 : cap ≤ 5) (hg : gr i < 4) : ∀ (n k : Nat), k + n = R → (∀ r, r < k → fOK x q t u cap (gr i) r) → ((match xitR (fun i19 (s19 : Int32) => (if ((σ 1010 i19) - (σ 1044 i19)) < (s19 - s19 / 6 * 6) then (.inr 0 : Int32 ⊕ Int32) else (if (nI (gr i)) = 0 then .inl (s19 / 6) else (if (s19 - s19 / 6 * 6) ≤ ((σ 1001 10) - (σ (1121 + gr i) i19)) then .inl (s19 / 6) else .inr 0)))) n k (nI (cn x / 6 ^ k)) with | .inl _ => (1 : Int32) | .inr r19 => r19) = 0 ↔ ¬ ∀ r, r < R → fOK x q t u cap (gr i) r)
  | 0, k, e, h => by
    obtain rfl : k = R := by omega
    exact ⟨fun z => absurd (show (1 : Int32) = 0 from z) (by decide), fun z => absurd h z⟩
  | n + 1, k, e, h => by
    have hk : k < R := by omega
    obtain ⟨a1, a2, a3, a4⟩ := ht k hk
    obtain ⟨e1, e2⟩ := at6 (k := k) hx
    have d5 := dgt_le (c := x) (r := k)
    unfold xitR
    (try dsimp only)
    rw [e1, e2, a1, a3, nI_minus a4, hcap]
    by_cases c1 : q k - t k < dgt x k
    · rw [if_pos ((nlt (by omega) (by omega)).mpr c1)]
      exact ⟨fun _ z => by have := (z k hk).1; omega, fun _ => rfl⟩
    · rw [if_neg (fun z => c1 ((nlt (by omega) (by omega)).mp z))]
      have nx : ∀ (w : fOK x q t u cap (gr i) k), ((match xitR (fun i19 (s19 : Int32) => (if ((σ 1010 i19) - (σ 1044 i19)) < (s19 - s19 / 6 * 6) then (.inr 0 : Int32 ⊕ Int32) else (if (nI (gr i)) = 0 then .inl (s19 / 6) else (if (s19 - s19 / 6 * 6) ≤ ((σ 1001 10) - (σ (1121 + gr i) i19)) then .inl (s19 / 6) else .inr 0)))) n (k + 1) (nI (cn x / 6 ^ (k + 1))) with | .inl _ => (1 : Int32) | .inr r19 => r19) = 0 ↔ ¬ ∀ r, r < R → fOK x q t u cap (gr i) r) := fun w => fits_go hx ht hu hcap hc5 hg n (k + 1) (by omega) (fun r hr => by
        by_cases e3 : r = k
        · rw [e3]
          exact w
        · exact h r (by omega))
      rw [hcap] at nx
      by_cases c2 : gr i = 0
      · rw [if_pos (show nI (gr i) = 0 by rw [c2]; rfl)]
        exact nx ⟨by omega, fun z => absurd c2 z⟩
      · obtain ⟨b1, b2⟩ := hu c2 k hk
        rw [if_neg (show ¬ nI (gr i) = 0 from fun z => c2 (nI_inj (a := gr i) (b := 0) (by omega) (by decide) z)), b1, nI_minus b2]
        by_cases c3 : dgt x k ≤ cap - u k
        · rw [if_pos ((nle (by omega) (by omega)).mpr c3)]
          exact nx ⟨by omega, fun _ => by omega⟩
        · rw [if_neg (fun z => c3 ((nle (by omega) (by omega)).mp z))]
          exact ⟨fun _ z => by have := (z k hk).2 c2; omega, fun _ => rfl⟩
theorem fits_eq (hx : bd 7775 x) (ht : ∀ r, r < R → σ 1010 r = nI (q r) ∧ q r ≤ 5 ∧ σ 1044 r = nI (t r) ∧ t r ≤ q r) (hu : gr i ≠ 0 → ∀ r, r < R → σ (1121 + gr i) r = nI (u r) ∧ u r ≤ cap) (hcap : σ 1001 10 = nI cap) (hc5 : cap ≤ 5) (hg : gr i < 4) : f_fits σ i x R gr = 0 ↔ ¬ ∀ r, r < R → fOK x q t u cap (gr i) r := by
  have := fits_go hx ht hu hcap hc5 hg R 0 (Nat.zero_add _) (fun r hr => absurd hr (by omega))
  rw [Nat.pow_zero, Nat.div_one, ← hx.1] at this
  exact this
/-! what is taken moves -/
theorem moved (hx : bd 7775 x) (hg : gr i < 4) : (∀ r, r < R → g_moveTaken σ i x y R gr 1044 r = σ 1044 r + nI (dgt x r) * y ∧ g_moveTaken σ i x y R gr (1121 + gr i) r = σ (1121 + gr i) r + nI (dgt x r) * y) ∧ ∀ a, a ≠ 1044 → a ≠ 1121 + gr i → g_moveTaken σ i x y R gr a = σ a := by
  refine ⟨?_, fun a h1 h2 => fr_moveTaken' ⟨h1, h2⟩⟩
  have H : (fun (k : Nat) (p : XS9 × Int32) => p.2 = nI (cn x / 6 ^ k) ∧ (∀ r, r < k → p.1 1044 r = σ 1044 r + nI (dgt x r) * y ∧ p.1 (1121 + gr i) r = σ (1121 + gr i) r + nI (dgt x r) * y) ∧ ∀ r, k ≤ r → p.1 1044 r = σ 1044 r ∧ p.1 (1121 + gr i) r = σ (1121 + gr i) r) R (x_moveTaken_19 σ i x y R gr (σ, x)) := by
    unfold x_moveTaken_19
    refine xit_ind (fun (k : Nat) (p : XS9 × Int32) => p.2 = nI (cn x / 6 ^ k) ∧ (∀ r, r < k → p.1 1044 r = σ 1044 r + nI (dgt x r) * y ∧ p.1 (1121 + gr i) r = σ (1121 + gr i) r + nI (dgt x r) * y) ∧ ∀ r, k ≤ r → p.1 1044 r = σ 1044 r ∧ p.1 (1121 + gr i) r = σ (1121 + gr i) r) (N := R) (fun k p hk hP => ?_) R 0 (σ, x) (Nat.zero_add _) ⟨by rw [Nat.pow_zero, Nat.div_one]; exact hx.1, fun r hr => absurd hr (by omega), fun r _ => ⟨rfl, rfl⟩⟩
    obtain ⟨p1, p2, p3⟩ := hP
    obtain ⟨e1, e2⟩ := at6 (k := k) hx
    (try dsimp only)
    rw [p1, e1, e2]
    refine ⟨rfl, fun r hr => ?_, fun r hr => ?_⟩
    · by_cases e : r = k
      · subst e
        rw [u2_at, u2_ne (show (1044 : Nat) ≠ 1121 + gr i by omega), u2_at, (p3 r (Nat.le_refl _)).1, (p3 r (Nat.le_refl _)).2]
        exact ⟨rfl, rfl⟩
      · rw [u2_oi e, u2_ne (show (1044 : Nat) ≠ 1121 + gr i by omega), u2_oi e, u2_ne (show 1121 + gr i ≠ 1044 by omega)]
        exact p2 r (by omega)
    · rw [u2_oi (show r ≠ k by omega), u2_ne (show (1044 : Nat) ≠ 1121 + gr i by omega), u2_oi (show r ≠ k by omega), u2_ne (show 1121 + gr i ≠ 1044 by omega)]
      exact p3 r (by omega)
  exact H.2.1
/-- the search's own rows are those of a choice -/
def SCc (D : Nat → Nat → Nat → Nat) (gr : Nat → Nat) (R : Nat) (c : Nat → Nat) (s : XS9) : Prop := (∀ j, j < 6 → s 1043 j = rwc (c j)) ∧ (∀ r, r < R → s 1044 r = nI (cTk D r c)) ∧ ∀ g, g < 4 → ∀ r, r < R → s (1121 + g) r = nI (cTg D gr g r c)
theorem SCc.of (h : SCc D gr R c σ) (e : ∀ a, (a = 1043 ∨ a = 1044 ∨ (1121 ≤ a ∧ a ≤ 1124)) → s a = σ a) : SCc D gr R c s := ⟨fun j hj => by rw [e _ (by omega)]; exact h.1 j hj, fun r hr => by rw [e _ (by omega)]; exact h.2.1 r hr, fun g hg r hr => by rw [e _ (by omega)]; exact h.2.2 g hg r hr⟩
theorem SCc.take (h : SCc D gr R c s) (hi : i < 6) (h0 : c i = 0) (hx : bd 7775 (s (1022 + i) k)) (hD : ∀ r, r < R → D i k r = dgt (s (1022 + i) k) r) (hg : gr i < 4) : SCc D gr R (cUp c i (k + 1)) (g_take s i k R gr) := by
  obtain ⟨m1, m2⟩ := moved (σ := u2 s 1043 i (nI k)) (R := R) (y := 1) hx hg
  unfold g_take
  refine ⟨fun j hj => ?_, fun r hr => ?_, fun g hg4 r hr => ?_⟩
  · rw [m2 1043 (by decide) (by omega)]
    by_cases e : j = i
    · rw [e, u2_at, cUp_at]
      unfold rwc
      rw [if_neg (by omega), Nat.add_sub_cancel]
    · rw [u2_oi e, cUp_ne e]
      exact h.1 j hj
  · rw [(m1 r hr).1, u2_ne (by decide), h.2.1 r hr, cTk_up hi h0, hD r hr, Int32.mul_one, nI_plus]
  · by_cases e : gr i = g
    · rw [← e, (m1 r hr).2, u2_ne (by omega), h.2.2 (gr i) hg r hr, cTg_up hi h0, if_pos rfl, hD r hr, Int32.mul_one, nI_plus]
    · rw [m2 _ (by omega) (by omega), u2_ne (by omega), h.2.2 g hg4 r hr, cTg_up hi h0, if_neg e, Nat.add_zero]
theorem back1 {a d : Nat} : nI (a + d) + nI d * (-1) = nI a := by rw [Int32.mul_comm, Int32.neg_mul, Int32.one_mul, ← Int32.sub_eq_add_neg, nI_minus (by omega), Nat.add_sub_cancel]
theorem SCc.back (h : SCc D gr R (cUp c i (k + 1)) s) (hi : i < 6) (h0 : c i = 0) (hx : bd 7775 (s (1022 + i) k)) (hD : ∀ r, r < R → D i k r = dgt (s (1022 + i) k) r) (hg : gr i < 4) : SCc D gr R c (g_giveBack s i k R gr) := by
  obtain ⟨m1, m2⟩ := moved (σ := u2 s 1043 i (-1)) (R := R) (y := -1) hx hg
  unfold g_giveBack
  refine ⟨fun j hj => ?_, fun r hr => ?_, fun g hg4 r hr => ?_⟩
  · rw [m2 1043 (by decide) (by omega)]
    by_cases e : j = i
    · rw [e, u2_at, h0]
      rfl
    · rw [u2_oi e, h.1 j hj, cUp_ne e]
  · rw [(m1 r hr).1, u2_ne (by decide), h.2.1 r hr, cTk_up hi h0, hD r hr, back1]
  · by_cases e : gr i = g
    · rw [← e, (m1 r hr).2, u2_ne (by omega), h.2.2 (gr i) hg r hr, cTg_up hi h0, if_pos rfl, hD r hr, back1]
    · rw [m2 _ (by omega) (by omega), u2_ne (by omega), h.2.2 g hg4 r hr, cTg_up hi h0, if_neg e, Nat.add_zero]
/-! the reference's -/
theorem can_go {n : Nat} (hn : n ≤ 7775) (hR5 : R ≤ 5) (hnR : n < 6 ^ R) (hx : dgt x = fun r => n / 6 ^ r % 6) (ht : ∀ r, r < R → σ 9004 r = nI (q r - t r) ∧ q r ≤ 5 ∧ t r ≤ q r) {g : Nat} (hu : g ≠ 0 → ∀ r, r < R → σ (9005) (5 * g + r) = nI (u r) ∧ u r ≤ cap) (hcap : σ 5000 2 = nI cap) (hc5 : cap ≤ 5) (hg : g < 4) : ∀ (f k : Nat), k + f = 5 → (∀ r, r < k → r < R → fOK x q t u cap g r) → ((match xitR (fun i5 (s5 : Nat) => (if (nI s5) ≤ 0 then (.inr 1 : Nat ⊕ Int32) else (if (σ 9004 i5) < (nI (s5 % 6)) then .inr 0 else (if (nI g) ≤ 0 then .inl (s5 / 6) else (if (nI (s5 % 6)) ≤ 0 then .inl (s5 / 6) else (if ((σ 9005 (5 * g + i5)) + (nI (s5 % 6))) ≤ (σ 5000 2) then .inl (s5 / 6) else .inr 0)))))) f k (n / 6 ^ k) with | .inl _ => (1 : Int32) | .inr r5 => r5) = 0 ↔ ¬ ∀ r, r < R → fOK x q t u cap g r)
  | 0, k, e, h => ⟨fun z => absurd (show (1 : Int32) = 0 from z) (by decide), fun z => absurd (fun r hr => h r (by omega) hr) z⟩
  | f + 1, k, e, h => by
    have l : n / 6 ^ k ≤ n := Nat.div_le_self _ _
    have m6 : n / 6 ^ k % 6 < 6 := Nat.mod_lt _ (by decide)
    unfold xitR
    (try dsimp only)
    by_cases c0 : n / 6 ^ k = 0
    · rw [if_pos ((nI_le0 (by omega)).mpr c0)]
      refine ⟨fun z => absurd (show (1 : Int32) = 0 from z) (by decide), fun z => absurd (fun r hr => ?_) z⟩
      rcases Nat.lt_or_ge r k with w | w
      · exact h r w hr
      · have z0 : dgt x r = 0 := by
          rw [hx]
          show n / 6 ^ r % 6 = 0
          have p : 6 ^ r = 6 ^ k * 6 ^ (r - k) := by rw [← Nat.pow_add]; congr 1; omega
          rw [p, ← Nat.div_div_eq_div_mul, c0, Nat.zero_div]
        obtain ⟨a1, a2, a3⟩ := ht r hr
        refine ⟨by omega, fun hg0 => ?_⟩
        have := (hu hg0 r hr).2
        omega
    · have hk : k < R := by
        rcases Nat.lt_or_ge k R with w | w
        · exact w
        · exact absurd (Nat.div_eq_of_lt (Nat.lt_of_lt_of_le hnR (Nat.pow_le_pow_right (by decide) w))) c0
      obtain ⟨a1, a2, a3⟩ := ht k hk
      have ed : dgt x k = n / 6 ^ k % 6 := congrFun hx k
      rw [if_neg (fun z => c0 ((nI_le0 (by omega)).mp z)), a1, hcap, ← ed]
      rw [← ed] at m6
      have nx : ∀ (w : fOK x q t u cap g k), ((match xitR (fun i5 (s5 : Nat) => (if (nI s5) ≤ 0 then (.inr 1 : Nat ⊕ Int32) else (if (σ 9004 i5) < (nI (s5 % 6)) then .inr 0 else (if (nI g) ≤ 0 then .inl (s5 / 6) else (if (nI (s5 % 6)) ≤ 0 then .inl (s5 / 6) else (if ((σ 9005 (5 * g + i5)) + (nI (s5 % 6))) ≤ (σ 5000 2) then .inl (s5 / 6) else .inr 0)))))) f (k + 1) (n / 6 ^ (k + 1)) with | .inl _ => (1 : Int32) | .inr r5 => r5) = 0 ↔ ¬ ∀ r, r < R → fOK x q t u cap g r) := fun w => can_go hn hR5 hnR hx ht hu hcap hc5 hg f (k + 1) (by omega) (fun r hr hR => by
        by_cases e3 : r = k
        · rw [e3]
          exact w
        · exact h r (by omega) hR)
      rw [hcap] at nx
      rw [pow6s]
      by_cases c1 : q k - t k < dgt x k
      · rw [if_pos ((nlt (by omega) (by omega)).mpr c1)]
        exact ⟨fun _ z => by have := (z k hk).1; omega, fun _ => rfl⟩
      · rw [if_neg (fun z => c1 ((nlt (by omega) (by omega)).mp z))]
        by_cases c2 : g = 0
        · rw [if_pos ((nI_le0 (by omega)).mpr c2)]
          exact nx ⟨by omega, fun z => absurd c2 z⟩
        · obtain ⟨b1, b2⟩ := hu c2 k hk
          rw [if_neg (fun z => c2 ((nI_le0 (by omega)).mp z)), b1, nI_plus]
          by_cases c4 : dgt x k = 0
          · rw [if_pos ((nI_le0 (by omega)).mpr c4)]
            exact nx ⟨by omega, fun _ => by omega⟩
          · rw [if_neg (fun z => c4 ((nI_le0 (by omega)).mp z))]
            by_cases c3 : u k + dgt x k ≤ cap
            · rw [if_pos ((nle (by omega) (by omega)).mpr c3)]
              exact nx ⟨by omega, fun _ => c3⟩
            · rw [if_neg (fun z => c3 ((nle (by omega) (by omega)).mp z))]
              exact ⟨fun _ z => by have := (z k hk).2 c2; omega, fun _ => rfl⟩
theorem can_eq {j n g : Nat} (hn : n ≤ 7775) (hR5 : R ≤ 5) (hnR : n < 6 ^ R) (hx : dgt x = fun r => n / 6 ^ r % 6) (ht : ∀ r, r < R → σ 9004 r = nI (q r - t r) ∧ q r ≤ 5 ∧ t r ≤ q r) (hu : g ≠ 0 → ∀ r, r < R → σ (9005) (5 * g + r) = nI (u r) ∧ u r ≤ cap) (hcap : σ 5000 2 = nI cap) (hc5 : cap ≤ 5) (hg : g < 4) : f_CcanTake σ j n g = 0 ↔ ¬ ∀ r, r < R → fOK x q t u cap g r := by
  have := can_go hn hR5 hnR hx ht hu hcap hc5 hg 5 0 rfl (fun r hr => absurd hr (by omega))
  rw [Nat.pow_zero, Nat.div_one] at this
  exact this
theorem took {j n g : Nat} (hn : n ≤ 7775) : (∀ r, r < 5 → g_Ctake σ j n y g 9004 r = σ 9004 r - y * nI (n / 6 ^ r % 6) ∧ g_Ctake σ j n y g 9005 (5 * g + r) = σ 9005 (5 * g + r) + y * nI (n / 6 ^ r % 6)) ∧ ∀ z, (z < 5 * g ∨ 5 * g + 5 ≤ z) → g_Ctake σ j n y g 9005 z = σ 9005 z := by
  unfold g_Ctake x_Ctake_6
  have H := xitB_fin (step := fun i6 (s6 : XS9 × Nat) => (if (nI (s6.2)) ≤ 0 then (.inr (s6.1, s6.2) : (XS9 × Nat) ⊕ (XS9 × Nat)) else .inl (u2 (u2 s6.1 9004 i6 ((s6.1 9004 i6) - (y * (nI (s6.2 % 6))))) 9005 (5 * g + i6) ((s6.1 9005 (5 * g + i6)) + (y * (nI (s6.2 % 6)))), s6.2 / 6)))
    (fun k p => p.2 = n / 6 ^ k ∧ (∀ r, r < k → p.1 9004 r = σ 9004 r - y * nI (n / 6 ^ r % 6) ∧ p.1 9005 (5 * g + r) = σ 9005 (5 * g + r) + y * nI (n / 6 ^ r % 6)) ∧ (∀ r, k ≤ r → p.1 9004 r = σ 9004 r ∧ p.1 9005 (5 * g + r) = σ 9005 (5 * g + r)) ∧ ∀ z, (z < 5 * g ∨ 5 * g + 5 ≤ z) → p.1 9005 z = σ 9005 z)
    (fun p => (∀ r, r < 5 → p.1 9004 r = σ 9004 r - y * nI (n / 6 ^ r % 6) ∧ p.1 9005 (5 * g + r) = σ 9005 (5 * g + r) + y * nI (n / 6 ^ r % 6)) ∧ ∀ z, (z < 5 * g ∨ 5 * g + 5 ≤ z) → p.1 9005 z = σ 9005 z) (N := 5) (fun k p hk hP => ?_) (fun p hP => ⟨hP.2.1, hP.2.2.2⟩) 5 0 (σ, n) rfl ⟨by rw [Nat.pow_zero, Nat.div_one], fun r hr => absurd hr (by omega), fun r _ => ⟨rfl, rfl⟩, fun _ _ => rfl⟩
  · exact H
  · obtain ⟨p1, p2, p3, p4⟩ := hP
    have l : n / 6 ^ k ≤ n := Nat.div_le_self _ _
    (try dsimp only)
    rw [p1]
    by_cases c0 : n / 6 ^ k = 0
    · rw [if_pos ((nI_le0 (by omega)).mpr c0)]
      refine ⟨fun s' e => (by cases e), fun s' e => ?_⟩
      rw [← Sum.inr.inj e]
      refine ⟨fun r hr => ?_, p4⟩
      rcases Nat.lt_or_ge r k with w | w
      · exact p2 r w
      · have z0 : n / 6 ^ r % 6 = 0 := by
          have p : 6 ^ r = 6 ^ k * 6 ^ (r - k) := by rw [← Nat.pow_add]; congr 1; omega
          rw [p, ← Nat.div_div_eq_div_mul, c0, Nat.zero_div]
        rw [z0, show y * nI 0 = 0 from Int32.mul_zero, Int32.sub_zero, Int32.add_zero]
        exact p3 r w
    · rw [if_neg (fun z => c0 ((nI_le0 (by omega)).mp z))]
      refine ⟨fun s' e => ?_, fun s' e => (by cases e)⟩
      rw [← Sum.inl.inj e]
      refine ⟨pow6s, fun r hr => ?_, fun r hr => ?_, fun z hz => ?_⟩
      · (try dsimp only)
        by_cases e : r = k
        · subst e
          rw [u2_at, u2_ne (show (9004 : Nat) ≠ 9005 by decide), u2_at, (p3 r (Nat.le_refl _)).1, (p3 r (Nat.le_refl _)).2]
          exact ⟨rfl, rfl⟩
        · rw [u2_oi (show 5 * g + r ≠ 5 * g + k by omega), u2_ne (show (9004 : Nat) ≠ 9005 by decide), u2_oi e, u2_ne (show (9005 : Nat) ≠ 9004 by decide)]
          exact p2 r (by omega)
      · (try dsimp only)
        rw [u2_oi (show 5 * g + r ≠ 5 * g + k by omega), u2_ne (show (9004 : Nat) ≠ 9005 by decide), u2_oi (show r ≠ k by omega), u2_ne (show (9005 : Nat) ≠ 9004 by decide)]
        exact p3 r (by omega)
      · (try dsimp only)
        rw [u2_oi (show z ≠ 5 * g + k by omega), u2_ne (show (9005 : Nat) ≠ 9004 by decide)]
        exact p4 z hz
end
