/-! ===== which block is whose, alike on both sides ===== -/
def cuw (w : Nat → Nat) (t k : Nat) : Nat := nsum (fun i => w ((t + i) % 6)) k
def hvw (w : Nat → Nat) (t b : Nat) : Nat → Int32
  | 0 => -1
  | k + 1 => if cuw w t k ≤ b ∧ b < cuw w t (k + 1) then nI ((t + k) % 6) else hvw w t b k
def hro (w : Nat → Nat) (sp t b : Nat) : Int32 := if b < sp then hvw w t b 6 else -1
def cbb (f g : Nat → Int32) (b : Nat) : Nat := if f b = -1 ∨ g b = -1 ∨ f b = g b then 0 else 1
def cbn (f g : Nat → Int32) : Nat := nsum (cbb f g) 5
section
variable {σ τ s : XS9} {w w2 : Nat → Nat} {t b k r : Nat} {sp : Nat → Nat} {f g : Nat → Int32}
theorem cuw_s : cuw w t (k + 1) = cuw w t k + w ((t + k) % 6) := rfl
theorem cuw_le {m : Nat} (h : k ≤ m) : cuw w t k ≤ cuw w t m := nsum_lej h
theorem hvw_out : ∀ k, cuw w t k ≤ b → hvw w t b k = -1
  | 0, _ => rfl
  | k + 1, h => by
    have l : cuw w t k ≤ cuw w t (k + 1) := cuw_le (by omega)
    show (if cuw w t k ≤ b ∧ b < cuw w t (k + 1) then nI ((t + k) % 6) else hvw w t b k) = -1
    rw [if_neg (by omega)]
    exact hvw_out k (by omega)
theorem hvw_in (h1 : cuw w t k ≤ b) (h2 : b < cuw w t (k + 1)) : ∀ n, hvw w t b (k + 1 + n) = nI ((t + k) % 6)
  | 0 => if_pos ⟨h1, h2⟩
  | n + 1 => by
    have l : cuw w t (k + 1) ≤ cuw w t (k + 1 + n) := cuw_le (by omega)
    show (if cuw w t (k + 1 + n) ≤ b ∧ b < cuw w t (k + 1 + n + 1) then nI ((t + (k + 1 + n)) % 6) else hvw w t b (k + 1 + n)) = _
    rw [if_neg (by omega)]
    exact hvw_in h1 h2 n
theorem rng_at {q b0 : Nat} {x : Int32} {j : Nat} : ∀ (n i : Nat) (s : XS9), xit (fun i62 (s62 : XS9) => u2 s62 q (b0 + i62) x) n i s q j = if b0 + i ≤ j ∧ j < b0 + i + n then x else s q j
  | 0, i, s => (if_neg (by omega)).symm
  | n + 1, i, s => by
    refine (rng_at n (i + 1) (u2 s q (b0 + i) x)).trans ?_
    by_cases e : j = b0 + i
    · rw [if_neg (by omega), if_pos (by omega), e, u2_at]
    · rw [u2_oi e]
      by_cases e2 : b0 + i ≤ j ∧ j < b0 + i + (n + 1)
      · rw [if_pos e2, if_pos (by omega)]
      · rw [if_neg e2, if_neg (by omega)]
theorem rng_ne {q b0 q2 : Nat} {x : Int32} (h : q2 ≠ q) {n i : Nat} {s : XS9} : xit (fun i62 (s62 : XS9) => u2 s62 q (b0 + i62) x) n i s q2 = s q2 := xit_keep (fun s : XS9 => s q2) (fun i s => u2_ne h) _ _ _
theorem cbw_row {s2 : XS9} {j : Nat} (e1 : s2 1040 = s 1040) (e2 : s2 (1022 + j) = s (1022 + j)) : cbw s2 j r = cbw s j r := by
  unfold cbw f_blocksWon
  rw [e1, e2]
/-- the program's row for a turn -/
theorem give_c (hr : r < 5) (hw : ∀ j, j < 6 → cbw σ j r = w j) (hsp : sp r ≤ 5) : (∀ b, b < 5 → g_giveByTurn σ r t sp (1141 + r) b = hro w (sp r) t b) ∧ ∀ q, q ≠ 1141 + r → g_giveByTurn σ r t sp q = σ q := by
  refine ⟨?_, fun q hq => fr_giveByTurn hq⟩
  have H := xit_ind (step := fun i20 (s20 : XS9 × Nat) => ((x_giveByTurn_62 σ r t sp i20 s20 s20.1), min (s20.2 + cbw s20.1 ((t + i20) % 6) r) (sp r))) (fun k v => (∀ b, b < 5 → v.1 (1141 + r) b = if b < sp r then hvw w t b k else -1) ∧ v.2 = min (cuw w t k) (sp r) ∧ ∀ q, q ≠ 1141 + r → v.1 q = σ q) (N := 6) (fun k v hk hP => ?_) 6 0 (g_fill σ (1141 + r) 5 (-1), 0) rfl ⟨fun b hb => ?_, by show 0 = min 0 (sp r); omega, fun q hq => fr_fill hq⟩
  · exact H.1
  · obtain ⟨v1, v2, v3⟩ := hP
    have e : cbw v.1 ((t + k) % 6) r = w ((t + k) % 6) := by
      have m6 := Nat.mod_lt (t + k) (show 0 < 6 by decide)
      rw [cbw_row (v3 1040 (by omega)) (v3 (1022 + (t + k) % 6) (by omega))]
      exact hw _ m6
    (try dsimp only)
    unfold x_giveByTurn_62
    rw [e, v2]
    refine ⟨fun b hb => ?_, ?_, fun q hq => (rng_ne hq).trans (v3 q hq)⟩
    · rw [rng_at, v1 b hb]
      show _ = if b < sp r then (if cuw w t k ≤ b ∧ b < cuw w t (k + 1) then nI ((t + k) % 6) else hvw w t b k) else -1
      rw [cuw_s]
      by_cases c0 : b < sp r
      · rw [if_pos c0, if_pos c0]
        by_cases c1 : cuw w t k ≤ b ∧ b < cuw w t k + w ((t + k) % 6)
        · rw [if_pos c1, if_pos (by omega)]
        · rw [if_neg c1, if_neg (by omega)]
      · rw [if_neg c0, if_neg c0, if_neg (by omega)]
    · rw [cuw_s]
      omega
  · show g_fill σ (1141 + r) 5 (-1) (1141 + r) b = if b < sp r then hvw w t b 0 else -1
    rw [fillz hb]
    split <;> rfl
/-- the reference's holder -/
theorem holds_m {B : Nat} (hb : b < 1000) (h5 : ∀ j, j < 6 → w j ≤ 5) (hw : ∀ j, j < 6 → (B ≤ j → w j = 0) ∧ (j < B → τ 5005 j = -1 → w j = 0) ∧ (j < B → τ 5005 j ≠ -1 → f_of (f_Bcode τ j (cn (τ 5005 j))) r = nI (w j))) (hB : B < 1000) : f_Mholds τ r (nI b) t B = hvw w t b 6 := by
  have H : ∀ (n i : Nat), i + n = 6 → cuw w t i ≤ b → (match xitR (fun i6 (s6 : Int32) => (if (nI B) ≤ (nI ((i6 + t) % 6)) then (if 0 ≤ s6 then (.inl (s6 - 0) : Int32 ⊕ Int32) else .inr (nI ((i6 + t) % 6))) else (if (τ 5005 ((i6 + t) % 6)) = (-1) then (if 0 ≤ s6 then .inl (s6 - 0) else .inr (nI ((i6 + t) % 6))) else (if (f_of (f_Bcode τ ((i6 + t) % 6) (cn (τ 5005 ((i6 + t) % 6)))) r) ≤ s6 then .inl (s6 - (f_of (f_Bcode τ ((i6 + t) % 6) (cn (τ 5005 ((i6 + t) % 6)))) r)) else .inr (nI ((i6 + t) % 6)))))) n i (nI (b - cuw w t i)) with | .inl _ => (-1 : Int32) | .inr r6 => r6) = hvw w t b 6 := by
    intro n
    induction n with
    | zero =>
      intro i e h
      obtain rfl : i = 6 := by omega
      exact (hvw_out 6 h).symm
    | succ n ih =>
      intro i e h
      have m6 := Nat.mod_lt (i + t) (show 0 < 6 by decide)
      obtain ⟨w1, w2, w3⟩ := hw _ m6
      have w5 := h5 _ m6
      have cs : cuw w t (i + 1) = cuw w t i + w ((i + t) % 6) := by rw [cuw_s, Nat.add_comm t i]
      have z0 : (0 : Int32) ≤ nI (b - cuw w t i) := (nle (a := 0) (by omega) (by omega)).mpr (Nat.zero_le _)
      unfold xitR
      (try dsimp only)
      by_cases c1 : B ≤ (i + t) % 6
      · rw [if_pos ((nle (by omega) (by omega)).mpr c1), if_pos z0, Int32.sub_zero]
        have z := w1 c1
        have := ih (i + 1) (by omega) (by omega)
        rw [show b - cuw w t (i + 1) = b - cuw w t i by omega] at this
        exact this
      · rw [if_neg (fun q => c1 ((nle (by omega) (by omega)).mp q))]
        by_cases c2 : τ 5005 ((i + t) % 6) = -1
        · rw [if_pos c2, if_pos z0, Int32.sub_zero]
          have z := w2 (by omega) c2
          have := ih (i + 1) (by omega) (by omega)
          rw [show b - cuw w t (i + 1) = b - cuw w t i by omega] at this
          exact this
        · rw [if_neg c2, w3 (by omega) c2]
          by_cases c3 : w ((i + t) % 6) ≤ b - cuw w t i
          · rw [if_pos ((nle (by omega) (by omega)).mpr c3), nI_minus c3]
            have := ih (i + 1) (by omega) (by omega)
            rw [show b - cuw w t (i + 1) = b - cuw w t i - w ((i + t) % 6) by omega] at this
            exact this
          · rw [if_neg (fun q => c3 ((nle (by omega) (by omega)).mp q))]
            have := hvw_in (w := w) (t := t) (b := b) (k := i) h (by omega) (6 - (i + 1))
            rw [show i + 1 + (6 - (i + 1)) = 6 by omega, Nat.add_comm t i] at this
            exact this.symm
  exact H 6 0 rfl (Nat.zero_le _)
/-! clashes -/
theorem clash_c : f_clashesBetween f g = nI (cbn f g) := by
  unfold f_clashesBetween x_clashesBetween_4 cbn
  refine Eq.trans (xit_cg (N := 5) (step' := fun i (x : Int32) => x + nI (cbb f g i)) (fun i x hi => ?_) 5 0 0 rfl) (xsum_n (t := fun i => nI (cbb f g i)) (fun i _ => rfl))
  (try dsimp only)
  unfold cbb
  by_cases c1 : f i = -1
  · rw [if_pos c1, if_pos (.inl c1)]
    exact (Int32.add_zero x).symm
  · rw [if_neg c1]
    by_cases c2 : g i = -1
    · rw [if_pos c2, if_pos (.inr (.inl c2))]
      exact (Int32.add_zero x).symm
    · rw [if_neg c2]
      by_cases c3 : f i = g i
      · rw [if_pos c3, if_pos (.inr (.inr c3))]
        exact (Int32.add_zero x).symm
      · rw [if_neg c3, if_neg (by simp [c1, c2, c3])]
        rfl
theorem cbn_cg {f2 g2 : Nat → Int32} (h1 : ∀ b, b < 5 → f b = f2 b) (h2 : ∀ b, b < 5 → g b = g2 b) : cbn f g = cbn f2 g2 := nsum_cg fun b hb => by
  unfold cbb
  rw [h1 b hb, h2 b hb]
theorem cbn_le : cbn f g ≤ 5 := by
  have := nsum_le (d := cbb f g) (k := 1) (N := 5) fun i _ => by
    unfold cbb
    split <;> decide
  unfold cbn
  omega
theorem clash_m {r2 tn tn2 B : Nat} {u u2 : Nat → Nat} (h1 : ∀ b, b < 5 → f_Mholds τ r (nI b) tn B = hvw u tn b 6) (h2 : ∀ b, b < 5 → f_Mholds τ r2 (nI b) tn2 B = hvw u2 tn2 b 6) (hs1 : sp r ≤ 5) (hs2 : sp r2 ≤ 5) : f_Mclashes τ r tn r2 tn2 B sp = nI (cbn (hro u (sp r) tn) (hro u2 (sp r2) tn2)) := by
  have cut : cbn (hro u (sp r) tn) (hro u2 (sp r2) tn2) = nsum (cbb (hro u (sp r) tn) (hro u2 (sp r2) tn2)) (min (sp r) (sp r2)) := nsum_cut (fun b hb1 hb2 => by
    unfold cbb
    by_cases c : b < sp r
    · have e : hro u2 (sp r2) tn2 b = -1 := if_neg (by omega)
      rw [if_pos (.inr (.inl e))]
    · have e : hro u (sp r) tn b = -1 := if_neg c
      rw [if_pos (.inl e)]) (by omega)
  rw [cut]
  unfold f_Mclashes x_Mclashes_39
  refine Eq.trans (xit_cg (N := min (sp r) (sp r2)) (step' := fun i (x : Int32) => x + nI (cbb (hro u (sp r) tn) (hro u2 (sp r2) tn2) i)) (fun i x hi => ?_) _ 0 0 (Nat.zero_add _)) (xsum_n (t := fun i => nI (cbb (hro u (sp r) tn) (hro u2 (sp r2) tn2) i)) (fun i _ => rfl))
  (try dsimp only)
  have e1 : hro u (sp r) tn i = f_Mholds τ r (nI i) tn B := by rw [h1 i (by omega)]; exact if_pos (by omega)
  have e2 : hro u2 (sp r2) tn2 i = f_Mholds τ r2 (nI i) tn2 B := by rw [h2 i (by omega)]; exact if_pos (by omega)
  unfold cbb
  rw [e1, e2]
  by_cases c1 : f_Mholds τ r (nI i) tn B = -1
  · rw [if_pos c1, if_pos (.inl c1)]
    rfl
  · rw [if_neg c1]
    by_cases c2 : f_Mholds τ r2 (nI i) tn2 B = -1
    · rw [if_pos c2, if_pos (.inr (.inl c2))]
      rfl
    · rw [if_neg c2]
      by_cases c3 : f_Mholds τ r (nI i) tn B = f_Mholds τ r2 (nI i) tn2 B
      · rw [if_pos c3, if_pos (.inr (.inr c3))]
        rfl
      · rw [if_neg c3, if_neg (by simp [c1, c2, c3])]
        rfl
/-- clashes of a region by a turn, when those before it have theirs -/
def clN (nb : Nat → Nat → Bool) (w : Nat → Nat → Nat) (sp T : Nat → Nat) (r t o : Nat) : Nat := if nb r o = true then cbn (hro (w r) (sp r) t) (hro (w o) (sp o) (T o)) else 0
end
