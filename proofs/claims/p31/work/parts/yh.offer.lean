/-! ===== who may tell a package, alike on both sides ===== -/
section
variable {τ σ : XS9} {x y z v : Int32} {R B i : Nat} {q : Nat → Nat} {cap : Nat}
theorem within_go (hy : bd 7775 y) {f : Nat → Int32} {N : Nat} (hf : ∀ r, r < N → f r = nI (q r) ∧ q r ≤ 5) : ∀ (n k : Nat), k + n = N → (∀ r, r < k → dgt y r ≤ q r) → ((match xitR (fun i4 (s4 : Int32) => (if (s4 - s4 / 6 * 6) ≤ (f i4) then (.inl (s4 / 6) : Int32 ⊕ Int32) else .inr 0)) n k (nI (cn y / 6 ^ k)) with | .inl _ => (1 : Int32) | .inr r4 => r4) = 0 ↔ ¬ ∀ r, r < N → dgt y r ≤ q r)
  | 0, k, e, h => by
    obtain rfl : k = N := by omega
    exact ⟨fun w => absurd (show (1 : Int32) = 0 from w) (by decide), fun w => absurd h w⟩
  | n + 1, k, e, h => by
    obtain ⟨f1, f2⟩ := hf k (by omega)
    obtain ⟨e1, e2⟩ := at6 (k := k) hy
    have d5 := dgt_le (c := y) (r := k)
    unfold xitR
    (try dsimp only)
    rw [e1, e2, f1]
    by_cases c : dgt y k ≤ q k
    · rw [if_pos ((nle (by omega) (by omega)).mpr c)]
      exact within_go hy hf n (k + 1) (by omega) (fun r hr => by
        by_cases e3 : r = k
        · rw [e3]
          exact c
        · exact h r (by omega))
    · rw [if_neg (fun w => c ((nle (by omega) (by omega)).mp w))]
      exact ⟨fun _ w => c (w k (by omega)), fun _ => rfl⟩
theorem within_eq (hy : bd 7775 y) {f : Nat → Int32} {N : Nat} (hf : ∀ r, r < N → f r = nI (q r) ∧ q r ≤ 5) : f_isWithin y N f = 0 ↔ ¬ ∀ r, r < N → dgt y r ≤ q r := by
  have := within_go hy hf N 0 (Nat.zero_add _) (fun r hr => absurd hr (by omega))
  rw [Nat.pow_zero, Nat.div_one, ← hy.1] at this
  exact this
theorem cap_eq (hy : bd 7775 y) (hR5 : R ≤ 5) (hc : σ 1001 10 = nI cap) (hc5 : cap ≤ 5) : f_isWithinCap σ y R = 0 ↔ ¬ ∀ r, r < R → dgt y r ≤ cap := by
  have H : ∀ (n k : Nat), k + n = R → (∀ r, r < k → dgt y r ≤ cap) → ((match xitR (fun i2 (s2 : Unit) => (if (f_many y i2) ≤ (σ 1001 10) then (.inl () : Unit ⊕ Int32) else .inr 0)) n k () with | .inl _ => (1 : Int32) | .inr r2 => r2) = 0 ↔ ¬ ∀ r, r < R → dgt y r ≤ cap) := by
    intro n
    induction n with
    | zero =>
      intro k e h
      obtain rfl : k = R := by omega
      exact ⟨fun w => absurd (show (1 : Int32) = 0 from w) (by decide), fun w => absurd h w⟩
    | succ n ih =>
      intro k e h
      have d5 := dgt_le (c := y) (r := k)
      unfold xitR
      (try dsimp only)
      rw [many_d hy (by omega), hc]
      by_cases c : dgt y k ≤ cap
      · rw [if_pos ((nle (by omega) (by omega)).mpr c)]
        have := ih (k + 1) (by omega) (fun r hr => by
          by_cases e3 : r = k
          · rw [e3]
            exact c
          · exact h r (by omega))
        rw [hc] at this
        exact this
      · rw [if_neg (fun w => c ((nle (by omega) (by omega)).mp w))]
        exact ⟨fun _ w => c (w k (by omega)), fun _ => rfl⟩
  exact H R 0 (Nat.zero_add _) (fun r hr => absurd hr (by omega))
/-- the least that may be told -/
def lstT (τ : XS9) (y : Int32) (R : Nat) : Nat := nsum (fun r => dgt y r * cn (τ (5010 + r) 2)) R
theorem lst_le (p : JP τ) (hR5 : R ≤ 5) : lstT τ y R ≤ 24975 := by
  have := nsum_le (d := fun r => dgt y r * cn (τ (5010 + r) 2)) (k := 4995) (N := R) fun r hr => by
    have h1 := dgt_le (c := y) (r := r)
    have h2 := (p.1 r (by omega)).2
    (try dsimp only)
    calc dgt y r * cn (τ (5010 + r) 2) ≤ 5 * 999 := Nat.mul_le_mul h1 h2
      _ ≤ 4995 := by decide
  unfold lstT
  omega
theorem tot_eq (hy : bd 7775 y) (p : JP τ) (hR5 : R ≤ 5) (hs : ∀ r, r < 5 → σ 1012 r = τ (5010 + r) 2) (hz : ∀ r, R ≤ r → r < 5 → τ (5010 + r) 2 = 0) : f_total y 5 (σ 1012) = nI (lstT τ y R) := by
  rw [total_x, xsum_n (d := fun r => dgt y r * cn (τ (5010 + r) 2)) (fun r hr => by
    (try dsimp only)
    rw [many_d hy hr, hs r hr, (p.1 r hr).1, nI_mul, ← (p.1 r hr).1])]
  congr 1
  exact nsum_cut (fun r h1 h2 => by
    (try dsimp only)
    rw [hz r h1 h2]
    exact Nat.mul_zero _) hR5
theorem off_m (hy : bd 7775 y) (p : JP τ) (hR5 : R ≤ 5) (hq : ∀ r, r < R → τ (5010 + r) 0 = nI (q r) ∧ q r ≤ 5) (hc : τ 5000 2 = nI cap) (hc5 : cap ≤ 5) : ((x_Moffer_104 τ y R (1, Int64.ofNat (0 : Fin 2))).1 = 0 ↔ ¬ ∀ r, r < R → dgt y r ≤ q r ∧ dgt y r ≤ cap) ∧ (x_Moffer_104 τ y R (1, Int64.ofNat (0 : Fin 2))).2 = Int64.ofNat (lstT τ y R) := by
  have H := xit_ind (step := fun i104 (s104 : Int32 × Int64) => (if (if (τ (5010 + i104) 0) < (τ 5000 2) then (τ (5010 + i104) 0) else (τ 5000 2)) < (f_of y i104) then (s104.1 &&& 0, s104.2 + ((Int32.toInt64 (f_of y i104)) * (Int32.toInt64 (τ (5010 + i104) 2)))) else (s104.1 &&& 1, s104.2 + ((Int32.toInt64 (f_of y i104)) * (Int32.toInt64 (τ (5010 + i104) 2)))))) (fun k u => ((u.1 = 1 ∧ ∀ r, r < k → dgt y r ≤ q r ∧ dgt y r ≤ cap) ∨ (u.1 = 0 ∧ ¬ ∀ r, r < k → dgt y r ≤ q r ∧ dgt y r ≤ cap)) ∧ u.2 = Int64.ofNat (lstT τ y k)) (N := R) (fun k u hk hP => ?_) R 0 (1, Int64.ofNat (0 : Fin 2)) (Nat.zero_add _) ⟨.inl ⟨rfl, fun r hr => absurd hr (by omega)⟩, rfl⟩
  · refine ⟨?_, H.2⟩
    rcases H.1 with ⟨h1, h2⟩ | ⟨h1, h2⟩
    · exact ⟨fun w => absurd (h1.symm.trans w) (by decide), fun w => absurd h2 w⟩
    · exact ⟨fun _ => h2, fun _ => h1⟩
  · obtain ⟨u1, u2'⟩ := hP
    obtain ⟨q1, q2⟩ := hq k hk
    have d5 := dgt_le (c := y) (r := k)
    have s9 := p.1 k (by omega)
    have ed : Int32.toInt64 (f_of y k) * Int32.toInt64 (τ (5010 + k) 2) = Int64.ofNat (dgt y k * cn (τ (5010 + k) 2)) := by
      have s92 := s9.2
      have m9 : Int32.maxValue.toInt = 2147483647 := rfl
      have t1 : Int32.toInt64 (nI (dgt y k)) = Int64.ofNat (dgt y k) := Int32.toInt64_ofNat' (by rw [m9]; omega)
      have t2 : Int32.toInt64 (nI (cn (τ (5010 + k) 2))) = Int64.ofNat (cn (τ (5010 + k) 2)) := Int32.toInt64_ofNat' (by rw [m9]; omega)
      rw [← s9.1] at t2
      rw [of_d hy (by omega), t1, t2, Int64.ofNat_mul]
    have es : u.2 + Int32.toInt64 (f_of y k) * Int32.toInt64 (τ (5010 + k) 2) = Int64.ofNat (lstT τ y (k + 1)) := by
      rw [ed, u2', ← Int64.ofNat_add]
      rfl
    have cond : ((if (τ (5010 + k) 0) < (τ 5000 2) then (τ (5010 + k) 0) else (τ 5000 2)) < (f_of y k)) ↔ ¬ (dgt y k ≤ q k ∧ dgt y k ≤ cap) := by
      rw [q1, hc, of_d hy (by omega)]
      by_cases c : q k < cap
      · rw [if_pos ((nlt (by omega) (by omega)).mpr c), nlt (by omega) (by omega)]
        omega
      · rw [if_neg (fun w => c ((nlt (by omega) (by omega)).mp w)), nlt (by omega) (by omega)]
        omega
    (try dsimp only)
    by_cases c : dgt y k ≤ q k ∧ dgt y k ≤ cap
    · rw [if_neg (fun w => cond.mp w c)]
      refine ⟨?_, es⟩
      rcases u1 with ⟨h1, h2⟩ | ⟨h1, h2⟩
      · refine .inl ⟨by show u.1 &&& 1 = 1; rw [h1]; decide, fun r hr => ?_⟩
        by_cases e : r = k
        · rw [e]
          exact c
        · exact h2 r (by omega)
      · exact .inr ⟨by show u.1 &&& 1 = 0; rw [h1]; decide, fun w => h2 fun r hr => w r (by omega)⟩
    · rw [if_pos (cond.mpr c)]
      exact ⟨.inr ⟨Int32.and_zero, fun w => c (w k (by omega))⟩, es⟩
theorem cmp_ok {n L : Nat} (hn : n < 1000000) (hL : L < 1000000) : 0 ≤ lg_cmp (Int32.toInt64 (nI n)) (Int64.ofNat L) ↔ L ≤ n := by
  have a : (Int32.toInt64 (nI n)).toInt = (n : Int) := by rw [Int32.toInt_toInt64, toI_nI (by omega)]
  have b : (Int64.ofNat L).toInt = (L : Int) := Int64.toInt_ofNat_of_lt (by omega)
  unfold lg_cmp
  by_cases c1 : Int32.toInt64 (nI n) > Int64.ofNat L
  · rw [if_pos c1]
    have := Int64.lt_iff_toInt_lt.mp c1
    exact ⟨fun _ => by omega, fun _ => by decide⟩
  · rw [if_neg c1]
    have c1 : ¬ L < n := fun w => c1 (Int64.lt_iff_toInt_lt.mpr (by rw [a, b]; omega))
    by_cases c2 : Int32.toInt64 (nI n) = Int64.ofNat L
    · rw [if_pos c2]
      have := congrArg Int64.toInt c2
      exact ⟨fun _ => by omega, fun _ => by decide⟩
    · rw [if_neg c2]
      refine ⟨fun w => absurd w (by decide), fun w => absurd (Int64.toInt_inj.mp ?_) c2⟩
      rw [a, b]
      omega
/-- the same packages are let -/
theorem may_off (a : RA τ σ) (r : JR τ) (p : JP τ) (z9 : RZ τ) (k : RK τ σ) (hi : i < mB τ) (hy : bd 7775 y) (hy2 : cn y < 6 ^ mR τ) (hz : 0 ≤ z) : f_mayOffer σ i y z (mR τ) = 0 ↔ (y ≤ 0 ∨ τ (5020 + i) 0 < z ∨ (x_Moffer_104 τ y (mR τ) (1, Int64.ofNat (0 : Fin 2))).1 = 0 ∨ ¬ 0 ≤ lg_cmp (Int32.toInt64 z) ((x_Moffer_104 τ y (mR τ) (1, Int64.ofNat (0 : Fin 2))).2)) := by
  have hR5 := r.hR.2
  have hB6 := r.hB.2
  obtain ⟨o1, o2⟩ := off_m (q := msp τ) (cap := cn (τ 5000 2)) hy p hR5 (fun q hq => r.hsp q hq) k.mx.1 k.mx.2
  have zhi : ∀ q, mR τ ≤ q → q < 5 → dgt y q = 0 := fun q h1 h2 => by
    unfold dgt
    rw [Nat.div_eq_of_lt (Nat.lt_of_lt_of_le hy2 (Nat.pow_le_pow_right (by decide) h1))]
  have w5 := within_eq (q := fun q => if q < mR τ then msp τ q else 0) (f := σ 1010) (N := 5) hy (fun q hq => by
    rw [(a.2.1 q hq).1]
    (try dsimp only)
    split
    · rename_i l
      exact r.hsp q l
    · rename_i l
      exact ⟨(z9 q (Nat.not_lt.mp l) hq).1, by omega⟩)
  have wc := cap_eq (σ := σ) hy hR5 (a.1.2.1.trans k.mx.1) k.mx.2
  have tt := tot_eq (σ := σ) hy p hR5 (fun q hq => (a.2.1 q hq).2.2.1) (fun q h1 h2 => (z9 q h1 h2).2.2)
  have ll := lst_le (y := y) p hR5
  have bz := p.2.1 i (by omega)
  have y0 : y ≤ 0 ↔ y = 0 := by
    refine ⟨fun w => ?_, fun w => by rw [w]; exact Int32.le_refl _⟩
    have h2 := hy.2
    rw [hy.1] at w ⊢
    rw [(nI_le0 (by omega)).mp w]
    rfl
  rw [o2, y0]
  unfold f_mayOffer
  rw [tt, (a.2.2.1 i (by omega)).1]
  by_cases c1 : y = 0
  · rw [if_pos c1]
    exact ⟨fun _ => .inl c1, fun _ => rfl⟩
  · rw [if_neg c1]
    by_cases c4 : τ (5020 + i) 0 < z
    · refine ⟨fun _ => .inr (.inl c4), fun _ => ?_⟩
      (repeat' split) <;> first | rfl | contradiction
    · have zb : bd 99999 z := bd.leq bz (by decide) hz c4 (Nat.le_refl _)
      have zb2 := zb.2
      have cm := cmp_ok (n := cn z) (L := lstT τ y (mR τ)) (by omega) (by omega)
      rw [← zb.1] at cm
      have lt : z < nI (lstT τ y (mR τ)) ↔ ¬ lstT τ y (mR τ) ≤ cn z := by
        have := nlt (a := cn z) (b := lstT τ y (mR τ)) (by omega) (by omega)
        rw [← zb.1] at this
        rw [this]
        omega
      by_cases c2 : ∀ q, q < mR τ → dgt y q ≤ msp τ q ∧ dgt y q ≤ cn (τ 5000 2)
      · have n1 : ¬ f_isWithin y 5 (σ 1010) = 0 := fun w => w5.mp w fun q hq => by
          (try dsimp only)
          split
          · rename_i l
            exact (c2 q l).1
          · rename_i l
            rw [zhi q (by omega) hq]
            exact Nat.le_refl _
        have n2 : ¬ f_isWithinCap σ y (mR τ) = 0 := fun w => wc.mp w fun q hq => (c2 q hq).2
        have n3 : ¬ (x_Moffer_104 τ y (mR τ) (1, Int64.ofNat (0 : Fin 2))).1 = 0 := fun w => o1.mp w c2
        rw [if_neg n1, if_neg n2, cm]
        by_cases c3 : lstT τ y (mR τ) ≤ cn z
        · rw [if_neg (fun w => lt.mp w c3), if_neg c4]
          refine ⟨fun w => absurd w (by decide), fun w => ?_⟩
          rcases w with w | w | w | w
          · exact absurd w c1
          · exact absurd w c4
          · exact absurd w n3
          · exact absurd c3 w
        · rw [if_pos (lt.mpr c3)]
          exact ⟨fun _ => .inr (.inr (.inr c3)), fun _ => rfl⟩
      · refine ⟨fun _ => .inr (.inr (.inl (o1.mpr c2))), fun _ => ?_⟩
        by_cases n1 : f_isWithin y 5 (σ 1010) = 0
        · rw [if_pos n1]
        · rw [if_neg n1]
          have n2 : f_isWithinCap σ y (mR τ) = 0 := wc.mpr fun w => c2 fun q hq => by
            have h1 : ∀ q, q < 5 → dgt y q ≤ (if q < mR τ then msp τ q else 0) := Classical.byContradiction fun n => n1 (w5.mpr n)
            have h1 := h1 q (by omega)
            rw [if_pos hq] at h1
            exact ⟨h1, w q hq⟩
          rw [if_pos n2]
theorem code_eq (r : JR τ) : f_isCode σ y (mR τ) = 0 ↔ (y < 0 ∨ f_power (mR τ) ≤ y) := by
  have e : x_isCode_4 σ y (mR τ) 1 = f_power (mR τ) := rfl
  unfold f_isCode
  rw [e]
  by_cases c1 : y < 0
  · rw [if_pos c1]
    exact ⟨fun _ => .inl c1, fun _ => rfl⟩
  · rw [if_neg c1]
    by_cases c2 : f_power (mR τ) ≤ y
    · rw [if_pos c2]
      exact ⟨fun _ => .inr c2, fun _ => rfl⟩
    · rw [if_neg c2]
      exact ⟨fun w => absurd w (by decide), fun w => w.elim (fun w => absurd w c1) (fun w => absurd w c2)⟩
theorem pow_nI : ∀ R, R ≤ 5 → f_power R = nI (6 ^ R) := by
  intro R hR
  match R, hR with
  | 0, _ => rfl
  | 1, _ => rfl
  | 2, _ => rfl
  | 3, _ => rfl
  | 4, _ => rfl
  | 5, _ => rfl
theorem code_bd (r : JR τ) (h1 : ¬ y < 0) (h2 : ¬ f_power (mR τ) ≤ y) : bd 7775 y ∧ cn y < 6 ^ mR τ := by
  have hR5 := r.hR.2
  obtain ⟨e1, e2⟩ := cn_of (Int32.not_lt.mp h1)
  have p5 : 6 ^ mR τ ≤ 7776 := by
    have := Nat.pow_le_pow_right (n := 6) (by decide) hR5
    exact this
  rw [pow_nI _ hR5, e1] at h2
  have yl : y.toInt < 2 ^ 31 := y.toInt_lt
  have h3 : ¬ 6 ^ mR τ ≤ cn y := fun w => h2 ((nle (by omega) (by omega)).mpr w)
  exact ⟨⟨e1, by omega⟩, by omega⟩
end
