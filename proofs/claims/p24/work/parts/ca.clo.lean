/-! ===== pure facts: the reference closes ===== -/
theorem JA.clo {σ σ2 : XS9} (hs : σ 5000 1 = 1) (n1 : bd 60 (σ2 5003 900)) (n20 : σ2 7000 20 = σ 7000 20) (n25 : σ2 7000 25 = σ 7000 25) (nb : bd 60 (σ2 7000 21) ∧ bd 60 (σ2 7000 22) ∧ bd 199 (σ2 7000 23) ∧ bd 199 (σ2 7000 24)) (n22 : σ2 7000 22 = σ2 7000 21) (h : JA σ) (e : ∀ q i, kr q i → (¬ (q = 5003 ∧ i = 900) ∧ q ≠ 7000) → σ2 q i = σ q i) : JA σ2 := by
  obtain ⟨h1, h2, h3, h4, h5, h6, h7, h8, h9, h10, h11, h12, h13, h14, h15, h16, h17⟩ := h
  refine ⟨?_, ?_, n1, ?_, ?_, ?_, ?_, n22, ?_, ?_, ?_, ?_, ?_, ?_, ?_, ?_, ?_⟩
  · rw [e 5001 900 (by unfold kr; omega) (by omega)]; exact h1
  · rw [e 5002 900 (by unfold kr; omega) (by omega)]; exact h2
  · intro hz
    rw [e 5000 1 (by unfold kr; omega) (by omega), hs] at hz
    exact absurd hz (by decide)
  · rw [n25, n20]; exact h5
  · rw [e 5000 1 (by unfold kr; omega) (by omega), n25, n20]; exact h6
  · intro b hb
    rcases hb with rfl | rfl
    · exact nb
    · rw [e 8000 21 (by unfold kr; omega) (by omega), e 8000 22 (by unfold kr; omega) (by omega), e 8000 23 (by unfold kr; omega) (by omega), e 8000 24 (by unfold kr; omega) (by omega)]; exact h7 8000 (.inr rfl)
  · intro j hj
    rw [e (5030 + j) 900 (by unfold kr; omega) (by omega)]; exact h9 j hj
  · intro j hj
    rw [e (5020 + j) 3 (by unfold kr; omega) (by omega)]; exact h10 j hj
  · intro j k hj hk
    rw [e (5030 + j) (2 * k) (by unfold kr; omega) (by omega)]; exact h11 j k hj hk
  · rw [e 5004 900 (by unfold kr; omega) (by omega)]; exact h12
  · intro q hq
    rw [e 5004 900 (by unfold kr; omega) (by omega)] at hq
    have hq10 : q < 10 := by have := h12.2; omega
    rw [e 5004 (2 * q) (by unfold kr; omega) (by omega), e 5001 900 (by unfold kr; omega) (by omega)]; exact h13 q hq
  · intro r hr
    rw [e 5007 r (by unfold kr; omega) (by omega)]; exact h14 r hr
  · intro r hr
    rw [e (5010 + r) 0 (by unfold kr; omega) (by omega)]; exact h15 r hr
  · intro h3
    rw [e 5000 1 (by unfold kr; omega) (by omega), hs] at h3
    exact absurd h3 (by decide)
  · rw [e 5000 7 (by unfold kr; omega) (by omega)]; exact h17
/-- the clock is over -/
theorem JA.over {σ : XS9} (hs : σ 5000 1 = 1) (h : JA σ) : JA (u2 σ 5000 1 2) := by
  have e : ∀ q i, (q ≠ 5000 ∨ i ≠ 1) → u2 σ 5000 1 2 q i = σ q i := fun q i w => u2_o (fun a b => by omega)
  obtain ⟨h1, h2, h3, h4, h5, h6, h7, h8, h9, h10, h11, h12, h13, h14, h15, h16, h17⟩ := h
  refine ⟨?_, ?_, ?_, ?_, ?_, ?_, ?_, ?_, ?_, ?_, ?_, ?_, ?_, ?_, ?_, ?_, ?_⟩
  · rw [e _ _ (by omega)]; exact h1
  · rw [e _ _ (by omega)]; exact h2
  · rw [e _ _ (by omega)]; exact h3
  · intro hz
    rw [u2_at] at hz
    exact absurd hz (by decide)
  · rw [e _ _ (by omega), e _ _ (by omega)]; exact h5
  · intro hz
    rw [u2_at] at hz
    exact absurd hz (by decide)
  · intro b hb
    rw [e _ _ (by omega), e _ _ (by omega), e _ _ (by omega), e _ _ (by omega)]; exact h7 b hb
  · rw [e _ _ (by omega), e _ _ (by omega)]; exact h8
  · intro j hj
    rw [e _ _ (by omega)]; exact h9 j hj
  · intro j hj
    rw [e _ _ (by omega)]; exact h10 j hj
  · intro j k hj hk
    rw [e _ _ (by omega)]; exact h11 j k hj hk
  · rw [e _ _ (by omega)]; exact h12
  · intro q hq
    rw [e _ _ (by omega)] at hq
    rw [e _ _ (by omega), e _ _ (by omega)]; exact h13 q hq
  · intro r hr
    rw [e _ _ (by omega)]; exact h14 r hr
  · intro r hr
    rw [e _ _ (by omega)]; exact h15 r hr
  · intro hz
    rw [u2_at] at hz
    exact absurd hz (by decide)
  · rw [e _ _ (by omega)]; exact h17
theorem JR.over {σ : XS9} (hs : σ 5000 1 = 1) (h : JR σ) : JR (u2 σ 5000 1 2) := ⟨h.1.over hs, h.2.set (.inl (.inl (by decide)))⟩
theorem JR.madd {σ : XS9} {j p : Nat} {c a : Int32} (h : JR σ) (hj : j < 6) (hp : p < 6) (hc : bd 7775 c) (hs2 : σ 5000 1 = 2) : JR (g_Madd σ j p c a) := by
  unfold g_Madd g_addI
  refine ⟨JA.addOffer (j9 := j) (p := p) (c := c) hj hp hc hs2 ?_ ?_ h.1 (fun q i hk hn9 => ?_), h.2.rows fun q hq => by rw [u2_ne (by omega), u2_ne (by omega), u2_ne (by omega), u2_ne (by omega)]⟩
  · rw [u2_at]
    congr 1
  · rw [u2_oi (by omega), u2_oi (by omega), u2_oi (by omega), u2_at]
  · rw [u2_o (fun a b => hn9.1 ⟨a, b⟩), u2_o (fun a b => by unfold kr at hk; omega), u2_o (fun a b => hn9.1 ⟨a, b⟩), u2_o (fun a b => hn9.2 ⟨a, b⟩)]
/-- the log's part of JS -/
def LG (τ : XS9) : Prop := ∀ i j, i < mK τ → j < 6 → zo (τ (6300 + i) j) ∧ bd 7775 (τ (6100 + i) j)
theorem JS.after {τ : XS9} (h1 : τ 5000 1 ≠ 0) (h2 : τ 5000 1 ≠ 1) (hl : LG τ) : JS τ := ⟨fun q => absurd q h2, fun q => absurd (q.resolve_right h2) h1, hl⟩
theorem xit_addb {t : Nat → Int32} {c : Nat} (hc : c * 5 < 2147483648) : ∀ (f i : Nat) (a : Int32), (∀ k, i ≤ k → k < i + f → bd c (t k)) → i + f ≤ 5 → bd (c * i) a → bd (c * 5) (xit (fun i s => s + t i) f i a)
  | 0, i, a, h, h5, ha => ha.le (Nat.mul_le_mul_left c (by omega))
  | f + 1, i, a, h, h5, ha => by
    refine xit_addb hc f (i + 1) (a + t i) (fun k x y => h k (by omega) (by omega)) (by omega) ?_
    have b := h i (by omega) (by omega)
    have l : c * (i + 1) ≤ c * 5 := Nat.mul_le_mul_left c (by omega)
    rw [ha.1, b.1, nI_plus]
    have ha2 := ha.2
    have b2 := b.2
    rw [Nat.mul_add, Nat.mul_one] at l ⊢
    exact bd.nat (by omega) (by omega)
theorem bd.mul {m n : Nat} {a b : Int32} (ha : bd m a) (hb : bd n b) (h : m * n < 2147483648) : bd (m * n) (a * b) := by
  rw [ha.1, hb.1, nI_mul]
  exact bd.nat (Nat.mul_le_mul ha.2 hb.2) h
section
variable {τ : XS9}
theorem CIn.of (r : JR τ) (h : JS τ) (hs : τ 5000 1 = 1) : CIn τ := by
  obtain ⟨a, b, c, d, f, g9⟩ := h.1 hs
  have hR := r.hR
  have hB := r.hB
  have hg : mg τ < 199 := by omega
  refine ⟨hR, hB, ⟨r.hK.1, by show mK τ < 60; omega⟩, ⟨(r.hst hs).2, (r.hst hs).1⟩, ⟨r.hg.1, hg⟩, ⟨r.hw.1, by show mw τ < 199; omega⟩, ⟨r.hn.1, g9, r.hn.2.2⟩, fun j hj => ⟨(r.hpk j hj).1, ?_⟩, KW.hw0 a hR.2 hB.2 r.hg.2, b⟩
  have := h.2.1 (.inr hs) j (Nat.lt_of_lt_of_le hj hB.2)
  show mpk τ j ≤ 5
  omega
theorem clo_all (r : JR τ) (h : JS τ) (p : JP τ) (hs : τ 5000 1 = 1) : (JR (g_clo τ) ∧ JS (g_clo τ) ∧ JP (g_clo τ)) ∧ VM τ (g_clo τ) ∧ (g_clo τ 5000 1 = 1 ∨ g_clo τ 5000 1 = 2) := by
  obtain ⟨a, b, c, d, f, g9⟩ := h.1 hs
  have hR := r.hR
  have hB := r.hB
  have hK : mK τ < 60 := by omega
  have hg : mg τ < 199 := by omega
  have hw : mw τ < 199 := by omega
  show (JR (g_McloseOne τ (mR τ) (mB τ) (mK τ) (mg τ) (mw τ) (mn τ) (mpk τ)) ∧ JS (g_McloseOne τ (mR τ) (mB τ) (mK τ) (mg τ) (mw τ) (mn τ) (mpk τ)) ∧ JP (g_McloseOne τ (mR τ) (mB τ) (mK τ) (mg τ) (mw τ) (mn τ) (mpk τ))) ∧ VM τ (g_McloseOne τ (mR τ) (mB τ) (mK τ) (mg τ) (mw τ) (mn τ) (mpk τ)) ∧ (g_McloseOne τ (mR τ) (mB τ) (mK τ) (mg τ) (mw τ) (mn τ) (mpk τ) 5000 1 = 1 ∨ g_McloseOne τ (mR τ) (mB τ) (mK τ) (mg τ) (mw τ) (mn τ) (mpk τ) 5000 1 = 2)
  have hpk : ∀ j, j < 6 → mpk τ j = 0 := h.2.1 (.inr hs)
  generalize eR : mR τ = R at *
  generalize eB : mB τ = B at *
  generalize eK : mK τ = K at *
  generalize eg : mg τ = g at *
  generalize ew : mw τ = w at *
  generalize en : mn τ = n at *
  generalize mpk τ = pk at *
  have hR5 := hR.2
  have hB6 := hB.2
  have cc := clo1_c (σ := τ) (R := R) (B := B) hg hw g9 hK
  have c1 := clo1_n (σ := τ) (R := R) (B := B) (K := K) (g := g) (w := w) (n := n)
  have fr : ∀ q, (q < 5003 ∨ (5003 < q ∧ q < 5200) ∨ (8000 ≤ q)) → g_clo1 τ R B K g w n q = τ q := fun q hq => fr_clo1 hg hw g9 hK (by omega)
  have f7 : ∀ q, 7000 ≤ q → q < 8000 → g_clo1 τ R B K g w n q = g_Kclose τ (τ 5000 4) 7000 R B g w n q := fun q h1 h2 => by
    unfold g_clo1
    exact fr_rnd (by omega)
  have rp := rnd_p (σ := g_Kclose τ (τ 5000 4) 7000 R B g w n) (K := K) (t := τ 5000 4) (f1 := τ (7000 + 1)) (f2 := τ (7000 + 500 + g)) (f3 := g_Kclose τ (τ 5000 4) 7000 R B g w n (7000 + 2)) (f4 := τ (7000 + 700 + w)) hK
  have kw := a.close (x := τ 5000 4) (w := w) (n := n) hR5 hB6 hg hw g9
  have pk1 := PBk.close (b := 7000) (R := R) (B := B) (g := g) (w := w) (n := n) p.2.2.1 (p.2.2.2.1 hs) hg hw g9
  have r60 : ∀ i, (i < K → g_clo1 τ R B K g w n (6300 + i) = τ (6300 + i) ∧ g_clo1 τ R B K g w n (6100 + i) = τ (6100 + i)) := fun i hi => ⟨fr_clo1 hg hw g9 hK (by omega), fr_clo1 hg hw g9 hK (by omega)⟩
  have m6000 : g_clo1 τ R B K g w n (6000 + K) = τ 7001 := rp.1
  have m6200 : g_clo1 τ R B K g w n (6200 + K) = g_Kclose τ (τ 5000 4) 7000 R B g w n 7002 := rp.2.2.1
  have kon := Kclose_on (σ := τ) (x := τ 5000 4) (b := 7000) (R := R) (B := B) (g := g) (w := w) (n := n)
  have kwz := Kclose_waived (σ := τ) (x := τ 5000 4) (b := 7000) (R := R) (B := B) (g := g) (w := w) (n := n)
  have t9 := f7 7000 (by omega) (by omega)
  have lg1 : ∀ i j, i < K + 1 → j < 6 → zo (g_clo1 τ R B K g w n (6300 + i) j) ∧ bd 7775 (g_clo1 τ R B K g w n (6100 + i) j) := fun i j hi hj => by
    rcases Nat.lt_or_ge i K with q | q
    · rw [(r60 i q).1, (r60 i q).2]
      exact h.2.2 i j (by rw [eK]; exact q) hj
    · obtain rfl : i = K := by omega
      have e1 : g_clo1 τ R B i g w n (6300 + i) = τ (7000 + 700 + w) := rp.2.2.2.1
      have e2 : g_clo1 τ R B i g w n (6100 + i) = τ (7000 + 500 + g) := rp.2.1
      rw [e1, e2]
      exact ⟨b j hj, a.2 j hj⟩
  unfold g_McloseOne x_McloseOne_122 x_McloseOne_138
  generalize g_clo1 τ R B K g w n = t at *
  have ec : cn (nI (K + 1)) = K + 1 := cn_nI (by omega)
  have JRt : JR t := by
    refine ⟨JA.clo hs (by rw [c1]; exact bd.nat (by omega) (by decide)) cc.1 cc.2.1 ?_ (by rw [cc.2.2.1, cc.2.2.2.1]) r.1 (fun q i hk hn => ?_), r.2.rows fun q hq => ?_⟩
    · rw [cc.2.2.1, cc.2.2.2.1, cc.2.2.2.2.1, cc.2.2.2.2.2]
      exact ⟨bd.nat (by omega) (by decide), bd.nat (by omega) (by decide), bd.nat (by omega) (by decide), bd.nat (by omega) (by decide)⟩
    · by_cases e3 : q = 5003
      · unfold kr at hk
        omega
      · rw [fr q (by unfold kr at hk; omega)]
    · rw [fr q (by omega)]
  have eKt : mK t = K + 1 := (congrArg cn c1).trans ec
  have lgt : LG t := fun i j hi hj => lg1 i j (by rw [eKt] at hi; exact hi) hj
  have JPt : JP t := by
    obtain ⟨p1, p2, p3, p4, p5⟩ := p
    refine ⟨fun j hj => ?_, fun j hj => ?_, ?_, fun _ r hr => ?_, fun j k hj hk => ?_⟩
    · rw [fr _ (by omega)]
      exact p1 j hj
    · rw [fr _ (by omega)]
      exact p2 j hj
    · rw [fr _ (by omega)]
      exact p3
    · rw [f7 7001 (by omega) (by omega)]
      exact pk1 r hr
    · rw [fr _ (by omega)]
      exact p5 j k hj hk
  have st : t 5000 1 = 1 := by rw [fr _ (by omega)]; exact hs
  have vm : VM τ t := VM.rows (fr _ (by omega)) (fr _ (by omega)) (fr _ (by omega))
  split
  · rename_i ho
    rw [t9] at ho
    have n60 := kon ho
    refine ⟨⟨JRt, ⟨fun _ => ?_, fun _ j hj => ?_, lgt⟩, JPt⟩, vm, .inl st⟩
    · have egt : mg t = g + 1 := (congrArg cn cc.2.2.2.2.1).trans (cn_nI (by omega))
      have ewt : mw t = w + 1 := (congrArg cn cc.2.2.2.2.2).trans (cn_nI (by omega))
      have ent : mn t = n + 1 := (congrArg cn cc.2.2.1).trans (cn_nI (by omega))
      rw [egt, ewt, ent, eKt]
      refine ⟨⟨fun i hi => ?_, fun i hi => ?_⟩, fun j hj => ?_, by omega, by omega, by omega, ?_⟩
      · rw [f7 _ (by omega) (by omega)]
        exact kw.1 i hi
      · rw [f7 _ (by omega) (by omega)]
        exact kw.2 i hi
      · rw [f7 _ (by omega) (by omega), kwz]
        exact .inl rfl
      · have : n + 1 ≠ 60 := fun e => n60 (by rw [e]; rfl)
        omega
    · show cn (t (5030 + j) 900) / 2 = 0
      rw [fr _ (by omega)]
      exact h.2.1 (.inr hs) j hj
  · have hP : JR (u2 t 5000 1 2) ∧ JP (u2 t 5000 1 2) ∧ u2 t 5000 1 2 5000 1 = 2 := by
      refine ⟨JRt.over st, ?_, u2_at⟩
      obtain ⟨p1, p2, p3, p4, p5⟩ := JPt
      refine ⟨fun j hj => ?_, fun j hj => ?_, ?_, fun hz => ?_, fun j k hj hk => ?_⟩
      · rw [u2_ne (by omega)]
        exact p1 j hj
      · rw [u2_ne (by omega)]
        exact p2 j hj
      · rw [u2_oi (by decide)]
        exact p3
      · rw [u2_at] at hz
        exact absurd hz (by decide)
      · rw [u2_ne (by omega)]
        exact p5 j k hj hk
    have fm : ∀ (s : XS9) (j p9 : Nat) (c9 a9 : Int32) (q : Nat), q ≠ 5030 + j → g_Madd s j p9 c9 a9 q = s q := fun s j p9 c9 a9 q hq => fr_Madd hq
    have go := xit_inv (fun s : XS9 => (JR s ∧ JP s ∧ s 5000 1 = 2) ∧ ∀ q, (q < 5030 ∨ 5036 ≤ q) → s q = u2 t 5000 1 2 q) (step := fun i122 s122 => (if (t (6200 + K) i122) ≤ 0 then s122 else g_Madd s122 i122 (pk i122) (t (6200 + K) i122) (xit (fun i138 s138 => s138 + ((f_of (t (6200 + K) i122) i138) * (t (6000 + K) i138))) R 0 0))) (N := B) (fun i s hi hP => by
      (try dsimp only)
      split
      · exact hP
      · have ci : bd 7775 (t (6200 + K) i) := by rw [m6200]; exact kw.1 i (by omega)
        have ai : bd (49995 * 5) (xit (fun i138 s138 => s138 + ((f_of (t (6200 + K) i) i138) * (t (6000 + K) i138))) R 0 0) := xit_addb (by decide) R 0 0 (fun k _ hk => by
          rw [m6000]
          exact (ci.ofd (by omega)).mul (p.2.2.2.1 hs k (by omega)) (by decide)) (by omega) bd.zero
        have hp0 := hpk i (by omega)
        refine ⟨⟨hP.1.1.madd (by omega) (by omega) ci hP.1.2.2, hP.1.2.1.madd (by omega) (ai.le (by decide)), by rw [fm _ _ _ _ _ _ (by omega)]; exact hP.1.2.2⟩, fun q hq => ?_⟩
        rw [fm _ _ _ _ _ _ (by omega)]
        exact hP.2 q hq) B 0 (u2 t 5000 1 2) (Nat.zero_add _) ⟨hP, fun _ _ => rfl⟩
    generalize xit (fun i122 (s122 : XS9) => (if (t (6200 + K) i122) ≤ 0 then s122 else g_Madd s122 i122 (pk i122) (t (6200 + K) i122) (xit (fun i138 s138 => s138 + ((f_of (t (6200 + K) i122) i138) * (t (6000 + K) i138))) R 0 0))) B 0 (u2 t 5000 1 2) = u at go ⊢
    obtain ⟨⟨g1, g2, g3⟩, g4⟩ := go
    have g5 : ∀ q, (q < 5030 ∨ 5036 ≤ q) → q ≠ 5000 → u q = t q := fun q hq h5 => by rw [g4 q hq, u2_ne h5]
    refine ⟨⟨g1, JS.after (by rw [g3]; decide) (by rw [g3]; decide) (fun i j hi hj => ?_), g2⟩, ⟨?_, ?_, ?_⟩, .inr g3⟩
    · have e5 : mK u = mK t := congrArg cn (by rw [g5 5003 (by omega) (by omega)])
      rw [e5, eKt] at hi
      rw [g5 (6300 + i) (by omega) (by omega), g5 (6100 + i) (by omega) (by omega)]
      exact lgt i j (by rw [eKt]; exact hi) hj
    · rw [g5 5001 (by omega) (by omega)]
      exact vm.1
    · rw [g5 5002 (by omega) (by omega)]
      exact vm.2.1
    · rw [g3, hs]
      decide
theorem itC_all (r : JR τ) (h : JS τ) (p : JP τ) : ∀ m, (∀ j, j < m → itC τ j 5000 1 = 1) → (JR (itC τ m) ∧ JS (itC τ m) ∧ JP (itC τ m))
  | 0, _ => ⟨r, h, p⟩
  | m + 1, e => by
    obtain ⟨a, b, c⟩ := itC_all r h p m (fun j hj => e j (by omega))
    exact (clo_all a b c (e m (by omega))).1
theorem itC_in (r : JR τ) (h : JS τ) (p : JP τ) (m : Nat) (e : ∀ j, j ≤ m → itC τ j 5000 1 = 1) : CIn (itC τ m) := by
  obtain ⟨a, b, c⟩ := itC_all r h p m (fun j hj => e j (by omega))
  exact CIn.of a b (e m (Nat.le_refl m))
theorem Mclose_all {x : Int32} (r : JR τ) (h : JS τ) (p : JP τ) : (JR (g_Mclose τ x) ∧ JS (g_Mclose τ x) ∧ JP (g_Mclose τ x)) ∧ VM τ (g_Mclose τ x) := by
  unfold g_Mclose
  split
  · split
    · unfold x_Mclose_37
      refine xitB_all (fun s : XS9 => (JR s ∧ JS s ∧ JP s) ∧ VM τ s) (N := cn x) (fun i s s' hi hP => ?_) (cn x) 0 _ (Nat.zero_add _) ⟨⟨r.s0, h.s0 r, p.s0⟩, VM.s0⟩
      (try dsimp only)
      split
      · rename_i hs
        intro e
        rcases e with e | e
        · rw [← Sum.inl.inj e]
          obtain ⟨a, b, -⟩ := clo_all hP.1.1 hP.1.2.1 hP.1.2.2 hs
          exact ⟨a, hP.2.trans b⟩
        · cases e
      · intro e
        rcases e with e | e
        · cases e
        · rw [← Sum.inr.inj e]
          exact hP
    · exact ⟨⟨r.s00, h.s00 r, p.s00⟩, VM.s00⟩
  · exact ⟨⟨r.s00, h.s00 r, p.s00⟩, VM.s00⟩
end
