/-! ===== pure facts: the reference's clock begins ===== -/
theorem JA.clockOn {σ σ2 : XS9} (n1 : σ2 5000 1 = 1) (n20 : σ2 7000 20 = 1) (n25 : σ2 7000 25 = 1) (nz : σ2 7000 21 = 0 ∧ σ2 7000 22 = 0 ∧ σ2 7000 23 = 0 ∧ σ2 7000 24 = 0) (h : JA σ) (e : ∀ q i, kr q i → (¬ (q = 5000 ∧ i = 1) ∧ q ≠ 7000) → σ2 q i = σ q i) : JA σ2 := by
  obtain ⟨h1, h2, h3, h4, h5, h6, h7, h8, h9, h10, h11, h12, h13, h14, h15, h16, h17⟩ := h
  refine ⟨?_, ?_, ?_, ?_, ?_, ?_, ?_, ?_, ?_, ?_, ?_, ?_, ?_, ?_, ?_, ?_, ?_⟩
  · rw [e 5001 900 (by unfold kr; omega) (by omega)]; exact h1
  · rw [e 5002 900 (by unfold kr; omega) (by omega)]; exact h2
  · rw [e 5003 900 (by unfold kr; omega) (by omega)]; exact h3
  · intro hs
    rw [n1] at hs
    exact absurd hs (by decide)
  · exact .inr ⟨n25, n20⟩
  · exact fun _ => ⟨n25, n20⟩
  · intro b hb
    rcases hb with rfl | rfl
    · rw [nz.1, nz.2.1, nz.2.2.1, nz.2.2.2]; exact ⟨bd.zero, bd.zero, bd.zero, bd.zero⟩
    · rw [e 8000 21 (by unfold kr; omega) (by omega), e 8000 22 (by unfold kr; omega) (by omega), e 8000 23 (by unfold kr; omega) (by omega), e 8000 24 (by unfold kr; omega) (by omega)]; exact h7 8000 (.inr rfl)
  · rw [nz.1, nz.2.1]
  · intro j hj
    rw [e (5030 + j) 900 (by unfold kr; omega) (by omega)]; exact h9 j hj
  · intro j hj
    rw [e (5020 + j) 3 (by unfold kr; omega) (by omega)]; exact h10 j hj
  · intro j k hj hk
    rw [e (5030 + j) (2 * k) (by unfold kr; omega) (by omega)]; exact h11 j k hj hk
  · rw [e 5004 900 (by unfold kr; omega) (by omega)]; exact h12
  · intro q hq
    rw [e 5004 900 (by unfold kr; omega) (by omega)] at hq
    have hq10 : q < 10 := by have := h12.2; omega
    rw [e 5004 (2 * q) (by unfold kr; omega) (by omega), e 5001 900 (by unfold kr; omega) (by omega)]; exact h13 q hq
  · intro r hr
    rw [e 5007 r (by unfold kr; omega) (by omega)]; exact h14 r hr
  · intro r hr
    rw [e (5010 + r) 0 (by unfold kr; omega) (by omega)]; exact h15 r hr
  · intro hs
    rw [n1] at hs
    exact absurd hs (by decide)
  · rw [e 5000 7 (by unfold kr; omega) (by omega)]; exact h17
theorem Kinit_row {σ : XS9} {b R B : Nat} : g_Kinit σ b R B b = g_clk0 σ b b := by
  unfold g_Kinit x_Kinit_132
  refine (xit_keep (fun s : XS9 => s b) (fun i s => ?_) B 0 _).trans ?_
  · (try dsimp only)
    rw [u2_ne (by omega), u2_ne (by omega)]
  · unfold x_Kinit_95
    refine (xit_keep (fun s : XS9 => s b) (fun i s => ?_) R 0 _).trans rfl
    (try dsimp only)
    rw [u2_ne (by omega)]
theorem clk0_at {σ : XS9} {b i : Nat} (h1 : i ≠ 20) (h2 : i ≠ 25) : g_clk0 σ b b i = 0 := by
  unfold g_clk0
  rw [if_pos rfl]
  show (if i = 20 then (1 : Int32) else if i = 25 then σ b 25 else 0) = 0
  rw [if_neg h1, if_neg h2]
theorem JR.opn {τ : XS9} {R B : Nat} (h : JR τ) : JR (g_Mopen τ R B) := by
  unfold g_Mopen
  split
  · split
    · exact h.s00
    · split
      · exact h.s00
      · have k : ∀ q, (q < 7000 ∨ 8000 ≤ q) → u2 (g_Kinit (u2 (u2 τ 5000 0 0) 5000 1 1) 7000 R B) 7000 25 1 q = u2 (u2 τ 5000 0 0) 5000 1 1 q := fun q hq => by rw [u2_ne (by omega), fr_Kinit (by omega)]
        have z : ∀ i, i ≠ 20 → i ≠ 25 → u2 (g_Kinit (u2 (u2 τ 5000 0 0) 5000 1 1) 7000 R B) 7000 25 1 7000 i = 0 := fun i h1 h2 => by rw [u2_oi h2, Kinit_row, clk0_at h1 h2]
        refine ⟨h.1.clockOn (by rw [k _ (by omega), u2_at]) ?_ u2_at ⟨z _ (by decide) (by decide), z _ (by decide) (by decide), z _ (by decide) (by decide), z _ (by decide) (by decide)⟩ (fun q i hk hn => ?_), ?_⟩
        · rw [u2_oi (by decide), Kinit_row]
          rfl
        · rw [k q (by unfold kr at hk; omega), u2_o (fun a b => hn.1 ⟨a, b⟩), u2_o (fun a b => by unfold kr at hk; omega)]
        · exact (h.2.set (q := 5000) (i := 0) (x := 0) (.inl (.inl (by decide)))).rows fun q hq => by rw [k q (by omega), u2_ne (by omega)]
  · exact h.s00
theorem if_open {l : Launch} (hl : l.stackTraces = false) {LI : XS9 → XS9 → Prop} (hp : ∀ τ σ, LI τ σ → JC σ ∧ JR τ) (hrel : ∀ τ σ, LI τ σ → (g_Mopen τ (mR τ) (mB τ) 5000 0 = lw_k [eISE] (o_open σ (aR σ) (aB σ)) ∧ ∀ w, o_open σ (aR σ) (aB σ) = .inl w → w = f_Mopen τ (mR τ) (mB τ))) (hk : ∀ τ σ, LI τ σ → LI (g_Mopen τ (mR τ) (mB τ)) (g_open σ (aR σ) (aB σ))) : IF_open l LI := by
  intro z τ σ h9
  have j := (hp τ σ h9).1
  have r := (hp τ σ h9).2
  refine ⟨o_open σ (aR σ) (aB σ), g_open σ (aR σ) (aB σ), f_Mopen τ (mR τ) (mB τ), z, g_Mopen τ (mR τ) (mB τ), fun h hh => ct_X7_open hl j.hR.1 j.hR.2 j.hB.1 j.hB.2, fun E e => ?_, fun h hh => ct_X14_open hl hh.bs (fun r h1 _ => hh.no h1) r.hR.1 r.hR.2 r.hB.1 r.hB.2 (fun q => (r.hp0 q).1), hk τ σ h9, hrel τ σ h9⟩
  unfold o_open at e
  (repeat' split at e) <;> first | (cases e; done) | (rw [← Sum.inr.inj e]; done)

