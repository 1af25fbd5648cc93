/-! ===== pure facts: what is settled is kept; what would be paid ===== -/
theorem JA.kept {σ σ2 : XS9} (n1 : σ2 5000 1 = 3) (n7 : bd 2 (σ2 5000 7)) (nk : ∀ j, j < cn (σ 5002 900) → σ2 5005 j = -1 ∨ n_lt (σ2 5005 j) (cn (σ (5030 + j) 900) / 2)) (nt : ∀ r, r < 5 → bd 5 (σ2 5007 r)) (h : JA σ) (e : ∀ q i, kr q i → (q ≠ 5000 ∧ q ≠ 5005 ∧ q ≠ 5007) → σ2 q i = σ q i) : JA σ2 := by
  obtain ⟨h1, h2, h3, h4, h5, h6, h7, h8, h9, h10, h11, h12, h13, h14, h15, h16, h17⟩ := h
  refine ⟨?_, ?_, ?_, ?_, ?_, ?_, ?_, ?_, ?_, ?_, ?_, ?_, ?_, nt, ?_, ?_, n7⟩
  · rw [e 5001 900 (by unfold kr; omega) (by omega)]; exact h1
  · rw [e 5002 900 (by unfold kr; omega) (by omega)]; exact h2
  · rw [e 5003 900 (by unfold kr; omega) (by omega)]; exact h3
  · intro hz
    rw [n1] at hz
    exact absurd hz (by decide)
  · rw [e 7000 25 (by unfold kr; omega) (by omega), e 7000 20 (by unfold kr; omega) (by omega)]; exact h5
  · intro hz
    rw [n1] at hz
    exact absurd hz (by decide)
  · intro b hb
    rw [e b 21 (by unfold kr; omega) (by omega), e b 22 (by unfold kr; omega) (by omega), e b 23 (by unfold kr; omega) (by omega), e b 24 (by unfold kr; omega) (by omega)]; exact h7 b hb
  · rw [e 7000 22 (by unfold kr; omega) (by omega), e 7000 21 (by unfold kr; omega) (by omega)]; exact h8
  · intro j hj
    rw [e (5030 + j) 900 (by unfold kr; omega) (by omega)]; exact h9 j hj
  · intro j hj
    rw [e (5020 + j) 3 (by unfold kr; omega) (by omega)]; exact h10 j hj
  · intro j k hj hk
    rw [e (5030 + j) (2 * k) (by unfold kr; omega) (by omega)]; exact h11 j k hj hk
  · rw [e 5004 900 (by unfold kr; omega) (by omega)]; exact h12
  · intro q hq
    rw [e 5004 900 (by unfold kr; omega) (by omega)] at hq
    have hq10 : q < 10 := by have := h12.2; omega
    rw [e 5004 (2 * q) (by unfold kr; omega) (by omega), e 5001 900 (by unfold kr; omega) (by omega)]; exact h13 q hq
  · intro r hr
    rw [e (5010 + r) 0 (by unfold kr; omega) (by omega)]; exact h15 r hr
  · intro _ j hj
    rw [e 5002 900 (by unfold kr; omega) (by omega)] at hj
    have hj6 : j < 6 := by have := h2.2; omega
    rw [e (5030 + j) 900 (by unfold kr; omega) (by omega)]
    exact nk j hj
section
variable {τ σ : XS9} {R B wy : Nat} {pk gr sp : Nat → Nat} {cd : Nat → Nat → Nat}
theorem keep_5005 (hB6 : B ≤ 6) {j : Nat} (hj : j < 6) : g_Mkeep σ R B pk gr cd wy sp 5005 j = g_Cinit σ R B pk gr cd 9001 j := by
  unfold g_Mkeep
  rw [u2_ne (by decide), u2_ne (by decide), fr_x45 (by decide), uR_ne (by decide), fr_Cpay ⟨by decide, hB6⟩, uR_eq, cpy6 hj]
theorem keep_5007 (hB6 : B ≤ 6) (h : ∀ r, r < 5 → bd 5 (σ 5007 r)) : ∀ r, r < 5 → bd 5 (g_Mkeep σ R B pk gr cd wy sp 5007 r) := by
  unfold g_Mkeep
  rw [u2_ne (by decide), u2_ne (by decide)]
  unfold x_Mkeep_45
  refine xit_inv (fun s : XS9 => ∀ r, r < 5 → bd 5 (s 5007 r)) (N := R) (fun i s hi hP => ?_) R 0 _ (Nat.zero_add _) (fun r hr => ?_)
  · intro r hr
    show bd 5 (u2 s 5007 i _ 5007 r)
    by_cases e : r = i
    · subst e
      rw [u2_at]
      refine bd.nat ?_ (by decide)
      exact Nat.le_of_lt_succ (x66_lt (s0 := (0, 999)) (by decide))
    · rw [u2_oi e]
      exact hP r hr
  · rw [uR_ne (by decide), fr_Cpay ⟨by decide, hB6⟩, uR_ne (by decide), fr_Cinit (by omega)]
    exact h r hr
theorem AMs.ofP (p : JP τ) : AMs τ := p.2.2.2.2
theorem AMs.of (h : AMs τ) (e : ∀ j i, j < 6 → i % 2 = 1 → σ (5030 + j) i = τ (5030 + j) i) : AMs σ := fun j k hj hk => by
  rw [e j _ hj (by omega)]
  exact h j k hj hk
theorem JR.pk6 (r : JR τ) : ∀ j, j < mB τ → mpk τ j ≤ 6 := fun j hj => (r.hpk j hj).2
theorem AMs.cho (ha : AMs σ) (r : JR τ) : CHO (mB τ) (mpk τ) (g_Cinit σ R (mB τ) (mpk τ) gr cd) := CHO.init ha r.pk6 r.hB.2
theorem AMs.term (ha : AMs σ) (r : JR τ) {f : Nat → Int32} : ∃ r9, xitR (p2_step 20000 (mB τ)) 20000000 0 (g_Cpay20 (uR (g_Cinit σ R (mB τ) (mpk τ) gr cd) 5005 f) 20000 (mB τ)) = .inr r9 := by
  refine pay_term (pk := mpk τ) (by omega) r.hB.2 ((ha.cho (R := R) (gr := gr) (cd := cd) r).of r.hB.2 fun q hq => uR_ne (by omega)) (fun j k hj hk => ?_) r.pk6
  rw [uR_ne (by omega), fr_Cinit (by omega)]
  exact ha j k hj hk
theorem AMs.term0 (ha : AMs σ) (r : JR τ) : ∃ r9, xitR (p2_step 20000 (mB τ)) 20000000 0 (g_Cpay20 (g_Cinit σ R (mB τ) (mpk τ) gr cd) 20000 (mB τ)) = .inr r9 := by
  refine pay_term (pk := mpk τ) (by omega) r.hB.2 (ha.cho (R := R) (gr := gr) (cd := cd) r) (fun j k hj hk => ?_) r.pk6
  rw [fr_Cinit (by omega)]
  exact ha j k hj hk
/-- what a keeping asks: s is t with another stage, way, deposits, and somebody out -/
def KE (τ σ : XS9) : Prop := ∀ q i, ¬ (q = 5000 ∧ (i = 0 ∨ i = 1 ∨ i = 5 ∨ i = 7)) → ¬ (5020 ≤ q ∧ q < 5026 ∧ i = 4) → σ q i = τ q i
theorem KE.am (e : KE τ σ) (p : JP τ) : AMs σ := (AMs.ofP p).of fun j i hj hi => e _ _ (by omega) (by omega)
theorem keep_all (r : JR τ) (h : JS τ) (p : JP τ) (e : KE τ σ) (n1 : σ 5000 1 = 3) (n7 : bd 2 (σ 5000 7)) : JR (g_Mkeep σ R (mB τ) (mpk τ) gr cd wy sp) ∧ JS (g_Mkeep σ R (mB τ) (mpk τ) gr cd wy sp) ∧ JP (g_Mkeep σ R (mB τ) (mpk τ) gr cd wy sp) := by
  have hB6 := r.hB.2
  have fr : ∀ q, (q < 5005 ∨ (5007 < q ∧ q < 9000)) → g_Mkeep σ R (mB τ) (mpk τ) gr cd wy sp q = σ q := fun q hq => fr_Mkeep ⟨by omega, by omega, by omega, hB6⟩
  have k5 : ∀ j, j < mB τ → g_Mkeep σ R (mB τ) (mpk τ) gr cd wy sp 5005 j = -1 ∨ n_lt (g_Mkeep σ R (mB τ) (mpk τ) gr cd wy sp 5005 j) (cn (τ (5030 + j) 900) / 2) := fun j hj => by
    rw [keep_5005 hB6 (by omega)]
    refine (((e.am p).cho (R := R) (gr := gr) (cd := cd) r).pi j hj).imp id fun ⟨n, hn, en⟩ => ?_
    have h6 := r.pk6 j hj
    rw [en]
    refine ⟨by rw [cn_nI (by omega)], ?_⟩
    rw [cn_nI (by omega)]
    exact hn
  have k7 : ∀ r, r < 5 → bd 5 (g_Mkeep σ R (mB τ) (mpk τ) gr cd wy sp 5007 r) := keep_5007 hB6 fun q hq => by
    rw [e _ _ (by omega) (by omega)]
    have := r.htn q hq
    exact ⟨this.1, by have := this.2; show mtn τ q ≤ 5; omega⟩
  have st : g_Mkeep σ R (mB τ) (mpk τ) gr cd wy sp 5000 1 = 3 := by rw [fr _ (by omega)]; exact n1
  have hf : JF (g_Mkeep σ R (mB τ) (mpk τ) gr cd wy sp) := by
    refine ⟨⟨?_, ?_⟩, fun q a b => ?_⟩
    · unfold g_Mkeep
      rw [u2_ne (by decide), u2_at]
    · rw [fr 8000 (by omega), e 8000 20 (by omega) (by omega)]
      exact r.2.1.2
    · unfold g_Mkeep
      by_cases e0 : q = 20000
      · rw [e0, u2_at]
      · rw [u2_ne e0, u2_ne (by omega), fr_x45 (by omega), uR_ne (by omega), fr_Cpay ⟨e0, hB6⟩, uR_ne (by omega), fr_Cinit (by omega), e q 20 (by omega) (by omega)]
        exact r.2.2 q a b
  have fe : ∀ q i, ¬ (q = 5000 ∧ (i = 0 ∨ i = 1 ∨ i = 5 ∨ i = 7)) → ¬ (5020 ≤ q ∧ q < 5026 ∧ i = 4) → (q < 5005 ∨ (5007 < q ∧ q < 9000)) → g_Mkeep σ R (mB τ) (mpk τ) gr cd wy sp q i = τ q i := fun q i a b c => by
    rw [fr q c]
    exact e q i a b
  generalize g_Mkeep σ R (mB τ) (mpk τ) gr cd wy sp = u at *
  refine ⟨⟨JA.kept st (by rw [fr 5000 (by omega)]; exact n7) k5 k7 r.1 (fun q i hk hn => fe q i (by omega) (by unfold kr at hk; omega) (by unfold kr at hk; omega)), hf⟩, JS.after (by rw [st]; decide) (by rw [st]; decide) (fun i j hi hj => ?_), ?_⟩
  · have e5 : mK u = mK τ := congrArg cn (fe 5003 900 (by omega) (by omega) (by omega))
    rw [e5] at hi
    have := r.hK.2
    rw [fe (6300 + i) j (by omega) (by omega) (by omega), fe (6100 + i) j (by omega) (by omega) (by omega)]
    exact h.2.2 i j hi hj
  · obtain ⟨p1, p2, p3, p4, p5⟩ := p
    refine ⟨fun j hj => ?_, fun j hj => ?_, ?_, fun hz => ?_, fun j k hj hk => ?_⟩
    · rw [fe _ _ (by omega) (by omega) (by omega)]
      exact p1 j hj
    · rw [fe _ _ (by omega) (by omega) (by omega)]
      exact p2 j hj
    · rw [fe _ _ (by omega) (by omega) (by omega)]
      exact p3
    · rw [st] at hz
      exact absurd hz (by decide)
    · rw [fe _ _ (by omega) (by omega) (by omega)]
      exact p5 j k hj hk
theorem settle_ke {x : Int32} : KE τ (u2 (u2 (u2 τ 5000 0 0) 5000 1 3) 5000 7 x) := fun q i a b => by
  rw [u2_o (fun c d => a ⟨c, by omega⟩), u2_o (fun c d => a ⟨c, by omega⟩), u2_o (fun c d => a ⟨c, by omega⟩)]
theorem settle_am (p : JP τ) {x : Int32} : AMs (u2 (u2 (u2 τ 5000 0 0) 5000 1 3) 5000 7 x) := settle_ke.am p
theorem settle_all {x : Int32} (r : JR τ) (h : JS τ) (p : JP τ) : JR (g_Msettle τ x R (mB τ) (mpk τ) gr cd sp) ∧ JS (g_Msettle τ x R (mB τ) (mpk τ) gr cd sp) ∧ JP (g_Msettle τ x R (mB τ) (mpk τ) gr cd sp) := by
  unfold g_Msettle
  split
  · rename_i hx
    split
    · have b2 : bd 2 x := bd.bt hx (by decide) rfl (by decide)
      exact keep_all r h p settle_ke (by rw [u2_oi (by decide), u2_at]) (by rw [u2_at, ← b2.1]; exact b2)
    · exact ⟨r.s00, h.s00 r, p.s00⟩
  · exact ⟨r.s00, h.s00 r, p.s00⟩
theorem fail_am (p : JP τ) {i : Nat} {x : Int32} : AMs (u2 (u2 (u2 τ 5000 0 0) 5000 5 x) (5020 + i) 4 1) := (AMs.ofP p).of fun j k hj hk => by
  rw [u2_o (fun c d => by omega), u2_ne (by omega), u2_ne (by omega)]
theorem fail_all {x : Int32} (r : JR τ) (h : JS τ) (p : JP τ) : JR (g_Mfail τ x R (mB τ) (mpk τ) gr cd wy sp) ∧ JS (g_Mfail τ x R (mB τ) (mpk τ) gr cd wy sp) ∧ JP (g_Mfail τ x R (mB τ) (mpk τ) gr cd wy sp) := by
  unfold g_Mfail
  split
  · rename_i hx
    have hx6 : cn x < 6 := by have := hx.2; have := r.hB.2; omega
    split
    · rename_i hs
      split
      · exact ⟨r.s00, h.s00 r, p.s00⟩
      · refine keep_all r h p (fun q i a b => ?_) ?_ ?_
        · rw [u2_o (fun c d => b (by omega)), u2_o (fun c d => a ⟨c, by omega⟩), u2_o (fun c d => a ⟨c, by omega⟩)]
        · rw [u2_ne (by omega), u2_oi (by decide), u2_oi (by decide)]
          exact hs
        · rw [u2_ne (by omega), u2_oi (by decide), u2_oi (by decide)]
          have := r.hwy
          exact ⟨this.1, by have := this.2; show mwy τ ≤ 2; omega⟩
    · exact ⟨r.s00, h.s00 r, p.s00⟩
  · exact ⟨r.s00, h.s00 r, p.s00⟩
theorem s0_am (p : JP τ) {x : Int32} : AMs (u2 τ 5000 0 x) := (AMs.ofP p).of fun j k hj hk => by rw [u2_ne (by omega)]
theorem pay_js {y : Nat} (r : JR τ) (h : JS τ) (hB6 : B ≤ 6) : JS (u2 (u2 (g_Cpay (g_Cinit τ R B pk gr cd) y 20000 B) 9000 20 0) 20000 20 0) := h.hi r fun q hq => by rw [u2_ne (by omega), u2_ne (by omega), fr_Cpay ⟨by omega, hB6⟩, fr_Cinit (by omega)]
theorem pay_jp {y : Nat} (p : JP τ) (hB6 : B ≤ 6) : JP (u2 (u2 (g_Cpay (g_Cinit τ R B pk gr cd) y 20000 B) 9000 20 0) 20000 20 0) := p.hi fun q hq => by rw [u2_ne (by omega), u2_ne (by omega), fr_Cpay ⟨by omega, hB6⟩, fr_Cinit (by omega)]
end
theorem K_close : ∀ τ σ (p0 : Int32), LI τ σ → LI (g_Mclose τ p0) (g_close σ p0 (aR σ) (aB σ) (agr σ)) := fun τ σ p0 h9 => by
  obtain ⟨⟨a, b, c⟩, d⟩ := Mclose_all (x := p0) h9.1.2.1.1 h9.1.2.1.2 h9.2
  have j := JK.close h9.1.1.1 h9.1.1.2 (x := p0) (R := aR σ) (B := aB σ) (gr := agr σ) h9.1.1.1.hR.2 h9.1.1.1.hB.2 (fun i hi => (h9.1.1.1.hgr i hi).2)
  exact ⟨⟨j, ⟨a, b⟩, h9.1.2.2.kept d (VC.close h9.1.1.1 h9.1.1.2 h9.1.1.1.hR.2 h9.1.1.1.hB.2 (fun i hi => (h9.1.1.1.hgr i hi).2))⟩, c⟩
theorem G_close {l : Launch} (hl : l.stackTraces = false) {LI' : XS9 → XS9 → Prop} (hq : ∀ τ σ, LI' τ σ → LI τ σ) (hrel : ∀ τ σ (p0 : Int32), LI' τ σ → ((g_Mclose τ p0) 5000 0 = lw_k [eIAE, eISE] (o_close σ p0 (aR σ) (aB σ) (agr σ)) ∧ ∀ w, (o_close σ p0 (aR σ) (aB σ) (agr σ)) = .inl w → w = (f_Mclose τ p0))) (hk : ∀ τ σ (p0 : Int32), LI' τ σ → LI' (g_Mclose τ p0) (g_close σ p0 (aR σ) (aB σ) (agr σ))) : IF_close l LI' := if_close hl (fun _ _ h8 => (hq _ _ h8).1.p) (fun τ σ p0 h8 m hm e => have h9 := hq τ σ h8; itC_in h9.1.2.1.1.s0 (h9.1.2.1.2.s0 h9.1.2.1.1) h9.2.s0 m e) hrel hk
theorem K_settle : ∀ τ σ (p0 : Int32), LI τ σ → LI (g_Msettle τ p0 (mR τ) (mB τ) (mpk τ) (mgr τ) (mcd τ) (msp τ)) (g_settle σ p0 (aR σ) (asp σ)) := fun τ σ p0 h9 => by
  obtain ⟨a, b, c⟩ := settle_all (x := p0) (R := mR τ) (gr := mgr τ) (cd := mcd τ) (sp := msp τ) h9.1.2.1.1 h9.1.2.1.2 h9.2
  exact ⟨⟨⟨h9.1.1.1.settle h9.1.1.1.hR.2, h9.1.1.2.settle h9.1.1.1.hR.2⟩, ⟨a, b⟩, h9.1.2.2.kept (VM.settle h9.1.2.1.1.hB.2) (VC.settle h9.1.1.1.hR.2)⟩, c⟩
theorem G_settle {l : Launch} (hl : l.stackTraces = false) {LI' : XS9 → XS9 → Prop} (hq : ∀ τ σ, LI' τ σ → LI τ σ) (hrel : ∀ τ σ (p0 : Int32), LI' τ σ → ((g_Msettle τ p0 (mR τ) (mB τ) (mpk τ) (mgr τ) (mcd τ) (msp τ)) 5000 0 = lw_k [eIAE, eISE] (o_settle σ p0 (aR σ) (asp σ)) ∧ ∀ w, (o_settle σ p0 (aR σ) (asp σ)) = .inl w → w = (f_Msettle τ p0 (mR τ) (mB τ) (mpk τ) (mgr τ) (mcd τ) (msp τ)))) (hk : ∀ τ σ (p0 : Int32), LI' τ σ → LI' (g_Msettle τ p0 (mR τ) (mB τ) (mpk τ) (mgr τ) (mcd τ) (msp τ)) (g_settle σ p0 (aR σ) (asp σ))) : IF_settle l LI' := if_settle hl (fun _ _ h8 => (hq _ _ h8).1.p) (fun τ σ p0 h8 => have h9 := hq τ σ h8; ((settle_am h9.2).cho h9.1.2.1.1).pi) (fun τ σ p0 h8 => have h9 := hq τ σ h8; (settle_am h9.2).term h9.1.2.1.1) hrel hk
theorem K_fail : ∀ τ σ (p0 : Int32), LI τ σ → LI (g_Mfail τ p0 (mR τ) (mB τ) (mpk τ) (mgr τ) (mcd τ) (mwy τ) (msp τ)) (g_fail σ p0 (aR σ) (aB σ) (asp σ)) := fun τ σ p0 h9 => by
  obtain ⟨a, b, c⟩ := fail_all (x := p0) (R := mR τ) (gr := mgr τ) (cd := mcd τ) (wy := mwy τ) (sp := msp τ) h9.1.2.1.1 h9.1.2.1.2 h9.2
  exact ⟨⟨⟨h9.1.1.1.fail h9.1.1.1.hR.2, h9.1.1.2.fail h9.1.1.1.hR.2⟩, ⟨a, b⟩, h9.1.2.2.kept (VM.fail h9.1.2.1.1.hB.2) (VC.fail h9.1.1.1.hR.2)⟩, c⟩
theorem G_fail {l : Launch} (hl : l.stackTraces = false) {LI' : XS9 → XS9 → Prop} (hq : ∀ τ σ, LI' τ σ → LI τ σ) (hrel : ∀ τ σ (p0 : Int32), LI' τ σ → ((g_Mfail τ p0 (mR τ) (mB τ) (mpk τ) (mgr τ) (mcd τ) (mwy τ) (msp τ)) 5000 0 = lw_k [eIOB, eISE] (o_fail σ p0 (aR σ) (aB σ) (asp σ)) ∧ ∀ w, (o_fail σ p0 (aR σ) (aB σ) (asp σ)) = .inl w → w = (f_Mfail τ p0 (mR τ) (mB τ) (mpk τ) (mgr τ) (mcd τ) (mwy τ) (msp τ)))) (hk : ∀ τ σ (p0 : Int32), LI' τ σ → LI' (g_Mfail τ p0 (mR τ) (mB τ) (mpk τ) (mgr τ) (mcd τ) (mwy τ) (msp τ)) (g_fail σ p0 (aR σ) (aB σ) (asp σ))) : IF_fail l LI' := if_fail hl (fun _ _ h8 => (hq _ _ h8).1.p) (fun τ σ p0 h8 => have h9 := hq τ σ h8; ((fail_am h9.2).cho h9.1.2.1.1).pi) (fun τ σ p0 h8 => have h9 := hq τ σ h8; (fail_am h9.2).term h9.1.2.1.1) hrel hk
theorem K_wouldPay : ∀ τ σ (p0 p1 : Int32), LI τ σ → LI (g_MwouldPay τ p0 p1 (mR τ) (mB τ) (mpk τ) (mgr τ) (mcd τ)) σ := fun τ σ p0 p1 h9 => by
  have r := h9.1.2.1.1
  have h := h9.1.2.1.2
  refine ⟨⟨h9.1.1, ⟨r.wouldPay r.hB.2, ?_⟩, h9.1.2.2.kept (VM.wouldPay r.hB.2) VC.rfl'⟩, ?_⟩
  · unfold g_MwouldPay
    (repeat' split) <;> first | with_reducible exact h.s00 r | exact pay_js r.s0 (h.s0 r) r.hB.2 | exact h.s00 r
  · unfold g_MwouldPay
    (repeat' split) <;> first | exact h9.2.s00 | exact pay_jp h9.2.s0 r.hB.2
theorem G_wouldPay {l : Launch} (hl : l.stackTraces = false) {LI' : XS9 → XS9 → Prop} (hq : ∀ τ σ, LI' τ σ → LI τ σ) (hrel : ∀ τ σ (p0 p1 : Int32), LI' τ σ → ((g_MwouldPay τ p0 p1 (mR τ) (mB τ) (mpk τ) (mgr τ) (mcd τ)) 5000 0 = lw_k [eIOB, eIAE] (o_wouldPay σ p0 p1 (aB σ)) ∧ ∀ w, (o_wouldPay σ p0 p1 (aB σ)) = .inl w → w = (f_MwouldPay τ p0 p1 (mR τ) (mB τ) (mpk τ) (mgr τ) (mcd τ)))) (hk : ∀ τ σ (p0 p1 : Int32), LI' τ σ → LI' (g_MwouldPay τ p0 p1 (mR τ) (mB τ) (mpk τ) (mgr τ) (mcd τ)) σ) : IF_wouldPay l LI' := if_wouldPay hl (fun _ _ h8 => (hq _ _ h8).1.p) (fun τ σ p0 p1 h8 => have h9 := hq τ σ h8; ((s0_am h9.2).cho h9.1.2.1.1).pi) (fun τ σ p0 p1 h8 => have h9 := hq τ σ h8; (s0_am h9.2).term0 h9.1.2.1.1) hrel hk
theorem K_objects : ∀ τ σ (p0 p1 : Int32), LI τ σ → LI (g_Mobjects τ p0 p1 (mR τ) (mB τ) (mpk τ) (mgr τ) (mcd τ)) σ := fun τ σ p0 p1 h9 => by
  have r := h9.1.2.1.1
  have h := h9.1.2.1.2
  refine ⟨⟨h9.1.1, ⟨r.objects r.hB.2, ?_⟩, h9.1.2.2.kept (VM.objects r.hB.2) VC.rfl'⟩, ?_⟩
  · unfold g_Mobjects
    (repeat' split) <;> first | with_reducible exact h.s00 r | exact pay_js r.s0 (h.s0 r) r.hB.2 | exact h.s00 r
  · unfold g_Mobjects
    (repeat' split) <;> first | exact h9.2.s00 | exact pay_jp h9.2.s0 r.hB.2
theorem G_objects {l : Launch} (hl : l.stackTraces = false) {LI' : XS9 → XS9 → Prop} (hq : ∀ τ σ, LI' τ σ → LI τ σ) (hrel : ∀ τ σ (p0 p1 : Int32), LI' τ σ → ((g_Mobjects τ p0 p1 (mR τ) (mB τ) (mpk τ) (mgr τ) (mcd τ)) 5000 0 = lw_k [eIAE] (o_objects σ p0 p1 (aB σ)) ∧ ∀ w, (o_objects σ p0 p1 (aB σ)) = .inl w → w = (f_Mobjects τ p0 p1 (mR τ) (mB τ) (mpk τ) (mgr τ) (mcd τ)))) (hk : ∀ τ σ (p0 p1 : Int32), LI' τ σ → LI' (g_Mobjects τ p0 p1 (mR τ) (mB τ) (mpk τ) (mgr τ) (mcd τ)) σ) : IF_objects l LI' := if_objects hl (fun _ _ h8 => (hq _ _ h8).1.p) (fun τ σ p0 p1 h8 => have h9 := hq τ σ h8; ((s0_am h9.2).cho h9.1.2.1.1).pi) (fun τ σ p0 p1 h8 => have h9 := hq τ σ h8; (s0_am h9.2).term0 h9.1.2.1.1) hrel hk
