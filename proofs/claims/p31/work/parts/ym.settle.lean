/-! ===== the market: settling, defaults, offers ===== -/
section
variable {τ σ t s : XS9} {R B i wy : Nat} {x y z v : Int32} {spc gr cnt : Nat → Nat}
theorem RM.mid (h : RM τ σ) (hs : ¬ τ 5000 1 ≤ 1) (r : JR τ) (p : JP τ) (m : ∀ q i, kX q i → (q ≠ 5000 ∨ i = 2) → t q i = τ q i) (c : ∀ q i, kx q i → q ≠ 1000 → s q i = σ q i) : (RK t s ∧ TKF t) ∧ MKT t s ∧ MKW t s ∧ PYQ s := by
  have hR5 := r.hR.2
  have hB6 := r.hB.2
  have eR : mR t = mR τ := congrArg cn (m _ _ (by unfold kX; omega) (by omega))
  have eB : mB t = mB τ := congrArg cn (m _ _ (by unfold kX; omega) (by omega))
  have ep : ∀ j, j < 6 → mpk t j = mpk τ j := fun j hj => by
    show cn (t (5030 + j) 900) / 2 = _
    rw [m _ _ (by unfold kX; omega) (by omega)]
  have er : ∀ j, j < 6 → t (5030 + j) = τ (5030 + j) := fun j hj => funext fun i => m _ _ (by unfold kX; omega) (by omega)
  have eP : ∀ j, j < 6 → pkB t j = pkB τ j := fun j hj => by
    unfold pkB
    rw [eB, ep j hj]
  have X := Xm_same (τ := τ) (τ2 := t) eP er (fun j hj => by
    show cn (τ (5020 + j) 3) = cn (t (5020 + j) 3)
    rw [m _ _ (by unfold kX; omega) (by omega)]) (fun q hq => by
    show cn (t (5010 + q) 0) = cn (τ (5010 + q) 0)
    rw [m _ _ (by unfold kX; omega) (by omega)]) (by rw [m _ _ (by unfold kX; omega) (by omega)]) eR
  obtain ⟨m1, m2, m3⟩ := h.m hs
  refine ⟨⟨⟨by rw [m _ _ (by unfold kX; omega) (by omega)]; exact h.k.1, fun j hj => by rw [c _ _ (by unfold kx; omega) (by omega), h.k.n hj, eP j hj], fun j hj k hk => ?_⟩, (TKF.mk r h.k p).of fun q i hk => m q i (by unfold kt at hk; unfold kX; omega) (by unfold kt at hk; omega)⟩, m1.of X (fun j hj => m _ _ (by unfold kX; omega) (by omega)) fun q i hq => c _ _ (by unfold kx; omega) (by omega), m2.of X fun q i hq => c _ _ (by unfold kx; omega) (by omega), m3.of fun q i hq => c _ _ (by unfold kx; omega) (by omega)⟩
  rw [eB] at hj
  rw [ep j (by omega)] at hk
  have k6 := (r.hpk j hj).2
  rw [c _ _ (by unfold kx; omega) (by omega), c _ _ (by unfold kx; omega) (by omega), er j (by omega), eR]
  exact h.k.2.2 j hj k hk
theorem RM.keep (hs3 : t 5000 1 = 3) (k : RK t s) (hd : s 1000 10 = t 5000 5) (F : TKF t) (a : TA t s) (m : MKT t s) (w : MKW t s) (y : PYQ s) (hwy : t 5000 7 = nI wy) (hw3 : wy < 3) (h9 : s 1000 9 = t 5000 7) (hn : ∀ r, r < 5 → s 1013 r = t (5010 + r) 3) (hsp : ∀ r, r < mR t → spc r = msp t r) : RM (g_Mkeep t (mR t) (mB t) (mpk t) (mgr t) (mcd t) wy (msp t)) (g_give s (mR t) spc) := by
  have hR5 := F.1.1
  have hB6 := F.1.2
  obtain ⟨⟨k1, k2⟩, k3⟩ := keep_sim (spc := spc) (wy := wy) (not01 (.inr hs3)) F (PCx.mk a F k) m w y hw3 hn hsp
  have tr : ∀ q, ((q < 5005 ∨ 5007 < q) ∧ q < 9000) → g_Mkeep t (mR t) (mB t) (mpk t) (mgr t) (mcd t) wy (msp t) q = t q := fun q hq => keep_rows hB6 hq
  have sr : ∀ q, q ≠ 1005 → (q < 1141 ∨ 1145 < q) → g_give s (mR t) spc q = s q := fun q h1 h2 => fr_give hR5 ⟨h1, h2⟩
  generalize g_Mkeep t (mR t) (mB t) (mpk t) (mgr t) (mcd t) wy (msp t) = t2 at k1 k2 k3 tr ⊢
  generalize g_give s (mR t) spc = s2 at k3 sr ⊢
  have eR : mR t2 = mR t := by
    show cn (t2 5001 900) = _
    rw [tr _ (by decide)]
  have eB : mB t2 = mB t := by
    show cn (t2 5002 900) = _
    rw [tr _ (by decide)]
  have ep : ∀ j, j < 6 → mpk t2 j = mpk t j := fun j hj => by
    show cn (t2 (5030 + j) 900) / 2 = _
    rw [tr _ (by omega)]
  have eP : ∀ j, j < 6 → pkB t2 j = pkB t j := fun j hj => by
    unfold pkB
    rw [eB, ep j hj]
  have e5 : t2 5000 = t 5000 := tr _ (by decide)
  have X := Xm_same (τ := t) (τ2 := t2) eP (fun j hj => tr _ (by omega)) (fun j hj => by
    show cn (t (5020 + j) 3) = cn (t2 (5020 + j) 3)
    rw [tr _ (by omega)]) (fun q hq => by
    show cn (t2 (5010 + q) 0) = cn (t (5010 + q) 0)
    rw [tr _ (by omega)]) (by rw [e5]) eR
  have s3 : t2 5000 1 = 3 := by rw [e5]; exact hs3
  have ew : mwy t2 = wy := by
    show cn (t2 5000 7) = wy
    rw [e5, hwy, cn_nI (by omega)]
  refine ⟨⟨⟨by rw [e5]; exact k.1, fun j hj => by rw [sr _ (by decide) (by decide), eP j hj]; exact k.2.1 j hj, fun j hj k9 hk => ?_⟩, by rw [sr _ (by decide) (by decide), e5]; exact hd⟩, fun e => absurd e (not01 (.inr s3)), fun _ => ⟨m.of X (fun j hj => by rw [tr _ (by omega)]) fun q i hq => by rw [sr _ (by omega) (by omega)], w.of X fun q i hq => by rw [sr _ (by omega) (by omega)], y.of fun q i hq => by rw [sr _ (by omega) (by omega)]⟩, fun e => absurd s3 e, fun _ => ⟨⟨fun j hj => by rw [sr _ (by decide) (by decide)]; exact k1 j hj, fun j hj => by rw [ew, sr _ (by omega) (by omega)]; exact k2 j hj, by rw [sr _ (by decide) (by decide), e5]; exact h9⟩, k3⟩⟩
  rw [eB] at hj
  rw [ep j (by omega)] at hk
  rw [sr _ (by omega) (by omega), sr _ (by omega) (by omega), tr _ (by omega), eR]
  exact k.2.2 j hj k9 hk
theorem RM.settle (h : RM τ σ) (r : JR τ) (p : JP τ) (a : RA τ σ) (hst : σ 1000 7 = τ 5000 1) : RM (g_Msettle τ x (mR τ) (mB τ) (mpk τ) (mgr τ) (mcd τ) (msp τ)) (g_settle σ x (mR τ) (asp σ)) := by
  unfold g_Msettle g_settle
  by_cases c1 : n_bt x 0 2
  · by_cases c2 : τ 5000 1 = 2
    · rw [if_pos c1, if_pos c2, if_pos c1, if_pos (hst.trans c2)]
      have hx : bd 2 x := bd.bt c1 (by decide) rfl (by decide)
      have hx2 := hx.2
      have e : ∀ q, q ≠ 5000 → u2 (u2 (u2 τ 5000 0 0) 5000 1 3) 5000 7 (nI (cn x)) q = τ q := fun q hq => by rw [u2_ne hq, u2_ne hq, u2_ne hq]
      have e5 : ∀ i, i ≠ 0 → i ≠ 1 → i ≠ 7 → u2 (u2 (u2 τ 5000 0 0) 5000 1 3) 5000 7 (nI (cn x)) 5000 i = τ 5000 i := fun i h0 h1 h7 => by rw [u2_oi h7, u2_oi h1, u2_oi h0]
      have f : ∀ q, q ≠ 1000 → u2 (u2 σ 1000 9 x) 1000 7 3 q = σ q := fun q hq => by rw [u2_ne hq, u2_ne hq]
      obtain ⟨⟨k, F⟩, m, w, y9⟩ := h.mid (t := u2 (u2 (u2 τ 5000 0 0) 5000 1 3) 5000 7 (nI (cn x))) (s := u2 (u2 σ 1000 9 x) 1000 7 3) (not01 (.inl c2)) r p (fun q i hk hn => by
        by_cases eq : q = 5000
        · subst eq
          exact e5 i (by omega) (by omega) (by omega)
        · rw [e q eq]) (fun q i hk hn => by rw [f q hn])
      have H := RM.keep (t := u2 (u2 (u2 τ 5000 0 0) 5000 1 3) 5000 7 (nI (cn x))) (s := u2 (u2 σ 1000 9 x) 1000 7 3) (spc := asp σ) (wy := cn x) (by rw [u2_oi (by decide), u2_at]) k (by
        rw [u2_oi (by decide), u2_oi (by decide), e5 5 (by decide) (by decide) (by decide)]
        exact h.d) F ⟨by
        rw [f _ (by decide), e5 2 (by decide) (by decide) (by decide)]
        exact a.1.2.1, fun q hq => by
        rw [f _ (by decide), e _ (by omega)]
        exact (a.2.1 q hq).1⟩ m w y9 u2_at (by omega) (by
        rw [u2_oi (by decide), u2_at, u2_at]
        exact hx.1) (fun q hq => by
        rw [f _ (by decide), e _ (by omega)]
        exact (a.2.1 q hq).2.2.2) (fun q hq => by
        have eR : mR (u2 (u2 (u2 τ 5000 0 0) 5000 1 3) 5000 7 (nI (cn x))) = mR τ := by
          show cn (u2 _ _ _ _ 5001 900) = _
          rw [e _ (by decide)]
        rw [eR] at hq
        have := r.hR.2
        show cn (σ 1010 q) = cn (u2 _ _ _ _ (5010 + q) 0)
        rw [e _ (by omega), (a.2.1 q (by omega)).1])
      have q1 : mR (u2 (u2 (u2 τ 5000 0 0) 5000 1 3) 5000 7 (nI (cn x))) = mR τ := by
        show cn (u2 _ _ _ _ 5001 900) = _
        rw [e _ (by decide)]
      have q2 : mB (u2 (u2 (u2 τ 5000 0 0) 5000 1 3) 5000 7 (nI (cn x))) = mB τ := by
        show cn (u2 _ _ _ _ 5002 900) = _
        rw [e _ (by decide)]
      have q3 : mpk (u2 (u2 (u2 τ 5000 0 0) 5000 1 3) 5000 7 (nI (cn x))) = mpk τ := funext fun j => by
        show cn (u2 _ _ _ _ (5030 + j) 900) / 2 = _
        rw [e _ (by omega)]
      have q4 : mgr (u2 (u2 (u2 τ 5000 0 0) 5000 1 3) 5000 7 (nI (cn x))) = mgr τ := funext fun j => by
        show cn (u2 _ _ _ _ (5020 + j) 3) = _
        rw [e _ (by omega)]
      have q5 : mcd (u2 (u2 (u2 τ 5000 0 0) 5000 1 3) 5000 7 (nI (cn x))) = mcd τ := funext fun j => funext fun k => by
        show cn (u2 _ _ _ _ (5030 + j) (2 * k)) = _
        rw [e _ (by omega)]
      have q6 : msp (u2 (u2 (u2 τ 5000 0 0) 5000 1 3) 5000 7 (nI (cn x))) = msp τ := funext fun j => by
        show cn (u2 _ _ _ _ (5010 + j) 0) = _
        rw [e _ (by omega)]
      rw [q1, q2, q3, q4, q5, q6] at H
      exact H
    · rw [if_pos c1, if_neg c2, if_pos c1, if_neg (fun e => c2 (hst.symm.trans e))]
      exact h.kept r MX.s00 VX.rfl'
  · rw [if_neg c1, if_neg c1]
    exact h.kept r MX.s00 VX.rfl'
/-- one more is out, on both sides -/
theorem out_step (m : MKT t s) (w : MKW t s) (F : TKF t) (k : RK t s) (a : TA t s) (hi : i < 6) : (RK (u2 t (5020 + i) 4 1) (g_find (g_leaveOut s i)) ∧ TKF (u2 t (5020 + i) 4 1)) ∧ MKT (u2 t (5020 + i) 4 1) (g_find (g_leaveOut s i)) ∧ MKW (u2 t (5020 + i) 4 1) (g_find (g_leaveOut s i)) ∧ PYQ (g_find (g_leaveOut s i)) ∧ ∀ q, q ≠ 1003 → (q < 1040 ∨ (1041 < q ∧ q < 1131) ∨ 1133 < q) → g_find (g_leaveOut s i) q = s q := by
  have hB6 := F.1.2
  have e : ∀ q, q ≠ 5020 + i → u2 t (5020 + i) 4 1 q = t q := fun q hq => u2_ne hq
  have eR : mR (u2 t (5020 + i) 4 1) = mR t := by
    show cn (u2 t (5020 + i) 4 1 5001 900) = _
    rw [e _ (by omega)]
  have eB : mB (u2 t (5020 + i) 4 1) = mB t := by
    show cn (u2 t (5020 + i) 4 1 5002 900) = _
    rw [e _ (by omega)]
  have ep : ∀ j, j < 6 → mpk (u2 t (5020 + i) 4 1) j = mpk t j := fun j hj => by
    show cn (u2 t (5020 + i) 4 1 (5030 + j) 900) / 2 = _
    rw [e _ (by omega)]
  have eP : ∀ j, j < 6 → pkB (u2 t (5020 + i) 4 1) j = pkB t j := fun j hj => by
    unfold pkB
    rw [eB, ep j hj]
  have X := Xm_same (τ := t) (τ2 := u2 t (5020 + i) 4 1) eP (fun j hj => e _ (by omega)) (fun j hj => by
    show cn (t (5020 + j) 3) = cn (u2 t (5020 + i) 4 1 (5020 + j) 3)
    rw [u2_sl (by decide)]) (fun q hq => by
    show cn (u2 t (5020 + i) 4 1 (5010 + q) 0) = cn (t (5010 + q) 0)
    rw [u2_sl (by decide)]) (by rw [e _ (by omega)]) eR
  have F2 : TKF (u2 t (5020 + i) 4 1) := F.of fun q i9 hk => by
    by_cases h4 : i9 = 4
    · rw [e q (by unfold kt at hk; omega)]
    · exact u2_sl h4
  obtain ⟨s1, es1⟩ : ∃ s1, s1 = u2 s 1003 5 ((s 1003 5) ||| (1 <<< ((nI i) &&& 31))) := ⟨_, rfl⟩
  have r1 : ∀ q, q ≠ 1003 → s1 q = s q := fun q hq => by rw [es1, u2_ne hq]
  have P0 := PCx.mk a F k
  have am6 : ∀ d, Xm (u2 t (5020 + i) 4 1) d → (∀ j, j < 6 → d j ≤ 6) ∧ cAm (Am (u2 t (5020 + i) 4 1)) d ≤ 1800000 := fun d hd => by
    have h1 := ((X.1 d).mpr hd).1
    rw [← X.2 d]
    exact ⟨fun j hj => Nat.le_trans (h1 j hj) (F.p6 j hj), P0.am h1⟩
  have BO1 : BOc (Am (u2 t (5020 + i) 4 1)) (Xm (u2 t (5020 + i) 4 1)) s1 := ((m.2.1.cg fun d _ => X.2 d).iff X.1).of fun q hq => r1 q (by omega)
  obtain ⟨w1, w2⟩ := find_w BO1 am6 ⟨_, (X.1 _).mp ⟨cOk_0, cFe_0⟩, cSp_0⟩
  have el : g_leaveOut s i = g_findWinners s1 := by
    unfold g_leaveOut
    rw [es1]
  have fw : ∀ q, q ≠ 1040 → q ≠ 1041 → g_findWinners s1 q = s1 q := fun q h1 h2 => fr_findWinners ⟨h1, h2⟩
  have ff : ∀ q, (q < 1131 ∨ 1133 < q) → g_find (g_findWinners s1) q = g_findWinners s1 q := fun q hq => fr_find ⟨by omega, by omega, by omega⟩
  rw [el]
  have W1 : MKW (u2 t (5020 + i) 4 1) (g_findWinners s1) := by
    unfold MKW
    rw [fw 1003 (by decide) (by decide)]
    exact ⟨w1, w2⟩
  have k2 : RK (u2 t (5020 + i) 4 1) (g_findWinners s1) := by
    refine ⟨by rw [e _ (by omega)]; exact k.1, fun j hj => by rw [fw _ (by decide) (by decide), r1 _ (by decide), eP j hj]; exact k.2.1 j hj, fun j hj k9 hk => ?_⟩
    rw [eB] at hj
    rw [ep j (by omega)] at hk
    rw [fw _ (by omega) (by omega), fw _ (by omega) (by omega), r1 _ (by omega), r1 _ (by omega), e _ (by omega), eR]
    exact k.2.2 j hj k9 hk
  have T2 : TA (u2 t (5020 + i) 4 1) (g_findWinners s1) := ⟨by rw [fw _ (by decide) (by decide), r1 _ (by decide), e _ (by omega)]; exact a.1, fun r hr => by rw [fw _ (by decide) (by decide), r1 _ (by decide), e _ (by omega)]; exact a.2 r hr⟩
  have P2 := PCx.mk T2 F2 k2
  have same : (∀ d, Xm (u2 t (5020 + i) 4 1) d ↔ Xm (u2 t (5020 + i) 4 1) d) ∧ ∀ d, cAm (Am (u2 t (5020 + i) 4 1)) d = cAm (Am (u2 t (5020 + i) 4 1)) d := ⟨fun _ => Iff.rfl, fun _ => rfl⟩
  have M1 : MKT (u2 t (5020 + i) 4 1) (g_findWinners s1) := by
    refine ⟨⟨fun j hj => by rw [fw _ (by decide) (by decide), r1 _ (by decide)]; exact m.1.1 j hj, fun r hr => by rw [fw _ (by decide) (by decide), r1 _ (by decide)]; exact m.1.2.1 r hr, fun g hg r hr => by rw [fw _ (by omega) (by omega), r1 _ (by omega)]; exact m.1.2.2 g hg r hr⟩, BO1.of fun q hq => fw q (by omega) (by omega), fun j hj => ?_⟩
    rw [fw _ (by decide) (by decide), es1, u2_at, b_or, b_bit (by omega) (by omega)]
    by_cases ej : j = i
    · rw [ej, u2_at, decide_eq_true rfl, Bool.or_true]
      exact ⟨fun z => (by cases z), fun z => absurd z (by decide)⟩
    · rw [u2_ne (by omega), decide_eq_false ej, Bool.or_false]
      exact m.2.2 j hj
  refine ⟨⟨⟨k2.1, fun j hj => by rw [ff _ (by omega)]; exact k2.2.1 j hj, fun j hj k9 hk => ?_⟩, F2⟩, M1.of same (fun _ _ => rfl) fun q i hq => by rw [ff _ (by omega)], W1.of same fun q i hq => by rw [ff _ (by omega)], PYQ.found W1 P2 F2.p6, fun q h1 h2 => by rw [ff q (by omega), fw q (by omega) (by omega), r1 q h1]⟩
  rw [ff _ (by rw [eB] at hj; omega), ff _ (by rw [eB] at hj; omega)]
  exact k2.2.2 j hj k9 hk
/-- a winner's amount, on both sides -/
theorem won_eq (h : RM τ σ) (r : JR τ) (p : JP τ) (a : RA τ σ) (hs : τ 5000 1 = 3) (hi : i < mB τ) (hn : ¬ σ 1040 i = -1) : f_amountWon σ i = f_Bamount (u2 τ 5000 0 0) i (cn (τ 5005 i)) := by
  have hB6 := r.hB.2
  have F := TKF.mk r h.k p
  obtain ⟨m, w, y9⟩ := h.m (not01 (.inr hs))
  obtain ⟨c, ⟨c1, _⟩, c2, c3⟩ := w.1
  have P := PCx.mk (TA.mk a) F h.k
  have h1 := c1.1 i (by omega)
  have h6 := F.p6 i (by omega)
  rw [(won_c P F.p6 c1.1 (c3 i (by omega)) (by omega)).1]
  have e5 := (h.n3 hs).1.1 i (by omega)
  have z : c i ≠ 0 := fun z => hn (by rw [c3 i (by omega), z]; rfl)
  obtain ⟨f1, f2, f3, f4⟩ := (rwc_at (v := c i) (by omega)).2 z
  unfold cAd f_Bamount
  rw [if_neg z, e5, c3 i (by omega), f3, u2_ne (by omega)]
  exact (F.pcm hi (pkB_lt (k := c i - 1) (by omega)).2).symm
theorem RM.fail (h : RM τ σ) (r : JR τ) (p : JP τ) (a : RA τ σ) (hst : σ 1000 7 = τ 5000 1) : RM (g_Mfail τ x (mR τ) (mB τ) (mpk τ) (mgr τ) (mcd τ) (mwy τ) (msp τ)) (g_fail σ x (mR τ) (mB τ) (asp σ)) := by
  have hB6 := r.hB.2
  have hR5 := r.hR.2
  unfold g_Mfail g_fail
  by_cases c1 : n_lt x (mB τ)
  · have c12 := c1.2
    by_cases c2 : τ 5000 1 = 3
    · have e5 := (h.n3 c2).1.1 (cn x) (by omega)
      by_cases c3 : σ 1040 (cn x) = -1
      · rw [if_pos c1, if_pos c2, if_pos (e5.trans c3), if_pos c1, if_pos (hst.trans c2), if_pos c3]
        exact h.kept r MX.s00 VX.rfl'
      · rw [if_pos c1, if_pos c2, if_neg (fun e => c3 (e5.symm.trans e)), if_pos c1, if_pos (hst.trans c2), if_neg c3, won_eq h r p a c2 c12 c3, h.d]
        obtain ⟨d9, ed⟩ : ∃ d9, d9 = τ 5000 5 + f_Bamount (u2 τ 5000 0 0) (cn x) (cn (τ 5005 (cn x))) / 10 := ⟨_, rfl⟩
        rw [← ed]
        have e : ∀ q, q ≠ 5000 → u2 (u2 τ 5000 0 0) 5000 5 d9 q = τ q := fun q hq => by rw [u2_ne hq, u2_ne hq]
        have e50 : ∀ i, i ≠ 0 → i ≠ 5 → u2 (u2 τ 5000 0 0) 5000 5 d9 5000 i = τ 5000 i := fun i h0 h1 => by rw [u2_oi h1, u2_oi h0]
        have f : ∀ q, q ≠ 1000 → u2 σ 1000 10 d9 q = σ q := fun q hq => u2_ne hq
        obtain ⟨⟨k, F⟩, m, w, y9⟩ := h.mid (t := u2 (u2 τ 5000 0 0) 5000 5 d9) (s := u2 σ 1000 10 d9) (not01 (.inr c2)) r p (fun q i hk hn => by
          by_cases eq : q = 5000
          · subst eq
            exact e50 i (by omega) (by omega)
          · rw [e q eq]) (fun q i hk hn => by rw [f q hn])
        have T : TA (u2 (u2 τ 5000 0 0) 5000 5 d9) (u2 σ 1000 10 d9) := ⟨by
          rw [f _ (by decide), e50 2 (by decide) (by decide)]
          exact a.1.2.1, fun q hq => by
          rw [f _ (by decide), e _ (by omega)]
          exact (a.2.1 q hq).1⟩
        obtain ⟨⟨k2, F2⟩, m2, w2, y2, s2⟩ := out_step (i := cn x) m w F k T (by omega)
        have e2 : ∀ q, q ≠ 5000 → q ≠ 5020 + cn x → u2 (u2 (u2 τ 5000 0 0) 5000 5 d9) (5020 + cn x) 4 1 q = τ q := fun q h1 h2 => by rw [u2_ne h2, e q h1]
        have e3 : ∀ i, i ≠ 0 → i ≠ 5 → u2 (u2 (u2 τ 5000 0 0) 5000 5 d9) (5020 + cn x) 4 1 5000 i = τ 5000 i := fun i h0 h1 => by rw [u2_ne (by omega), e50 i h0 h1]
        have g1 : ∀ q, q ≠ 1000 → q ≠ 1003 → (q < 1040 ∨ (1041 < q ∧ q < 1131) ∨ 1133 < q) → g_find (g_leaveOut (u2 σ 1000 10 d9) (cn x)) q = σ q := fun q h1 h2 h3 => by rw [s2 q h2 h3, f q h1]
        have g0 : ∀ i, i ≠ 10 → g_find (g_leaveOut (u2 σ 1000 10 d9) (cn x)) 1000 i = σ 1000 i := fun i h0 => by rw [s2 1000 (by decide) (by decide), u2_oi h0]
        have q1 : mR (u2 (u2 (u2 τ 5000 0 0) 5000 5 d9) (5020 + cn x) 4 1) = mR τ := by
          show cn (u2 _ _ _ _ 5001 900) = _
          rw [e2 _ (by decide) (by omega)]
        have q2 : mB (u2 (u2 (u2 τ 5000 0 0) 5000 5 d9) (5020 + cn x) 4 1) = mB τ := by
          show cn (u2 _ _ _ _ 5002 900) = _
          rw [e2 _ (by decide) (by omega)]
        have q3 : mpk (u2 (u2 (u2 τ 5000 0 0) 5000 5 d9) (5020 + cn x) 4 1) = mpk τ := funext fun j => by
          show cn (u2 _ _ _ _ (5030 + j) 900) / 2 = _
          rw [e2 _ (by omega) (by omega)]
        have q4 : mgr (u2 (u2 (u2 τ 5000 0 0) 5000 5 d9) (5020 + cn x) 4 1) = mgr τ := funext fun j => by
          show cn (u2 _ _ _ _ (5020 + j) 3) = _
          rw [u2_sl (by decide), e _ (by omega)]
        have q5 : mcd (u2 (u2 (u2 τ 5000 0 0) 5000 5 d9) (5020 + cn x) 4 1) = mcd τ := funext fun j => funext fun k => by
          show cn (u2 _ _ _ _ (5030 + j) (2 * k)) = _
          rw [e2 _ (by omega) (by omega)]
        have q6 : msp (u2 (u2 (u2 τ 5000 0 0) 5000 5 d9) (5020 + cn x) 4 1) = msp τ := funext fun j => by
          show cn (u2 _ _ _ _ (5010 + j) 0) = _
          rw [u2_sl (by decide), e _ (by omega)]
        have H := RM.keep (t := u2 (u2 (u2 τ 5000 0 0) 5000 5 d9) (5020 + cn x) 4 1) (s := g_find (g_leaveOut (u2 σ 1000 10 d9) (cn x))) (spc := asp σ) (wy := mwy τ) (by rw [e3 1 (by decide) (by decide)]; exact c2) k2 (by
          rw [s2 1000 (by decide) (by decide), u2_at, u2_ne (by omega), u2_at]) F2 ⟨by
          rw [g1 _ (by decide) (by decide) (by decide), e3 2 (by decide) (by decide)]
          exact a.1.2.1, fun q hq => by
          rw [g1 _ (by decide) (by decide) (by decide), e2 _ (by omega) (by omega)]
          exact (a.2.1 q hq).1⟩ m2 w2 y2 (by rw [e3 7 (by decide) (by decide)]; exact r.hwy.1) r.hwy.2 (by
          rw [g0 9 (by decide), e3 7 (by decide) (by decide)]
          exact (h.n3 c2).1.2.2) (fun q hq => by
          rw [g1 _ (by decide) (by decide) (by decide), u2_sl (by decide), e _ (by omega)]
          exact (a.2.1 q hq).2.2.2) (fun q hq => by
          rw [q1] at hq
          rw [q6]
          show cn (σ 1010 q) = cn (τ (5010 + q) 0)
          rw [(a.2.1 q (by omega)).1])
        rw [q1, q2, q3, q4, q5, q6] at H
        exact H
    · rw [if_pos c1, if_neg c2, if_pos c1, if_neg (fun e => c2 (hst.symm.trans e))]
      exact h.kept r MX.s00 VX.rfl'
  · rw [if_neg c1, if_neg c1]
    exact h.kept r MX.s00 VX.rfl'
/-- one more package, told by a bidder -/
theorem RM.offer (h : RM τ σ) (r : JR τ) (p : JP τ) (a : RA τ σ) (z9 : RZ τ) (hst : σ 1000 7 = τ 5000 1) (hgr : ∀ j, j < 6 → gr j = mgr τ j ∧ gr j < 4) (hcn : ∀ j, j < 6 → cnt j = pkB τ j) : RM (g_Moffer τ x y v (mR τ) (mB τ) (mpk τ)) (g_offer σ x y v (mR τ) (mB τ) gr cnt) := by
  have hB6 := r.hB.2
  unfold g_Moffer g_offer
  by_cases c1 : n_lt x (mB τ)
  · have c12 := c1.2
    have ce := code_eq (σ := σ) (y := y) r
    rw [if_pos c1, if_pos c1]
    by_cases c2 : y < 0
    · rw [if_pos c2, if_pos (ce.mpr (.inl c2))]
      exact h.kept r MX.s00 VX.rfl'
    · rw [if_neg c2]
      by_cases c3 : f_power (mR τ) ≤ y
      · rw [if_pos c3, if_pos (ce.mpr (.inr c3))]
        exact h.kept r MX.s00 VX.rfl'
      · rw [if_neg c3, if_neg (fun w => (ce.mp w).elim c2 c3)]
        by_cases c4 : 0 ≤ v
        · rw [if_pos c4, if_pos c4]
          by_cases c5 : τ 5000 1 = 2
          · rw [if_pos c5, if_pos (hst.trans c5)]
            obtain ⟨hy, hy2⟩ := code_bd r c2 c3
            have ep : cnt (cn x) = mpk τ (cn x) := by
              rw [hcn (cn x) (by omega)]
              exact if_pos c12
            rw [ep]
            by_cases c6 : 6 ≤ nI (mpk τ (cn x))
            · rw [if_pos c6, if_pos c6]
              exact h.kept r MX.s00 VX.rfl'
            · rw [if_neg c6, if_neg c6]
              have mo := may_off (i := cn x) (z := v) a r p z9 h.k c12 hy hy2 c4
              by_cases c7 : f_mayOffer σ (cn x) y v (mR τ) = 0
              · rw [if_pos c7]
                have mo := mo.mp c7
                by_cases d1 : y ≤ 0
                · rw [if_pos d1]
                  exact h.kept r MX.s00 VX.rfl'
                · rw [if_neg d1]
                  by_cases d2 : τ (5020 + cn x) 0 < v
                  · rw [if_pos d2]
                    exact h.kept r MX.s00 VX.rfl'
                  · rw [if_neg d2]
                    by_cases d3 : (x_Moffer_104 τ y (mR τ) (1, Int64.ofNat (0 : Fin 2))).1 = 0
                    · rw [if_pos d3]
                      exact h.kept r MX.s00 VX.rfl'
                    · rw [if_neg d3, if_neg (((mo.resolve_left d1).resolve_left d2).resolve_left d3)]
                      exact h.kept r MX.s00 VX.rfl'
              · have mo := fun w => c7 (mo.mpr w)
                have d2 : ¬ τ (5020 + cn x) 0 < v := fun w => mo (.inr (.inl w))
                rw [if_neg c7, if_neg (fun w => mo (.inl w)), if_neg d2, if_neg (fun w => mo (.inr (.inr (.inl w)))), if_pos (Classical.byContradiction fun w => mo (.inr (.inr (.inr w))))]
                have hn : mpk τ (cn x) < 6 := by
                  have k6 := (r.hpk (cn x) c12).2
                  exact (nI_ltI (a := mpk τ (cn x)) (b := 6) (by omega) (by omega)).mp (Int32.not_le.mp c6)
                have vb : bd 300000 v := (bd.leq (p.2.1 (cn x) (by omega)) (by decide) c4 d2 (Nat.le_refl _)).le (by decide)
                obtain ⟨⟨k, F⟩, m, w, _⟩ := h.mid (t := u2 τ 5000 0 0) (s := σ) (not01 (.inl c5)) r p (fun q i hk hn => MX.s0 q i hk) (fun _ _ _ _ => rfl)
                have T : TA (u2 τ 5000 0 0) σ := ⟨by rw [u2_oi (by decide)]; exact a.1.2.1, fun q hq => by rw [u2_ne (by omega)]; exact (a.2.1 q hq).1⟩
                have q1 : mR (u2 τ 5000 0 0) = mR τ := MX.s0.R
                have q2 : mB (u2 τ 5000 0 0) = mB τ := MX.s0.B
                have q3 : ∀ j, j < 6 → mpk (u2 τ 5000 0 0) j = mpk τ j := fun j hj => MX.s0.pk hj
                have A := add_step (i := cn x) (x := y) (y := v) (gr := gr) (cnt := cnt) T F k m (by rw [q2]; exact c12) (by rw [q3 _ (by omega)]; exact hn) hy (by rw [q1]; exact hy2) vb (fun j hj => by
                  rw [show mgr (u2 τ 5000 0 0) j = mgr τ j by
                    show cn (u2 τ 5000 0 0 (5020 + j) 3) = _
                    rw [u2_ne (by omega)]]
                  exact hgr j hj) (fun j hj => by rw [MX.s0.pkb hj]; exact hcn j hj)
                rw [q3 _ (by omega), q1, q2] at A
                have F3 := F.madd (i := cn x) (x := y) (y := v) (by rw [q2]; exact c12) (by rw [q3 _ (by omega)]; exact hn) hy (by rw [q1]; exact hy2) vb
                rw [q3 _ (by omega)] at F3
                obtain ⟨k2, m2, w2⟩ := A
                have fa : ∀ q, (q < 1020 ∨ 1124 < q) → g_addM σ (cn x) y v (mR τ) (mB τ) gr cnt q = σ q := fun q hq => fr_addM ⟨by omega, hq, fun j hj => (hgr j hj).2⟩ (by rw [ep]; omega)
                have fm : ∀ q, (q < 5030 ∨ 5035 < q) → g_Madd (u2 τ 5000 0 0) (cn x) (mpk τ (cn x)) y v q = u2 τ 5000 0 0 q := fun q hq => madd_row (by omega)
                have T2 : TA (g_Madd (u2 τ 5000 0 0) (cn x) (mpk τ (cn x)) y v) (g_addM σ (cn x) y v (mR τ) (mB τ) gr cnt) := ⟨by rw [fa _ (by decide), fm _ (by decide)]; exact T.1, fun q hq => by rw [fa _ (by decide), fm _ (by omega)]; exact T.2 q hq⟩
                have P2 := PCx.mk T2 F3 k2
                have s2 : g_Madd (u2 τ 5000 0 0) (cn x) (mpk τ (cn x)) y v 5000 1 = 2 := by
                  rw [fm _ (by decide), u2_oi (by decide)]
                  exact c5
                have d5 : g_Madd (u2 τ 5000 0 0) (cn x) (mpk τ (cn x)) y v 5000 5 = τ 5000 5 := by
                  rw [fm _ (by decide), u2_oi (by decide)]
                generalize g_addM σ (cn x) y v (mR τ) (mB τ) gr cnt = s3 at k2 m2 w2 fa P2 ⊢
                generalize g_Madd (u2 τ 5000 0 0) (cn x) (mpk τ (cn x)) y v = t3 at k2 m2 w2 s2 d5 F3 P2 ⊢
                have ff : ∀ q, (q < 1131 ∨ 1133 < q) → g_find s3 q = s3 q := fun q hq => fr_find ⟨by omega, by omega, by omega⟩
                have same : (∀ d, Xm t3 d ↔ Xm t3 d) ∧ ∀ d, cAm (Am t3) d = cAm (Am t3) d := ⟨fun _ => Iff.rfl, fun _ => rfl⟩
                obtain ⟨n1, n2⟩ := h.n0 (by rw [c5]; decide)
                have hB3 := F3.1.2
                refine ⟨⟨⟨k2.1, fun j hj => by rw [ff _ (by omega)]; exact k2.2.1 j hj, fun j hj k9 hk => by rw [ff _ (by omega), ff _ (by omega)]; exact k2.2.2 j hj k9 hk⟩, by rw [ff _ (by omega), fa _ (by decide), d5]; exact h.d⟩, fun e => absurd e (not01 (.inl s2)), fun _ => ⟨m2.of same (fun _ _ => rfl) fun q i hq => by rw [ff _ (by omega)], w2.of same fun q i hq => by rw [ff _ (by omega)], PYQ.found w2 P2 F3.p6⟩, fun _ => ⟨fun q hq b hb => by rw [ff _ (by omega), fa _ (by omega)]; exact n1 q hq b hb, by rw [ff _ (by omega), fa _ (by decide)]; exact n2⟩, fun e => absurd (s2.symm.trans e) (by decide)⟩
          · rw [if_neg c5, if_neg (fun e => c5 (hst.symm.trans e))]
            exact h.kept r MX.s00 VX.rfl'
        · rw [if_neg c4, if_neg c4]
          exact h.kept r MX.s00 VX.rfl'
  · rw [if_neg c1, if_neg c1]
    exact h.kept r MX.s00 VX.rfl'
end
