/-! ===== the market and the clock's closes ===== -/
section
variable {τ σ t s : XS9} {R B : Nat} {gr : Nat → Nat} {x : Int32}
theorem not01 {v : Int32} (h : v = 2 ∨ v = 3) : ¬ v ≤ 1 := fun q => by
  rcases h with h | h <;> (rw [h] at q; exact absurd q (by decide))
/-- the clock is over: the packages, the winners, the payments -/
theorem RM.over (h : RM τ σ) (hs : τ 5000 1 = 1) (hs2 : t 5000 1 = 2) (m : ∀ q i, kX q i → ¬ (q = 5000 ∧ i = 1) → t q i = τ q i) (c : VX σ s) (r : JR τ) (p : JP τ) (a : RA τ σ) (hcap : TA t s) (hgr : ∀ j, j < 6 → gr j = mgr τ j ∧ gr j < 4) {K : Nat} (hK : K < 60) {pk : Nat → Nat} {cc am : Nat → Int32} (hpk : ∀ j, j < mB τ → mpk τ j = 0 ∧ pk j = 0) (hc : ∀ j, j < mB τ → s 2002 j = cc j ∧ bd 7775 (cc j) ∧ cn (cc j) < 6 ^ mR τ ∧ bd 300000 (am j) ∧ f_lastValue s 2000 (cc j) K = am j) : RM (xit (stAm pk cc am) (mB τ) 0 t) (g_find (xit (stEc (mR τ) (mB τ) K gr) (mB τ) 0 s)) := by
  have hB6 := r.hB.2
  have hR5 := r.hR.2
  have st : τ 5000 1 ≤ 1 := by rw [hs]; decide
  have eR : mR t = mR τ := congrArg cn (m _ _ (by unfold kX; omega) (by omega))
  have eB : mB t = mB τ := congrArg cn (m _ _ (by unfold kX; omega) (by omega))
  have ep : ∀ j, j < 6 → mpk t j = mpk τ j := fun j hj => by
    show cn (t (5030 + j) 900) / 2 = _
    rw [m _ _ (by unfold kX; omega) (by omega)]
  have eg : ∀ j, j < 6 → mgr t j = mgr τ j := fun j hj => by
    show cn (t (5020 + j) 3) = _
    rw [m _ _ (by unfold kX; omega) (by omega)]
  have kx' : ∀ q i, kx q i → s q i = σ q i := c
  have E := h.e st
  have pB : ∀ j, j < 6 → pkB t j = 0 := fun j hj => by
    have := E.2.2.2 j hj
    unfold pkB at this ⊢
    rw [eB, ep j hj]
    exact this
  -- the empty market at t and s
  have E2 : EMP t s := by
    obtain ⟨⟨⟨a1, a2, a3⟩, ⟨b1, b2⟩, b3⟩, ⟨c1, c2, c3⟩, ⟨d1, d2⟩, d3⟩ := E
    refine ⟨⟨⟨fun j hj => ?_, fun q hq => ?_, fun g hg q hq => ?_⟩, ⟨?_, fun S h1 h2 => ?_⟩, fun S hS j hj => ?_⟩, ⟨fun j hj => ?_, fun S hS => ?_, fun w hw j hj => ?_⟩, ⟨?_, fun j hj => ?_⟩, pB⟩
    · rw [kx' _ _ (by unfold kx; omega)]; exact a1 j hj
    · rw [kx' _ _ (by unfold kx; omega)]; exact a2 q hq
    · rw [kx' _ _ (by unfold kx; omega)]; exact a3 g hg q hq
    · rw [kx' _ _ (by unfold kx; omega)]; exact b1
    · rw [kx' _ _ (by unfold kx; omega)]; exact b2 S h1 h2
    · rw [kx' _ _ (by unfold kx; omega)]; exact b3 S hS j hj
    · rw [kx' _ _ (by unfold kx; omega)]; exact c1 j hj
    · rw [kx' _ _ (by unfold kx; omega)]; exact c2 S hS
    · rw [kx' _ _ (by unfold kx; omega)]; exact c3 w hw j hj
    · rw [kx' _ _ (by unfold kx; omega)]; exact d1
    · rw [m _ _ (by unfold kX; omega) (by omega)]; exact d2 j hj
  obtain ⟨M0, W0⟩ := E2.mk
  have K0 : RK t s := ⟨by rw [m _ _ (by unfold kX; omega) (by omega)]; exact h.k.1, fun j hj => by rw [kx' _ _ (by unfold kx; omega), h.k.n hj, pB j hj]; exact congrArg nI (E.2.2.2 j hj), fun j hj k hk => by
    rw [eB] at hj
    rw [ep j (by omega), (hpk j hj).1] at hk
    omega⟩
  have F0 : TKF t := (TKF.mk r h.k p).of fun q i hk => m q i (by unfold kt at hk; unfold kX; omega) (by unfold kt at hk; omega)
  have L := add_loop (gr := gr) (pk := pk) (c := cc) (am := am) hcap F0 K0 M0 W0 (fun j hj => by rw [eg j hj]; exact hgr j hj) hK (fun j hj => by
    rw [eB] at hj
    rw [ep j (by omega)]
    exact hpk j hj) (fun j hj => by
    rw [eB] at hj
    rw [eR]
    exact hc j hj)
  rw [eR, eB] at L
  generalize xit (stEc (mR τ) (mB τ) K gr) (mB τ) 0 s = s2 at L ⊢
  generalize xit (stAm pk cc am) (mB τ) 0 t = t2 at L ⊢
  obtain ⟨⟨k2, m2, w2⟩, ⟨F2, a2⟩, f1, f2⟩ := L
  have ff : ∀ q, (q < 1131 ∨ 1133 < q) → g_find s2 q = s2 q := fun q hq => fr_find ⟨by omega, by omega, by omega⟩
  have e2 : t2 5000 1 = 2 := by rw [f2 _ (by decide)]; exact hs2
  have P2 := PCx.mk a2 F2 k2
  have eR2 : mR t2 = mR t := by
    show cn (t2 5001 900) = _
    rw [f2 _ (by decide)]
  have sameX : (∀ d, Xm t2 d ↔ Xm t2 d) ∧ ∀ d, cAm (Am t2) d = cAm (Am t2) d := ⟨fun _ => Iff.rfl, fun _ => rfl⟩
  obtain ⟨n1, n2⟩ := h.n0 (by rw [hs]; decide)
  refine ⟨⟨⟨k2.1, fun j hj => by rw [ff _ (by omega)]; exact k2.2.1 j hj, fun j hj k hk => ?_⟩, ?_⟩, fun e => absurd e (not01 (.inl e2)), fun _ => ⟨m2.of sameX (fun _ _ => rfl) fun q i hq => by rw [ff _ (by omega)], w2.of sameX fun q i hq => by rw [ff _ (by omega)], PYQ.found w2 P2 F2.p6⟩, fun _ => ⟨fun q hq b hb => ?_, ?_⟩, fun e => absurd (e2.symm.trans e) (by decide)⟩
  · have := F2.1.2
    rw [ff _ (by omega), ff _ (by omega)]
    exact k2.2.2 j hj k hk
  · rw [ff _ (by omega), f1 _ (by decide), f2 _ (by decide), kx' _ _ (by unfold kx; omega), m _ _ (by unfold kX; omega) (by omega)]
    exact h.d
  · rw [ff _ (by omega), f1 _ (by omega), kx' _ _ (by unfold kx; omega)]
    exact n1 q hq b hb
  · rw [ff _ (by omega), f1 _ (by decide), kx' _ _ (by unfold kx; omega)]
    exact n2
/-- one close on both sides -/
theorem RM.clo (h : RM τ σ) (P : PCl (mR τ) (mB τ) τ σ) (hz : HZ τ) (hs : τ 5000 1 = 1) (hgr : ∀ j, j < 6 → gr j = mgr τ j ∧ gr j < 4) : RM (g_clo τ) (if f_closeRound σ 2000 (σ 1000 8) (mB τ) (mR τ) (cn (σ 2000 9)) = 0 then g_closeRound σ 2000 (σ 1000 8) (mB τ) (mR τ) (cn (σ 2000 9)) else g_endClock (g_closeRound σ 2000 (σ 1000 8) (mB τ) (mR τ) (cn (σ 2000 9))) (mR τ) (mB τ) (min (cn (σ 2000 9)) 59) gr) ∧ HZ (g_clo τ) := by
  obtain ⟨⟨rc, a, z⟩, ⟨jc, kb⟩, ⟨r, js, jp⟩, _, _⟩ := P
  obtain ⟨kw, zo9, e1, e2, e3, g9⟩ := js.1 hs
  have hB6 := r.hB.2
  have hR5 := r.hR.2
  have ek : cn (σ 2000 9) = mn τ := (congrArg cn rc.k).trans e3
  obtain ⟨A, F⟩ := RC.clo1 rc a z jc r js hs
  have cl : g_clo τ = g_McloseOne τ (mR τ) (mB τ) (mK τ) (mg τ) (mw τ) (mn τ) (mpk τ) := rfl
  rw [cl, ek, rc.stp, e3]
  have hpk0 : ∀ j, j < 6 → mpk τ j = 0 := js.2.1 (.inr hs)
  have cc := clo1_c (σ := τ) (R := mR τ) (B := mB τ) (K := mn τ) (g := mg τ) (w := mw τ) (n := mn τ) (by omega) (by omega) g9 g9
  have fr : ∀ q, (q < 5003 ∨ (5003 < q ∧ q < 5200) ∨ (8000 ≤ q)) → g_clo1 τ (mR τ) (mB τ) (mn τ) (mg τ) (mw τ) (mn τ) q = τ q := fun q hq => fr_clo1 (by omega) (by omega) g9 g9 (by omega)
  have f7 : ∀ q, 7000 ≤ q → q < 8000 → g_clo1 τ (mR τ) (mB τ) (mn τ) (mg τ) (mw τ) (mn τ) q = g_Kclose τ (τ 5000 4) 7000 (mR τ) (mB τ) (mg τ) (mw τ) (mn τ) q := fun q h1 h2 => by
    unfold g_clo1
    exact fr_rnd (by omega)
  have rp := rnd_p (σ := g_Kclose τ (τ 5000 4) 7000 (mR τ) (mB τ) (mg τ) (mw τ) (mn τ)) (K := mn τ) (t := τ 5000 4) (f1 := τ (7000 + 1)) (f2 := τ (7000 + 500 + mg τ)) (f3 := g_Kclose τ (τ 5000 4) 7000 (mR τ) (mB τ) (mg τ) (mw τ) (mn τ) (7000 + 2)) (f4 := τ (7000 + 700 + mw τ)) g9
  have m6000 : g_clo1 τ (mR τ) (mB τ) (mn τ) (mg τ) (mw τ) (mn τ) (6000 + mn τ) = τ 7001 := rp.1
  have m6200 : g_clo1 τ (mR τ) (mB τ) (mn τ) (mg τ) (mw τ) (mn τ) (6200 + mn τ) = g_Kclose τ (τ 5000 4) 7000 (mR τ) (mB τ) (mg τ) (mw τ) (mn τ) 7002 := rp.2.2.1
  have hi := Kclose_hi (σ := τ) (x := τ 5000 4) (b' := 7000) (R := mR τ) (B := mB τ) (g := mg τ) (w := mw τ) (n := mn τ) (q := msp τ) kw hR5 hB6 (by omega) g9 (by omega) (fun q hq => r.hsp q hq)
  have kw2 := kw.close (x := τ 5000 4) (w := mw τ) (n := mn τ) hR5 hB6 (by omega) (by omega) g9
  have zK : ∀ j, j < mB τ → ∀ k, mR τ ≤ k → k < 5 → dgt (g_Kclose τ (τ 5000 4) 7000 (mR τ) (mB τ) (mg τ) (mw τ) (mn τ) 7002 j) k = 0 := fun j hj k h1 h2 => (hi j hj k h1 h2).trans (hz hs j hj k h1 h2).1
  have st1 : g_clo1 τ (mR τ) (mB τ) (mn τ) (mg τ) (mw τ) (mn τ) 5000 1 = 1 := by
    rw [fr _ (by omega)]
    exact hs
  have mx : MX τ (g_clo1 τ (mR τ) (mB τ) (mn τ) (mg τ) (mw τ) (mn τ)) := fun q i hk => by rw [fr q (by unfold kX at hk; omega)]
  have vx : VX σ (g_closeRound σ 2000 (τ 5000 4) (mB τ) (mR τ) (mn τ)) := VX.rows fun q hq => fr_closeRound (by omega)
  have e7000 : g_Kclose τ (τ 5000 4) 7000 (mR τ) (mB τ) (mg τ) (mw τ) (mn τ) (7000 + 500 + (mg τ + 1)) = g_Kclose τ (τ 5000 4) 7000 (mR τ) (mB τ) (mg τ) (mw τ) (mn τ) (7000 + 2) := by
    rw [Kclose_eq, kcF_wish (by omega) g9, kcF_row (by omega)]
  have hz1 : HZ (g_clo1 τ (mR τ) (mB τ) (mn τ) (mg τ) (mw τ) (mn τ)) := fun _ j hj k h1 h2 => by
    rw [mx.B] at hj
    rw [mx.R] at h1
    have eg : mg (g_clo1 τ (mR τ) (mB τ) (mn τ) (mg τ) (mw τ) (mn τ)) = mg τ + 1 := (congrArg cn cc.2.2.2.2.1).trans (cn_nI (by omega))
    rw [eg, f7 7002 (by decide) (by decide), f7 (7500 + (mg τ + 1)) (by omega) (by omega)]
    refine ⟨zK j hj k h1 h2, ?_⟩
    have e9 : g_Kclose τ (τ 5000 4) 7000 (mR τ) (mB τ) (mg τ) (mw τ) (mn τ) (7500 + (mg τ + 1)) = g_Kclose τ (τ 5000 4) 7000 (mR τ) (mB τ) (mg τ) (mw τ) (mn τ) 7002 := e7000
    rw [e9]
    exact zK j hj k h1 h2
  unfold g_McloseOne
  rw [← F]
  by_cases c : f_closeRound σ 2000 (τ 5000 4) (mB τ) (mR τ) (mn τ) = 0
  · rw [if_pos c, if_pos c]
    exact ⟨h.kept r mx vx, hz1⟩
  · rw [if_neg c, if_neg c]
    have Q := A.on1 st1
    rw [mx.R, mx.B] at Q
    have ent : mn (g_clo1 τ (mR τ) (mB τ) (mn τ) (mg τ) (mw τ) (mn τ)) = mn τ + 1 := (congrArg cn cc.2.2.1).trans (cn_nI (by omega))
    rw [ent] at Q
    have h59 : min (mn τ) 59 = mn τ := by omega
    rw [h59]
    have held : ∀ j, j < mB τ → g_closeRound σ 2000 (τ 5000 4) (mB τ) (mR τ) (mn τ) 2002 j = g_clo1 τ (mR τ) (mB τ) (mn τ) (mg τ) (mw τ) (mn τ) (6200 + mn τ) j ∧ bd 7775 (g_clo1 τ (mR τ) (mB τ) (mn τ) (mg τ) (mw τ) (mn τ) (6200 + mn τ) j) := fun j hj => by
      have q1 := Q.he j hj
      rw [m6200]
      have q2 : g_clo1 τ (mR τ) (mB τ) (mn τ) (mg τ) (mw τ) (mn τ) (7000 + 2) = g_Kclose τ (τ 5000 4) 7000 (mR τ) (mB τ) (mg τ) (mw τ) (mn τ) 7002 := f7 7002 (by decide) (by decide)
      rw [q2] at q1
      exact q1
    have lp := Q.lp (mn τ) (by omega)
    have lp2 : ∀ q, q < mR τ → g_closeRound σ 2000 (τ 5000 4) (mB τ) (mR τ) (mn τ) (2000 + 101 + mn τ) q = g_clo1 τ (mR τ) (mB τ) (mn τ) (mg τ) (mw τ) (mn τ) (6000 + mn τ) q := fun q hq => by
      have h60 : nI (mn τ) < 60 := (nI_ltI (a := mn τ) (b := 60) (by omega) (by omega)).mpr g9
      rw [m6000, show g_closeRound σ 2000 (τ 5000 4) (mB τ) (mR τ) (mn τ) (2000 + 101 + mn τ) q = σ 2001 q from cR_p (b := 2000) h60 g9 (by omega)]
      exact (rc.on1 hs).p q hq
    have ov := RM.over (t := u2 (g_clo1 τ (mR τ) (mB τ) (mn τ) (mg τ) (mw τ) (mn τ)) 5000 1 2) (s := u2 (g_closeRound σ 2000 (τ 5000 4) (mB τ) (mR τ) (mn τ)) 1000 7 2) (gr := gr) (K := mn τ) (pk := mpk τ) (cc := g_clo1 τ (mR τ) (mB τ) (mn τ) (mg τ) (mw τ) (mn τ) (6200 + mn τ)) (am := fun i => xit (fun i138 (s138 : Int32) => s138 + ((f_of (g_clo1 τ (mR τ) (mB τ) (mn τ) (mg τ) (mw τ) (mn τ) (6200 + mn τ) i) i138) * (g_clo1 τ (mR τ) (mB τ) (mn τ) (mg τ) (mw τ) (mn τ) (6000 + mn τ) i138))) (mR τ) 0 0) h hs u2_at (fun q i hk hn => by
      rw [u2_o (fun a b => hn ⟨a, b⟩)]
      exact mx q i hk) (vx.trans (VX.set (fun k => by unfold kx at k; omega))) r jp a ⟨by
      rw [u2_ne (by decide), u2_oi (by decide), fr_closeRound (by omega), fr _ (by omega)]
      exact a.1.2.1, fun q hq => by
      rw [u2_ne (by decide), u2_ne (by omega), fr_closeRound (by omega), fr _ (by omega)]
      exact (a.2.1 q hq).1⟩ hgr g9 (fun j hj => ⟨hpk0 j (by omega), hpk0 j (by omega)⟩) (fun j hj => by
      obtain ⟨q1, q2⟩ := held j hj
      refine ⟨by rw [u2_ne (by decide)]; exact q1, q2, code_lt q2 hR5 (fun k h1 h2 => by rw [m6200]; exact zK j hj k h1 h2), last_bd q2 hR5 (fun q hq => by rw [m6000]; exact jp.2.2.2.1 hs q (by omega)), ?_⟩
      unfold f_lastValue
      rw [u2_ne (by omega)]
      exact last_eq q2 hR5 lp2 (fun q h1 h2 => lp.2 q h1 h2))
    refine ⟨ov, HZ.off fun e => ?_⟩
    have e5 : x_McloseOne_122 τ (mR τ) (mB τ) (mn τ) (mg τ) (mw τ) (mn τ) (mpk τ) (u2 (g_clo1 τ (mR τ) (mB τ) (mn τ) (mg τ) (mw τ) (mn τ)) 5000 1 2) 5000 1 = 2 := by
      rw [MK.over hB6 5000 1 (by unfold km; omega)]
      exact u2_at
    rw [e5] at e
    exact absurd e (by decide)
theorem close_loop2 (hgr : ∀ τ' : XS9, MA τ τ' → ∀ j, j < 6 → gr j = mgr τ' j ∧ gr j < 4) (R B : Nat) : ∀ (f i : Nat) (τ' σ : XS9), MA τ τ' → PCl R B τ' σ → RM τ' σ → HZ τ' → RM (xitB stMc f i τ') (xitB (stCl R B gr) f i σ) ∧ HZ (xitB stMc f i τ')
  | 0, _, _, _, _, _, h, z => ⟨h, z⟩
  | f + 1, i, τ', σ, ma, P, h, z => by
    have P0 := P
    obtain ⟨⟨rc, a, z9⟩, ⟨jc, kb⟩, ⟨r, js, jp⟩, eR, eB⟩ := P0
    by_cases hs : τ' 5000 1 = 1
    · have hc : σ 1000 7 = 1 := rc.st.trans hs
      have hg : ∀ j, j < 6 → gr j < 4 := fun j hj => (hgr τ' ma j hj).2
      have X := rc.clo a z9 jc r js hs hg
      have Y := h.clo (by rw [eR, eB]; exact P) z hs (hgr τ' ma)
      have hR5 := r.hR.2
      have hB6 := r.hB.2
      rw [eR] at hR5
      rw [eB] at hB6
      rw [eR, eB] at X Y
      have h60 := jc.hK.2
      have C1 : JC (g_closeRound σ 2000 (σ 1000 8) B R (cn (σ 2000 9))) ∧ KB (g_closeRound σ 2000 (σ 1000 8) B R (cn (σ 2000 9))) := ⟨jc.closeRound, kb.closeRound kb.2.2.2.2.2 hR5 hB6 h60⟩
      have C2 : VA σ (g_closeRound σ 2000 (σ 1000 8) B R (cn (σ 2000 9))) := VA.rows fun q hq => fr_closeRound (by omega)
      have ma2 : MA τ (g_clo τ') := ma.trans (MA.clo r js hs)
      rw [xitB_l (show stMc i τ' = .inl (g_clo τ') from if_pos hs)]
      by_cases c : f_closeRound σ 2000 (σ 1000 8) B R (cn (σ 2000 9)) = 0
      · rw [if_pos c] at X Y
        rw [xitB_l (show stCl R B gr i σ = .inl (g_closeRound σ 2000 (σ 1000 8) B R (cn (σ 2000 9))) from (if_pos hc).trans (if_pos c))]
        exact close_loop2 hgr R B f (i + 1) _ _ ma2 (P.fin hs C1 C2 X) Y.1 Y.2
      · rw [if_neg c] at X Y
        rw [xitB_l (show stCl R B gr i σ = .inl (g_endClock (g_closeRound σ 2000 (σ 1000 8) B R (cn (σ 2000 9))) R B (min (cn (σ 2000 9)) 59) gr) from (if_pos hc).trans (if_neg c))]
        exact close_loop2 hgr R B f (i + 1) _ _ ma2 (P.fin hs (JK.endClock C1.1 C1.2 hB6 (by omega) hg) (C2.trans (VA.endClock C1.1 hB6 hg)) X) Y.1 Y.2
    · rw [xitB_r (show stMc i τ' = .inr τ' from if_neg hs), xitB_r (show stCl R B gr i σ = .inr σ from if_neg (fun e => hs (rc.st.symm.trans e)))]
      exact ⟨h, z⟩
theorem RM.close (h : RM τ σ) (P : PCl (mR τ) (mB τ) τ σ) (hz : HZ τ) (hgr : ∀ j, j < 6 → gr j = mgr τ j ∧ gr j < 4) : RM (g_Mclose τ x) (g_close σ x (mR τ) (mB τ) gr) ∧ HZ (g_Mclose τ x) := by
  have P0 := P.s0
  have rc := P.1.1
  have r := P.2.2.1.1
  unfold g_Mclose g_close
  by_cases c1 : n_bt x 1 9
  · by_cases c2 : τ 5000 1 = 1
    · rw [if_pos c1, if_pos c2, if_pos c1, if_pos (rc.st.trans c2)]
      exact close_loop2 (τ := τ) (gr := gr) (fun τ' ma j hj => by
        rw [(hgr j hj).1]
        refine ⟨?_, by rw [← (hgr j hj).1]; exact (hgr j hj).2⟩
        show cn (τ (5020 + j) 3) = cn (τ' (5020 + j) 3)
        rw [ma (5020 + j) 3 (by unfold kb; omega)]) (mR τ) (mB τ) (cn x) 0 _ _ MA.s0 P0 (h.kept r MX.s0 VX.rfl') (hz.kept r MK.s0)
    · rw [if_pos c1, if_neg c2, if_pos c1, if_neg (fun e => c2 (rc.st.symm.trans e))]
      exact ⟨h.kept r MX.s00 VX.rfl', hz.kept r MK.s00⟩
  · rw [if_neg c1, if_neg c1]
    exact ⟨h.kept r MX.s00 VX.rfl', hz.kept r MK.s00⟩
end
