/-! ===== the clock: the close of rounds ===== -/
section
variable {s : XS9} {x : Int32} {b R B n : Nat}
theorem crM_row {K a : Nat} (h : a ≠ b + 2 ∧ a ≠ b + 3 ∧ a ≠ b + 4 ∧ a ≠ b + 6) : crM s b x B R K a = crL s b x K a := by
  unfold crM x_closeRound_92
  refine (xit_keep (fun s : XS9 => s a) (fun i s => by
    show g_moveHeld s b i B a = s a
    exact fr_moveHeld h.1) R 0 _).trans ?_
  rw [fr_lowerEligible h.2.2.1]
  unfold crU
  split
  · rfl
  · exact fr_undoContradictions ⟨h.2.2.2, h.2.1⟩
theorem cR_7 {k : Nat} (h60 : nI n < 60) : g_closeRound s b x B R n (b + 7) k = if k = n then x else s (b + 7) k := by
  rw [closeRound_eq h60, crF_row (by omega), crM_row (by omega)]
  unfold crL
  rw [uR_ne (by omega), uR_ne (by omega), u2_ne (by omega)]
  by_cases e : k = n
  · rw [if_pos e, e, u2_at]
  · rw [if_neg e, u2_oi e]
theorem cR_8 {k : Nat} (h60 : nI n < 60) : g_closeRound s b x B R n (b + 8) k = if k = n then s b 12 else s (b + 8) k := by
  rw [closeRound_eq h60, crF_row (by omega), crM_row (by omega)]
  unfold crL
  rw [uR_ne (by omega), uR_ne (by omega)]
  by_cases e : k = n
  · rw [if_pos e, e, u2_at]
  · rw [if_neg e, u2_oi e, u2_ne (by omega)]
theorem cR_p {r : Nat} (h60 : nI n < 60) (hn : n < 60) (hr : r < 5) : g_closeRound s b x B R n (b + 101 + n) r = s (b + 1) r := by
  rw [closeRound_eq h60, crF_row (by omega), crM_row (by omega), crL_p hn hr]
theorem cR_w {j : Nat} (h60 : nI n < 60) (hn : n < 60) (hj : j < 6) : g_closeRound s b x B R n (b + 201 + n) j = s (b + 3) j := by
  rw [closeRound_eq h60, crF_row (by omega), crM_row (by omega)]
  unfold crL
  rw [uR_eq, cpy_lo hj]
end
section
variable {τ σ : XS9} {gr : Nat → Nat}
theorem RC.clo1 (h : RC τ σ) (a : RA τ σ) (z : RZ τ) (jc : JC σ) (r : JR τ) (js : JS τ) (hs : τ 5000 1 = 1) : RC (g_clo1 τ (mR τ) (mB τ) (mn τ) (mg τ) (mw τ) (mn τ)) (g_closeRound σ 2000 (τ 5000 4) (mB τ) (mR τ) (mn τ)) ∧ f_closeRound σ 2000 (τ 5000 4) (mB τ) (mR τ) (mn τ) = g_clo1 τ (mR τ) (mB τ) (mn τ) (mg τ) (mw τ) (mn τ) 7000 9 := by
  obtain ⟨_, _, e1, e2, e3, g9⟩ := js.1 hs
  have hR := r.hR
  have hB := r.hB
  have hg : mg τ < 199 := by omega
  have hw : mw τ < 199 := by omega
  have Q := h.on1 hs
  have T := told a z jc
  have h60 : nI (mn τ) < 60 := (nI_ltI (a := mn τ) (b := 60) (by omega) (by omega)).mpr g9
  obtain ⟨C1, C2⟩ := close_sim (x := τ 5000 4) (b := 2000) (b' := 7000) (by omega) (by omega) hR.2 hB.2 g9 hg hw Q T
  have lt := h.lg.t
  have lm := h.lg.m
  have lp := h.lg.p
  have lw := h.lg.w
  have lh := h.lg.h
  rw [e3] at lt lm lp lw lh
  generalize eR : mR τ = R at *
  generalize eB : mB τ = B at *
  generalize eg : mg τ = g at *
  generalize ew : mw τ = w at *
  generalize en : mn τ = n at *
  have cc := clo1_c (σ := τ) (R := R) (B := B) hg hw g9 g9
  have c1 := clo1_n (σ := τ) (R := R) (B := B) (K := n) (g := g) (w := w) (n := n)
  have fr : ∀ q, (q < 5003 ∨ (5003 < q ∧ q < 5200) ∨ (8000 ≤ q)) → g_clo1 τ R B n g w n q = τ q := fun q hq => fr_clo1 hg hw g9 g9 (by omega)
  have fl : ∀ q k, k < n → (q = 5200 + k ∨ q = 6000 + k ∨ q = 6100 + k ∨ q = 6200 + k ∨ q = 6300 + k) → g_clo1 τ R B n g w n q = τ q := fun q k hk hq => fr_clo1 hg hw g9 g9 (by omega)
  have f7 : ∀ q, 7000 ≤ q → q < 8000 → g_clo1 τ R B n g w n q = g_Kclose τ (τ 5000 4) 7000 R B g w n q := fun q h1 h2 => by
    unfold g_clo1
    exact fr_rnd (by omega)
  have rp := rnd_p (σ := g_Kclose τ (τ 5000 4) 7000 R B g w n) (K := n) (t := τ 5000 4) (f1 := τ (7000 + 1)) (f2 := τ (7000 + 500 + g)) (f3 := g_Kclose τ (τ 5000 4) 7000 R B g w n (7000 + 2)) (f4 := τ (7000 + 700 + w)) g9
  have m60 : g_clo1 τ R B n g w n (6000 + n) = τ 7001 := rp.1
  have m61 : g_clo1 τ R B n g w n (6100 + n) = τ (7000 + 500 + g) := rp.2.1
  have m62 : g_clo1 τ R B n g w n (6200 + n) = g_Kclose τ (τ 5000 4) 7000 R B g w n 7002 := rp.2.2.1
  have m63 : g_clo1 τ R B n g w n (6300 + n) = τ (7000 + 700 + w) := rp.2.2.2.1
  have m52 : g_clo1 τ R B n g w n (5200 + n) 0 = τ 5000 4 := congrFun rp.2.2.2.2 0
  have fc : ∀ q, q < 2000 → g_closeRound σ 2000 (τ 5000 4) B R n q = σ q := fun q hq => fr_closeRound (by omega)
  have fcl : ∀ q k, k < n → (q = 2101 + k ∨ q = 2201 + k ∨ q = 2301 + k) → g_closeRound σ 2000 (τ 5000 4) B R n q = σ q := fun q k hk hq => fr_closeRound (by omega)
  have cR : mR (g_clo1 τ R B n g w n) = R := by
    show cn (g_clo1 τ R B n g w n 5001 900) = R
    rw [fr _ (by omega)]
    exact eR
  have cB : mB (g_clo1 τ R B n g w n) = B := by
    show cn (g_clo1 τ R B n g w n 5002 900) = B
    rw [fr _ (by omega)]
    exact eB
  have cK : mK (g_clo1 τ R B n g w n) = n + 1 := by
    show cn (g_clo1 τ R B n g w n 5003 900) = n + 1
    rw [c1, cn_nI (by omega)]
  have cg : mg (g_clo1 τ R B n g w n) = g + 1 := by
    show cn (g_clo1 τ R B n g w n 7000 23) = g + 1
    rw [cc.2.2.2.2.1, cn_nI (by omega)]
  have cw : mw (g_clo1 τ R B n g w n) = w + 1 := by
    show cn (g_clo1 τ R B n g w n 7000 24) = w + 1
    rw [cc.2.2.2.2.2, cn_nI (by omega)]
  have cN : mn (g_clo1 τ R B n g w n) = n + 1 := by
    show cn (g_clo1 τ R B n g w n 7000 21) = n + 1
    rw [cc.2.2.1, cn_nI (by omega)]
  refine ⟨⟨?_, ?_, ?_, ?_, fun _ => ?_, fun e => ?_, (by rw [cc.2.1, fr _ (by omega)]; exact h.fl), ⟨fun k hk => ?_, fun k hk j hj => ?_, fun k hk r hr => ?_, fun k hk j hj => ?_, fun k hk j hj => ?_⟩⟩, ?_⟩
  · rw [fc _ (by decide), fr _ (by omega)]; exact h.st
  · rw [fc _ (by decide)]; exact h.sb
  · rw [fc _ (by decide), fr _ (by omega)]; exact h.stp
  · rw [c1]; exact C1.c
  · rw [cR, cB, cg, cw, cN]
    exact C1.of (by omega) (by omega) (by omega) (fun _ _ _ => rfl) (fun q h1 h2 => f7 q (by omega) (by omega))
  · rw [fr _ (by omega)] at e
    exact absurd (hs.symm.trans e) (by decide)
  · rw [cK] at hk
    refine (cR_7 (b := 2000) h60).trans ?_
    by_cases e : k = n
    · rw [if_pos e, e, m52]
    · rw [if_neg e, fl _ k (by omega) (.inl rfl)]
      exact lt k (by omega)
  · rw [cK] at hk
    rw [cB] at hj
    rw [show g_closeRound σ 2000 (τ 5000 4) B R n 2008 k = if k = n then σ 2000 12 else σ 2008 k from cR_8 (b := 2000) h60]
    by_cases e : k = n
    · rw [if_pos e, e, m63]
      have q := Q.ma j hj
      unfold f_hasWaived at q
      refine Iff.trans ?_ q
      split
      · rename_i y
        exact ⟨fun _ => rfl, fun _ => y⟩
      · rename_i y
        exact ⟨fun v => absurd v y, fun v => absurd v (by decide)⟩
    · rw [if_neg e, fl _ k (by omega) (.inr (.inr (.inr (.inr rfl))))]
      exact lm k (by omega) j hj
  · rw [cK] at hk
    rw [cR] at hr
    by_cases e : k = n
    · rw [e, m60, show g_closeRound σ 2000 (τ 5000 4) B R n (2101 + n) r = σ 2001 r from cR_p (b := 2000) h60 g9 (by omega)]
      exact Q.p r hr
    · rw [fl _ k (by omega) (.inr (.inl rfl)), fcl _ k (by omega) (.inl rfl)]
      exact lp k (by omega) r hr
  · rw [cK] at hk
    rw [cB] at hj
    by_cases e : k = n
    · rw [e, m61, show g_closeRound σ 2000 (τ 5000 4) B R n (2201 + n) j = σ 2003 j from cR_w (b := 2000) h60 g9 (by omega)]
      exact (Q.wi j hj).1
    · rw [fl _ k (by omega) (.inr (.inr (.inl rfl))), fcl _ k (by omega) (.inr (.inl rfl))]
      exact lw k (by omega) j hj
  · rw [cK] at hk
    rw [cB] at hj
    by_cases e : k = n
    · rw [e, m62]
      have q := (C1.lh n (by omega) j hj).1
      have q2 : g_Kclose τ (τ 5000 4) 7000 R B g w n (7000 + 200 + n) = g_Kclose τ (τ 5000 4) 7000 R B g w n 7002 := by
        rw [Kclose_eq]
        exact (kcF_log hg g9).trans (kcF_row (show 7000 + 2 ≠ 7000 ∧ 7000 + 2 ≠ 7000 + 200 + n ∧ 7000 + 2 ≠ 7000 + 500 + (g + 1) ∧ 7000 + 2 ≠ 7000 + 700 + (w + 1) by omega)).symm
      rw [q2] at q
      exact q
    · rw [fl _ k (by omega) (.inr (.inr (.inr (.inl rfl)))), fcl _ k (by omega) (.inr (.inr rfl))]
      exact lh k (by omega) j hj
  · rw [C2, f7 _ (by decide) (by decide)]
theorem MK.over {R B n g w : Nat} {pk : Nat → Nat} {t : XS9} (hB6 : B ≤ 6) : MK t (x_McloseOne_122 τ R B n g w n pk t) := by
  unfold x_McloseOne_122
  refine xit_inv (fun s : XS9 => MK t s) (N := B) (fun i s hi hP => ?_) B 0 _ (Nat.zero_add _) MK.rfl'
  (try dsimp only)
  split
  · exact hP
  · exact hP.trans (MK.madd (by omega))
theorem VK.over {R B K : Nat} {s : XS9} (hB6 : B ≤ 6) (hg : ∀ i, i < 6 → gr i < 4) (jc : JC s) : VK (u2 s 1000 7 2) (g_endClock s R B K gr) := by
  have hx : XCT (u2 s 1000 7 2) := fun i hi => by
    rw [u2_ne (by omega)]
    exact jc.hct i hi
  have H := endClock_loop (σ := s) (R := R) (K := K) hB6 hg (s0 := u2 s 1000 7 2) hx
  unfold g_endClock
  exact (VK.rows fun q hq => H.2 q (by omega)).trans VK.find
/-- one close on both sides -/
theorem RC.clo (h : RC τ σ) (a : RA τ σ) (z : RZ τ) (jc : JC σ) (r : JR τ) (js : JS τ) (hs : τ 5000 1 = 1) (hg : ∀ i, i < 6 → gr i < 4) : RC (g_clo τ) (if f_closeRound σ 2000 (σ 1000 8) (mB τ) (mR τ) (cn (σ 2000 9)) = 0 then g_closeRound σ 2000 (σ 1000 8) (mB τ) (mR τ) (cn (σ 2000 9)) else g_endClock (g_closeRound σ 2000 (σ 1000 8) (mB τ) (mR τ) (cn (σ 2000 9))) (mR τ) (mB τ) (min (cn (σ 2000 9)) 59) gr) := by
  obtain ⟨_, _, e1, e2, e3, g9⟩ := js.1 hs
  have hB6 := r.hB.2
  have jc2 : JC (g_closeRound σ 2000 (σ 1000 8) (mB τ) (mR τ) (cn (σ 2000 9))) := jc.closeRound
  have ek : cn (σ 2000 9) = mn τ := (congrArg cn h.k).trans e3
  obtain ⟨A, F⟩ := RC.clo1 h a z jc r js hs
  show RC (g_McloseOne τ (mR τ) (mB τ) (mK τ) (mg τ) (mw τ) (mn τ) (mpk τ)) _
  rw [ek, h.stp] at jc2 ⊢
  rw [e3]
  have cK : mK (g_clo1 τ (mR τ) (mB τ) (mn τ) (mg τ) (mw τ) (mn τ)) ≤ 60 := by
    show cn (g_clo1 τ (mR τ) (mB τ) (mn τ) (mg τ) (mw τ) (mn τ) 5003 900) ≤ 60
    rw [clo1_n, cn_nI (by omega)]
    omega
  have hbc : mn (g_clo1 τ (mR τ) (mB τ) (mn τ) (mg τ) (mw τ) (mn τ)) ≤ 60 ∧ mg (g_clo1 τ (mR τ) (mB τ) (mn τ) (mg τ) (mw τ) (mn τ)) < 200 ∧ mw (g_clo1 τ (mR τ) (mB τ) (mn τ) (mg τ) (mw τ) (mn τ)) < 200 := by
    have cc := clo1_c (σ := τ) (R := mR τ) (B := mB τ) (K := mn τ) (g := mg τ) (w := mw τ) (n := mn τ) (by omega) (by omega) g9 g9
    refine ⟨?_, ?_, ?_⟩
    · show cn (g_clo1 τ (mR τ) (mB τ) (mn τ) (mg τ) (mw τ) (mn τ) 7000 21) ≤ 60
      rw [cc.2.2.1, cn_nI (by omega)]
      omega
    · show cn (g_clo1 τ (mR τ) (mB τ) (mn τ) (mg τ) (mw τ) (mn τ) 7000 23) < 200
      rw [cc.2.2.2.2.1, cn_nI (by omega)]
      omega
    · show cn (g_clo1 τ (mR τ) (mB τ) (mn τ) (mg τ) (mw τ) (mn τ) 7000 24) < 200
      rw [cc.2.2.2.2.2, cn_nI (by omega)]
      omega
  have hst : g_clo1 τ (mR τ) (mB τ) (mn τ) (mg τ) (mw τ) (mn τ) 5000 1 = 1 := by
    rw [fr_clo1 (by omega) (by omega) g9 g9 (by omega)]
    exact hs
  unfold g_McloseOne
  rw [← F]
  by_cases c : f_closeRound σ 2000 (τ 5000 4) (mB τ) (mR τ) (mn τ) = 0
  · rw [if_pos c, if_pos c]
    exact A
  · rw [if_neg c, if_neg c]
    have e2 : u2 (g_clo1 τ (mR τ) (mB τ) (mn τ) (mg τ) (mw τ) (mn τ)) 5000 1 2 5000 1 = 2 := u2_at
    have A2 : RC (u2 (g_clo1 τ (mR τ) (mB τ) (mn τ) (mg τ) (mw τ) (mn τ)) 5000 1 2) (u2 (g_closeRound σ 2000 (τ 5000 4) (mB τ) (mR τ) (mn τ)) 1000 7 2) := A.mid hbc (fun q hq => u2_ne hq) (fun q hq => u2_ne hq) (by rw [u2_at, u2_at]) (by rw [u2_at]; exact ⟨rfl, by decide⟩) (by
      rw [u2_oi (by decide), u2_oi (by decide)]
      exact A.stp) (fun _ e => absurd (hst.symm.trans e) (by decide)) (fun e => absurd (e2.symm.trans e) (by decide))
    refine A2.kept0 ?_ ⟨?_, ?_, ?_⟩ (MK.over hB6) (VK.over hB6 hg jc2)
    · show cn (u2 _ _ _ _ 5003 900) ≤ 60
      rw [u2_ne (by decide)]
      exact cK
    · show cn (u2 _ _ _ _ 7000 21) ≤ 60
      rw [u2_ne (by decide)]
      exact hbc.1
    · show cn (u2 _ _ _ _ 7000 23) < 200
      rw [u2_ne (by decide)]
      exact hbc.2.1
    · show cn (u2 _ _ _ _ 7000 24) < 200
      rw [u2_ne (by decide)]
      exact hbc.2.2
end
