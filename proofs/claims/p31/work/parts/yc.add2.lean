/-! ===== one more package is added on both sides ===== -/
section
variable {τ σ : XS9} {i n j z : Nat} {x y : Int32} {gr gr2 cnt q : Nat → Nat} {D : Nat → Nat → Nat → Nat} {cap R : Nat} {c d : Nat → Nat}
theorem madd_row {q : Nat} (h : q ≠ 5030 + i) : g_Madd τ i n x y q = τ q := by
  unfold g_Madd g_addI
  rw [u2_ne h, u2_ne h, u2_ne h, u2_ne h]
theorem madd_c (hn : n < 400) : g_Madd τ i n x y (5030 + i) (2 * n) = x := by
  unfold g_Madd g_addI
  rw [u2_oi (by omega), u2_oi (by omega), u2_oi (by omega), u2_at]
theorem madd_a (hn : n < 400) : g_Madd τ i n x y (5030 + i) (2 * n + 1) = y := by
  unfold g_Madd g_addI
  rw [u2_oi (by omega), u2_at]
theorem madd_n : g_Madd τ i n x y (5030 + i) 900 = nI (2 * (n + 1)) := by
  unfold g_Madd g_addI
  rw [u2_at]
  congr 1
theorem madd_o (h : z ≠ 2 * n ∧ z ≠ 2 * n + 1 ∧ z ≠ 900) : g_Madd τ i n x y (5030 + i) z = τ (5030 + i) z := by
  unfold g_Madd g_addI
  rw [u2_oi h.2.2, u2_oi h.2.1, u2_oi h.2.2, u2_oi h.1]
theorem mpk_i (hn : n < 400) : mpk (g_Madd τ i n x y) i = n + 1 := by
  show cn (g_Madd τ i n x y (5030 + i) 900) / 2 = n + 1
  rw [madd_n, cn_nI (by omega)]
  omega
theorem mpk_j (h : j ≠ i) : mpk (g_Madd τ i n x y) j = mpk τ j := by
  show cn (g_Madd τ i n x y (5030 + j) 900) / 2 = _
  rw [madd_row (by omega)]
theorem cFe_gr (h : ∀ j, j < 6 → gr j = gr2 j) : cFe D gr q cap R c ↔ cFe D gr2 q cap R c := by
  refine forall_congr' fun r => forall_congr' fun hr => and_congr Iff.rfl (forall_congr' fun g => forall_congr' fun _ => ?_)
  rw [show cTg D gr g r c = cTg D gr2 g r c from nsum_cg fun j hj => by
    unfold cGd
    rw [h j hj]]
theorem pkB_i (hi : i < mB τ) (hn : n < 400) : pkB (g_Madd τ i n x y) i = n + 1 := by
  have e : mB (g_Madd τ i n x y) = mB τ := by
    show cn (g_Madd τ i n x y 5002 900) = _
    rw [madd_row (by omega)]
  unfold pkB
  rw [e, if_pos hi, mpk_i hn]
theorem pkB_j (h : j ≠ i) : pkB (g_Madd τ i n x y) j = pkB τ j := by
  have e : mB (g_Madd τ i n x y) = mB τ := by
    show cn (g_Madd τ i n x y 5002 900) = _
    rw [madd_row (by omega)]
  unfold pkB
  rw [e, mpk_j h]
theorem TKF.madd (F : TKF τ) (hi : i < mB τ) (hn : mpk τ i < 6) (hx : bd 7775 x) (hx2 : cn x < 6 ^ mR τ) (hy : bd 300000 y) : TKF (g_Madd τ i (mpk τ i) x y) := by
  have hB6 := F.1.2
  have eR : mR (g_Madd τ i (mpk τ i) x y) = mR τ := by
    show cn (g_Madd τ i (mpk τ i) x y 5001 900) = _
    rw [madd_row (by omega)]
  have eB : mB (g_Madd τ i (mpk τ i) x y) = mB τ := by
    show cn (g_Madd τ i (mpk τ i) x y 5002 900) = _
    rw [madd_row (by omega)]
  refine ⟨⟨by rw [eR]; exact F.1.1, by rw [eB]; exact hB6⟩, fun r hr => ?_, by rw [madd_row (by omega)]; exact F.2.2.1, fun j hj => ?_⟩
  · rw [eR] at hr
    have := F.1.1
    show g_Madd τ i (mpk τ i) x y (5010 + r) 0 = nI (cn (g_Madd τ i (mpk τ i) x y (5010 + r) 0)) ∧ cn (g_Madd τ i (mpk τ i) x y (5010 + r) 0) ≤ 5
    rw [madd_row (by omega)]
    exact F.2.1 r hr
  · rw [eB] at hj
    have eg : mgr (g_Madd τ i (mpk τ i) x y) j = mgr τ j := by
      show cn (g_Madd τ i (mpk τ i) x y (5020 + j) 3) = _
      rw [madd_row (by omega)]
    rw [eR, eg]
    by_cases e : j = i
    · subst e
      rw [mpk_i (by omega)]
      refine ⟨by omega, (F.2.2.2 j hj).2.1, fun k hk => ?_⟩
      by_cases e2 : k = mpk τ j
      · rw [e2, madd_c (by omega), madd_a (by omega)]
        exact ⟨hx, hx2, hy⟩
      · rw [madd_o (by omega), madd_o (by omega)]
        exact (F.2.2.2 j hj).2.2 k (by omega)
    · rw [mpk_j e]
      refine ⟨(F.2.2.2 j hj).1, (F.2.2.2 j hj).2.1, fun k hk => ?_⟩
      rw [madd_row (by omega)]
      exact (F.2.2.2 j hj).2.2 k hk
theorem add_step (a : TA τ σ) (F : TKF τ) (k : RK τ σ) (m : MKT τ σ) (hi : i < mB τ) (hn : mpk τ i < 6) (hx : bd 7775 x) (hx2 : cn x < 6 ^ mR τ) (hy : bd 300000 y) (hg : ∀ j, j < 6 → gr j = mgr τ j ∧ gr j < 4) (hc : ∀ j, j < 6 → cnt j = pkB τ j) : RK (g_Madd τ i (mpk τ i) x y) (g_addM σ i x y (mR τ) (mB τ) gr cnt) ∧ MKT (g_Madd τ i (mpk τ i) x y) (g_addM σ i x y (mR τ) (mB τ) gr cnt) ∧ MKW (g_Madd τ i (mpk τ i) x y) (g_addM σ i x y (mR τ) (mB τ) gr cnt) := by
  have hR5 := F.1.1
  have hB6 := F.1.2
  have p6 := F.p6
  have hi6 : i < 6 := by omega
  have ec : cnt i = mpk τ i := by
    rw [hc i hi6]
    exact if_pos hi
  have P0 := PCx.mk a F k
  generalize en : mpk τ i = n at hn ec ⊢
  have eR : mR (g_Madd τ i n x y) = mR τ := by
    show cn (g_Madd τ i n x y 5001 900) = _
    rw [madd_row (by omega)]
  have eB : mB (g_Madd τ i n x y) = mB τ := by
    show cn (g_Madd τ i n x y 5002 900) = _
    rw [madd_row (by omega)]
  have e5 : g_Madd τ i n x y 5000 = τ 5000 := madd_row (by omega)
  have egr : ∀ j, j < 6 → mgr (g_Madd τ i n x y) j = gr j := fun j hj => by
    show cn (g_Madd τ i n x y (5020 + j) 3) = _
    rw [madd_row (by omega)]
    exact (hg j hj).1.symm
  have esp : msp (g_Madd τ i n x y) = msp τ ∨ True := .inr trivial
  have esr : ∀ r, r < 5 → msp (g_Madd τ i n x y) r = msp τ r := fun r hr => by
    show cn (g_Madd τ i n x y (5010 + r) 0) = _
    rw [madd_row (by omega)]
  have pko : ∀ j, j < 6 → pkB (g_Madd τ i n x y) j = cnt1 cnt i j := fun j hj => by
    unfold cnt1
    by_cases e : j = i
    · rw [e, if_pos rfl, pkB_i hi (by omega), ec]
    · rw [if_neg e, pkB_j e, hc j hj]
  have oldc : ∀ j, j < 6 → ∀ k9, k9 < pkB τ j → g_Madd τ i n x y (5030 + j) (2 * k9) = τ (5030 + j) (2 * k9) ∧ g_Madd τ i n x y (5030 + j) (2 * k9 + 1) = τ (5030 + j) (2 * k9 + 1) := fun j hj k9 hk => by
    by_cases e : j = i
    · subst e
      have := (pkB_lt hk).2
      rw [madd_o (by omega), madd_o (by omega)]
      exact ⟨rfl, rfl⟩
    · rw [madd_row (by omega)]
      exact ⟨rfl, rfl⟩
  have oD : ∀ r, r < mR τ → ∀ j, j < 6 → ∀ k9, k9 < pkB τ j → Dm τ j k9 r = Dm (g_Madd τ i n x y) j k9 r := fun r _ j hj k9 hk => by
    unfold Dm
    rw [(oldc j hj k9 hk).1]
  have oA : ∀ j, j < 6 → ∀ k9, k9 < pkB τ j → Am τ j k9 = Am (g_Madd τ i n x y) j k9 := fun j hj k9 hk => by
    unfold Am
    rw [(oldc j hj k9 hk).2]
  obtain ⟨s1, es1⟩ : ∃ s1, s1 = u2 (u2 (u2 σ (1022 + i) n x) (1031 + i) n y) 1020 i (nI (n + 1)) := ⟨_, rfl⟩
  have r1 : ∀ q, q ≠ 1022 + i → q ≠ 1031 + i → q ≠ 1020 → s1 q = σ q := fun q h1 h2 h3 => by rw [es1, u2_ne h3, u2_ne h2, u2_ne h1]
  have PC : PCx (Dm (g_Madd τ i n x y)) (Am (g_Madd τ i n x y)) (msp τ) (cn (τ 5000 2)) (mR τ) (cnt1 cnt i) s1 := by
    refine ⟨fun q hq => by rw [r1 1010 (by omega) (by omega) (by omega)]; exact P0.1 q hq, by rw [r1 1001 (by omega) (by omega) (by omega)]; exact P0.2.1, fun j hj k9 hk => ?_⟩
    unfold cnt1 at hk
    by_cases e : j = i
    · subst e
      rw [if_pos rfl, ec] at hk
      by_cases e2 : k9 = n
      · subst e2
        rw [es1, u2_ne (show 1022 + j ≠ 1020 by omega), u2_ne (show 1022 + j ≠ 1031 + j by omega), u2_at, u2_ne (show 1031 + j ≠ 1020 by omega), u2_at]
        unfold Dm Am
        rw [madd_c (by omega), madd_a (by omega)]
        exact ⟨hx, fun _ _ => rfl, hy⟩
      · have hk2 : k9 < pkB τ j := by rw [← hc j hj, ec]; omega
        obtain ⟨d1, d2, d3, d4⟩ := P0.2.2 j hj k9 hk2
        rw [es1, u2_ne (show 1022 + j ≠ 1020 by omega), u2_ne (show 1022 + j ≠ 1031 + j by omega), u2_oi e2, u2_ne (show 1031 + j ≠ 1020 by omega), u2_oi e2, u2_ne (show 1031 + j ≠ 1022 + j by omega)]
        exact ⟨d1, fun r hr => (oD r hr j hj k9 hk2).symm.trans (d2 r hr), by rw [← oA j hj k9 hk2]; exact d3, by rw [← oA j hj k9 hk2]; exact d4⟩
    · rw [if_neg e, hc j hj] at hk
      obtain ⟨d1, d2, d3, d4⟩ := P0.2.2 j hj k9 hk
      rw [r1 (1022 + j) (by omega) (by omega) (by omega), r1 (1031 + j) (by omega) (by omega) (by omega)]
      exact ⟨d1, fun r hr => (oD r hr j hj k9 hk).symm.trans (d2 r hr), by rw [← oA j hj k9 hk]; exact d3, by rw [← oA j hj k9 hk]; exact d4⟩
  have SC1 : SCc (Dm (g_Madd τ i n x y)) gr (mR τ) (fun _ => 0) s1 := (SC0.scc (D := Dm (g_Madd τ i n x y)) (gr := gr) m.1 hR5).of fun q hq => r1 q (by omega) (by omega) (by omega)
  have Xo : ∀ d, Xm τ d ↔ (cOk (pkB τ) d ∧ cFe (Dm (g_Madd τ i n x y)) gr (msp τ) (cn (τ 5000 2)) (mR τ) d) := fun d => and_congr_right fun hd => (cFe_gr fun j hj => (hg j hj).1.symm).trans (cFe_cg oD hd)
  have BO1 : BOc (Am (g_Madd τ i n x y)) (fun d => cOk (pkB τ) d ∧ cFe (Dm (g_Madd τ i n x y)) gr (msp τ) (cn (τ 5000 2)) (mR τ) d) s1 := (((m.2.1.cg fun d hd => cAm_cg oA hd.1).iff Xo).of fun q hq => r1 q (by omega) (by omega) (by omega))
  have XN : ∀ d, Xm (g_Madd τ i n x y) d ↔ (cOk (cnt1 cnt i) d ∧ cFe (Dm (g_Madd τ i n x y)) gr (msp τ) (cn (τ 5000 2)) (mR τ) d) := fun d => by
    unfold Xm
    rw [eR, e5]
    refine and_congr (forall_congr' fun j => forall_congr' fun hj => by rw [pko j hj]) ((cFe_gr egr).trans ?_)
    refine forall_congr' fun r => forall_congr' fun hr => ?_
    rw [esr r (by omega)]
  have c1i : cnt1 cnt i i = n + 1 := by
    unfold cnt1
    rw [if_pos rfl, ec]
  have c1j : ∀ j, j ≠ i → cnt1 cnt i j = cnt j := fun j hj => if_neg hj
  have old1 : ∀ d, cOk (pkB τ) d → cOk (cnt1 cnt i) d := fun d hd j hj => by
    have := hd j hj
    by_cases e : j = i
    · subst e
      rw [c1i]
      rw [← hc j hj, ec] at this
      omega
    · rw [c1j j e, hc j hj]
      exact this
  have c1z : ∀ j, mB τ ≤ j → j < 6 → cnt1 cnt i j = 0 := fun j h1 h2 => by
    rw [c1j j (by omega), hc j h2]
    exact pkB_z h1
  have c16 : ∀ j, j < 6 → cnt1 cnt i j ≤ 6 := fun j hj => by
    by_cases e : j = i
    · rw [e, c1i]
      omega
    · rw [c1j j e, hc j hj]
      exact p6 j hj
  have gi := (hg i hi6).2
  -- the state ahead of the winners
  have core : ∃ s3, g_addM σ i x y (mR τ) (mB τ) gr cnt = g_findWinners s3 ∧ SC0 s3 ∧ BOc (Am (g_Madd τ i n x y)) (Xm (g_Madd τ i n x y)) s3 ∧ ∀ q, (q < 1040 ∨ 1124 < q) → s3 q = s1 q := by
    obtain ⟨d1, d2, d3, d4⟩ := PC.2.2 i hi6 n (by rw [c1i]; omega)
    have f0 : cFe (Dm (g_Madd τ i n x y)) gr (msp τ) (cn (τ 5000 2)) (mR τ) (fun _ => 0) := cFe_0
    have fi := fits_eq (σ := s1) (i := i) (x := s1 (1022 + i) n) (R := mR τ) (q := msp τ) (t := fun r => cTk (Dm (g_Madd τ i n x y)) r (fun _ => 0)) (u := fun r => cTg (Dm (g_Madd τ i n x y)) gr (gr i) r (fun _ => 0)) (cap := cn (τ 5000 2)) (gr := gr) d1 (fun r hr => ⟨(PC.1 r hr).1, (PC.1 r hr).2, SC1.2.1 r hr, (f0 r hr).1⟩) (fun hne r hr => ⟨SC1.2.2 (gr i) gi r hr, (f0 r hr).2 (gr i) (by omega)⟩) PC.2.1.1 PC.2.1.2 gi
    have ff : cFe (Dm (g_Madd τ i n x y)) gr (msp τ) (cn (τ 5000 2)) (mR τ) (cUp (fun _ => 0) i (n + 1)) ↔ ∀ r, r < mR τ → fOK (s1 (1022 + i) n) (msp τ) (fun r => cTk (Dm (g_Madd τ i n x y)) r (fun _ => 0)) (fun r => cTg (Dm (g_Madd τ i n x y)) gr (gr i) r (fun _ => 0)) (cn (τ 5000 2)) (gr i) r := by
      rw [cFe_up hi6 rfl f0]
      refine forall_congr' fun r => forall_congr' fun hr => ?_
      unfold fOK
      rw [d2 r hr]
    have x1 : s1 (1022 + i) n = x := by rw [es1, u2_ne (by omega), u2_ne (by omega), u2_at]
    have y1 : y = nI (Am (g_Madd τ i n x y) i n) := by
      unfold Am
      rw [madd_a (by omega)]
      exact hy.1
    unfold g_addM
    rw [ec, if_pos (show nI n < (6 : Int32) from (nlt (a := n) (b := 6) (by omega) (by omega)).mpr hn), ← es1]
    rw [x1] at fi ff
    by_cases c3 : cFe (Dm (g_Madd τ i n x y)) gr (msp τ) (cn (τ 5000 2)) (mR τ) (cUp (fun _ => 0) i (n + 1))
    · rw [if_neg (fun z => fi.mp z (ff.mp c3))]
      have T := SC1.take (k := n) hi6 rfl d1 d2 gi
      have tr : ∀ q, q ≠ 1043 → q ≠ 1044 → q ≠ 1121 + gr i → g_take s1 i n (mR τ) gr q = s1 q := fun q h1 h2 h3 => fr_take ⟨h1, h2, h3⟩
      have PT : PCx (Dm (g_Madd τ i n x y)) (Am (g_Madd τ i n x y)) (msp τ) (cn (τ 5000 2)) (mR τ) (cnt1 cnt i) (g_take s1 i n (mR τ) gr) := PC.of fun q hq => tr q (by omega) (by omega) (by omega)
      have BT := BO1.of (s2 := g_take s1 i n (mR τ) gr) fun q hq => tr q (by omega) (by omega) (by omega)
      have hS : 2 ^ i = cSp (cUp (fun _ => 0) i (n + 1)) := by
        rw [cSp_up hi6 rfl, cSp_0, Nat.zero_add]
      have hx9 : y = nI (cAm (Am (g_Madd τ i n x y)) (cUp (fun _ => 0) i (n + 1))) := by
        rw [cAm_up hi6 rfl, cAm_0, Nat.zero_add]
        exact y1
      obtain ⟨u1, u3⟩ := pf_ok (D := Dm (g_Madd τ i n x y)) (A := Am (g_Madd τ i n x y)) (gr := gr) (q := msp τ) (pk := cnt1 cnt i) (cap := cn (τ 5000 2)) (R := mR τ) (B := mB τ) (fx := i) (fun j hj => (hg j hj).2) c16 c1z hi hB6 6 0 rfl (g_take s1 i n (mR τ) gr) (2 ^ i) y (cUp (fun _ => 0) i (n + 1)) _ PT T BT (fun d hd => old1 d hd.1) (fun j hj => by
        by_cases e : j = i
        · rw [e, cUp_at, c1i]
          exact Nat.le_refl _
        · rw [cUp_ne e]
          exact Nat.zero_le _) c3 (fun j _ hj hne => cUp_ne hne) (by rw [cUp_at]; omega) hS hx9
      have pr : ∀ q, (q < 1040 ∨ q = 1042 + 200 ∨ 1124 < q) → g_pickFrom i (mR τ) (mB τ) gr (cnt1 cnt i) 6 0 (g_take s1 i n (mR τ) gr) (2 ^ i) y q = g_take s1 i n (mR τ) gr q := fun q hq => fr_pickFrom ⟨fun j hj => (hg j hj).2, one_bit_lt hi6, by omega, by omega, by omega, by omega, by omega⟩
      have hh := hiR.pick (R := mR τ) (B := mB τ) (gr := gr) (cnt := cnt1 cnt i) (fx := i) 6 0 rfl (g_take s1 i n (mR τ) gr) (2 ^ i) y (one_bit_lt hi6)
      have P3 : PCx (Dm (g_Madd τ i n x y)) (Am (g_Madd τ i n x y)) (msp τ) (cn (τ 5000 2)) (mR τ) (cnt1 cnt i) (g_pickFrom i (mR τ) (mB τ) gr (cnt1 cnt i) 6 0 (g_take s1 i n (mR τ) gr) (2 ^ i) y) := PT.of fun q hq => pr q (by omega)
      generalize g_pickFrom i (mR τ) (mB τ) gr (cnt1 cnt i) 6 0 (g_take s1 i n (mR τ) gr) (2 ^ i) y = s2 at u1 u3 pr hh P3 ⊢
      obtain ⟨v1, v2, v3, v4⟩ := P3.2.2 i hi6 n (by rw [c1i]; omega)
      have br : ∀ q, q ≠ 1043 → q ≠ 1044 → q ≠ 1121 + gr i → g_giveBack s2 i n (mR τ) gr q = s2 q := fun q h1 h2 h3 => fr_giveBack ⟨h1, h2, h3⟩
      refine ⟨_, rfl, SC0.back (u1.back hi6 rfl v1 v2 gi) (fun r h1 h2 => ?_), (u3.of fun q hq => br q (by omega) (by omega) (by omega)).iff fun d => ?_, fun q hq => ?_⟩
      · have h9 : hiR (mR τ) s1 (g_giveBack s2 i n (mR τ) gr) := (hiR.take.trans hh).trans hiR.back
        refine ⟨by rw [h9 1044 (by omega) r h1, r1 1044 (by omega) (by omega) (by omega)]; exact m.1.2.1 r h2, fun g hg4 => by rw [h9 (1121 + g) (by omega) r h1, r1 (1121 + g) (by omega) (by omega) (by omega)]; exact m.1.2.2 g hg4 r h2⟩
      · rw [XN d]
        refine ⟨fun h => ?_, fun ⟨h1, h2⟩ => ?_⟩
        · rcases h with h | ⟨h1, h2, h3, h4⟩
          · exact ⟨old1 d h.1, h.2⟩
          · exact ⟨h1, h2⟩
        · by_cases e : d i = n + 1
          · exact .inr ⟨h1, h2, fun j hj => absurd hj (by omega), by rw [e, cUp_at]⟩
          · refine .inl ⟨fun j hj => ?_, h2⟩
            have := h1 j hj
            by_cases e2 : j = i
            · subst e2
              rw [c1i] at this
              rw [← hc j hj, ec]
              omega
            · rw [c1j j e2, hc j hj] at this
              exact this
      · rw [br q (by omega) (by omega) (by omega), pr q (by omega), tr q (by omega) (by omega) (by omega)]
    · rw [if_pos (fi.mpr (fun z => c3 (ff.mpr z)))]
      refine ⟨s1, rfl, SC0.back SC1 (fun r h1 h2 => ⟨by rw [r1 1044 (by omega) (by omega) (by omega)]; exact m.1.2.1 r h2, fun g hg4 => by rw [r1 (1121 + g) (by omega) (by omega) (by omega)]; exact m.1.2.2 g hg4 r h2⟩), BO1.iff fun d => ?_, fun _ _ => rfl⟩
      rw [XN d]
      refine ⟨fun h => ⟨old1 d h.1, h.2⟩, fun ⟨h1, h2⟩ => ⟨fun j hj => ?_, h2⟩⟩
      have := h1 j hj
      by_cases e2 : j = i
      · subst e2
        rw [c1i] at this
        rw [← hc j hj, ec]
        by_cases e3 : d j = n + 1
        · exfalso
          refine c3 (cLe_fe (d := d) (fun j2 hj2 => ?_) h2)
          by_cases e4 : j2 = j
          · rw [e4, cUp_at]
            exact .inr e3.symm
          · rw [cUp_ne e4]
            exact .inl rfl
        · omega
      · rw [c1j j e2, hc j hj] at this
        exact this
  obtain ⟨s3, g1, g2, g3, g4⟩ := core
  have am6 : ∀ d, Xm (g_Madd τ i n x y) d → (∀ j, j < 6 → d j ≤ 6) ∧ cAm (Am (g_Madd τ i n x y)) d ≤ 1800000 := fun d hd => by
    have h1 := ((XN d).mp hd).1
    exact ⟨fun j hj => Nat.le_trans (h1 j hj) (c16 j hj), PC.am h1⟩
  have z0 : Xm (g_Madd τ i n x y) (fun _ => 0) := (XN _).mpr ⟨cOk_0, cFe_0⟩
  obtain ⟨w1, w2⟩ := find_w g3 am6 ⟨_, z0, cSp_0⟩
  have fw : ∀ q, q ≠ 1040 → q ≠ 1041 → g_findWinners s3 q = s3 q := fun q h1 h2 => fr_findWinners ⟨h1, h2⟩
  have eo : s3 1003 = σ 1003 := (g4 1003 (by omega)).trans (r1 1003 (by omega) (by omega) (by omega))
  rw [g1]
  refine ⟨⟨by rw [e5]; exact k.1, fun j hj => ?_, fun j hj k9 hk => ?_⟩, ⟨⟨fun j hj => by rw [fw _ (by decide) (by decide)]; exact g2.1 j hj, fun r hr => by rw [fw _ (by decide) (by decide)]; exact g2.2.1 r hr, fun g hg4 r hr => by rw [fw _ (by omega) (by omega)]; exact g2.2.2 g hg4 r hr⟩, g3.of fun q hq => fw q (by omega) (by omega), fun j hj => ?_⟩, ?_, ?_⟩
  · rw [fw _ (by decide) (by decide), g4 1020 (by omega), pko j hj]
    rw [es1]
    by_cases e : j = i
    · rw [e, u2_at, c1i]
    · rw [u2_oi e, u2_ne (by omega), u2_ne (by omega), c1j j e, hc j hj]
      exact k.n hj
  · have hj6 : j < 6 := by rw [eB] at hj; omega
    rw [eR, fw _ (by omega) (by omega), fw _ (by omega) (by omega), g4 (1022 + j) (by omega), g4 (1031 + j) (by omega)]
    rw [eB] at hj
    by_cases e : j = i
    · subst e
      rw [mpk_i (by omega)] at hk
      by_cases e2 : k9 = n
      · subst e2
        rw [madd_c (by omega), madd_a (by omega), es1, u2_ne (show 1022 + j ≠ 1020 by omega), u2_ne (show 1022 + j ≠ 1031 + j by omega), u2_at, u2_ne (show 1031 + j ≠ 1020 by omega), u2_at]
        exact ⟨rfl, rfl, hx2⟩
      · have hk2 : k9 < mpk τ j := by omega
        rw [madd_o (by omega), madd_o (by omega), es1, u2_ne (show 1022 + j ≠ 1020 by omega), u2_ne (show 1022 + j ≠ 1031 + j by omega), u2_oi e2, u2_ne (show 1031 + j ≠ 1020 by omega), u2_oi e2, u2_ne (show 1031 + j ≠ 1022 + j by omega)]
        exact k.2.2 j hj k9 hk2
    · rw [mpk_j e] at hk
      rw [madd_row (by omega), r1 (1022 + j) (by omega) (by omega) (by omega), r1 (1031 + j) (by omega) (by omega) (by omega)]
      exact k.2.2 j hj k9 hk
  · rw [fw _ (by decide) (by decide), eo, madd_row (by omega)]
    exact m.2.2 j hj
  · rw [fw 1003 (by decide) (by decide)]
    exact w1
  · rw [fw 1003 (by decide) (by decide)]
    exact w2
end
