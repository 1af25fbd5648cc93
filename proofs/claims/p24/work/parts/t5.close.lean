/-! ===== a round's close, alike on both sides: the whole ===== -/
section
variable {σ s : XS9} {x : Int32} {b b' R B g w n : Nat}
theorem crF_row {K a : Nat} (h : a ≠ b ∧ a ≠ b + 1 ∧ a ≠ b + 3 ∧ a ≠ b + 301 + K) : crF s b x R K a = s a := by
  unfold crF
  rw [u2_ne h.1, u2_ne h.1, uR_ne h.2.2.1, uR_ne h.2.2.2, fr_raisePrices h.2.1]
theorem crF_p {K : Nat} : crF s b x R K (b + 1) = g_raisePrices s b x R (b + 1) := by
  unfold crF
  rw [u2_ne (by omega), u2_ne (by omega), uR_ne (by omega), uR_ne (by omega)]
theorem crF_w {K j : Nat} (hj : j < 6) : crF s b x R K (b + 3) j = s (b + 2) j := by
  unfold crF
  rw [u2_ne (by omega), u2_ne (by omega), uR_eq, cpy_lo hj]
theorem crF_l {K j : Nat} (hj : j < 6) : crF s b x R K (b + 301 + K) j = s (b + 2) j := by
  unfold crF
  rw [u2_ne (by omega), u2_ne (by omega), uR_ne (by omega), uR_eq, cpy_lo hj]
theorem crF_c {K : Nat} : crF s b x R K b 9 = nI (K + 1) := by
  unfold crF
  rw [u2_at]
theorem crF_m {K : Nat} : crF s b x R K b 12 = 0 := by
  unfold crF
  rw [u2_oi (by decide), u2_at]
theorem waived0 {j : Nat} (h : s b 12 = 0) : f_hasWaived s b j = 0 := by
  unfold f_hasWaived
  rw [h, Int32.zero_and, if_pos rfl]
theorem kc0_log : kc0 σ b R B g w n (b + 100 + n) = σ (b + 1) := by
  unfold kc0
  rw [u2_ne (by omega), uR_eq, kcP_row (by omega)]
theorem kcF_log {f : Int32} (hg : g < 199) (hn : n < 60) : kcF s f b g w n (b + 200 + n) = s (b + 2) := by
  unfold kcF kcT
  rw [u2_ne (by omega), uR_ne (by omega), u2_ne (by omega), uR_ne (by omega), u2_ne (by omega), u2_ne (by omega), uR_eq]
theorem close_sim (hb : 2000 ≤ b) (hb' : 7000 ≤ b') (hR5 : R ≤ 5) (hB6 : B ≤ 6) (hn : n < 60) (hg : g < 199) (hw : w < 199) (Q : KQ b b' R B g w n s σ) (T : TQ R s σ) : KQ b b' R B (g + 1) (w + 1) (n + 1) (g_closeRound s b x B R n) (g_Kclose σ x b' R B g w n) ∧ f_closeRound s b x B R n = g_Kclose σ x b' R B g w n b' 9 := by
  have h60 : nI n < 60 := (nI_ltI (a := n) (b := 60) (by omega) (by omega)).mpr hn
  have L := Q.log (x := x) hn
  have lr : ∀ a, a < 2000 → crL s b x n a = s a := fun a ha => crL_row (by omega)
  have U : UQ b b' B g (crL s b x n) σ (crU s b x B n) (x_Kclose_2 σ b' R B g w n σ) := by
    unfold crU
    by_cases hr : σ 5000 3 = 0
    · rw [keep_rule hr, if_pos (T.rl.trans hr)]
      exact ⟨L.wi, L.co, fun _ _ _ => rfl, fun _ _ _ => rfl⟩
    · rw [if_neg (fun z => hr (T.rl.symm.trans z))]
      exact undo_sim hR5 hn hg L hr B (Nat.le_refl _)
  have ur : ∀ a, a < 2000 → crU s b x B n a = s a := fun a ha => by rw [U.rc _ (by omega) (by omega), lr a ha]
  have LW : (∀ j, j < B → g_lowerEligible (crU s b x B n) b B (b + 4) j = kcP σ b' R B g w n (b' + 3) j) ∧ (∀ a, a ≠ b + 4 → g_lowerEligible (crU s b x B n) b B a = crU s b x B n a) ∧ ∀ a, a ≠ b' + 3 → kcP σ b' R B g w n a = x_Kclose_2 σ b' R B g w n σ a :=
    lower_sim (σ := σ) (s0 := crU s b x B n) (k0 := x_Kclose_2 σ b' R B g w n σ) (W := x_Kclose_2 σ b' R B g w n σ (b' + 500 + g)) (w := w) hR5 (fun j hj => U.wi j hj) (fun j hj => by
      rw [U.rc _ (by omega) (by omega), U.rm _ (by omega) (by omega)]
      exact L.el j hj) (fun j hj => by
      have e : f_hasWaived (crU s b x B n) b j = f_hasWaived (crL s b x n) b j := by
        unfold f_hasWaived
        rw [U.rc _ (by omega) (by omega)]
      rw [e]
      exact L.ma j hj) (fun r hr => by
      rw [ur _ (by omega), U.rm _ (by omega) (by omega)]
      exact T.pt r hr) (fun r h1 h2 => by
      rw [U.rm _ (by omega) (by omega)]
      exact T.ptz r h1 h2) hb hb' B (Nat.le_refl _)
  obtain ⟨lw1, lw2, lw3⟩ := LW
  have er : ∀ a, a < 2000 → g_lowerEligible (crU s b x B n) b B a = s a := fun a ha => by rw [lw2 _ (by omega), ur a ha]
  have k2 : kc0 σ b' R B g w n (b' + 2) = σ (b' + 2) := kc0_row (by omega)
  have e2 : g_lowerEligible (crU s b x B n) b B (b + 2) = s (b + 2) := by rw [lw2 _ (by omega), U.rc _ (by omega) (by omega), crL_row (by omega)]
  have I : RI b b' B x (fun r => cn (σ (5010 + r) 0)) (crU s b x B n (b + 3)) (g_lowerEligible (crU s b x B n) b B) (kc0 σ b' R B g w n) R (crM s b x B R n) (kcV σ x b' R B g w n) :=
    rounds (q := fun r => cn (σ (5010 + r) 0)) (W := crU s b x B n (b + 3)) hR5 hB6 hb (fun r hr => T.rg r (by omega) |>.2) (fun j hj => ⟨by rw [(U.wi j hj).1]; exact (U.wi j hj).2, (U.wi j hj).1.symm⟩) (fun r hr => by
      rw [er _ (by omega), (T.rg r (by omega)).1]
      exact (T.rg r (by omega)).2.1) (lw2 _ (by omega)) (fun j hj => by
      rw [k2, e2]
      exact Q.he j hj) (fun j h1 h2 => by
      rw [e2]
      exact Q.hz j h1 h2) R (Nat.le_refl _)
  have mr : ∀ a, a < 2000 → crM s b x B R n a = s a := fun a ha => by rw [I.rows _ (by omega), er a ha]
  have ht : ∀ r, r < R → (f_together 6 (crM s b x B R n (b + 2)) r ≤ crM s b x B R n 1010 r ↔ ¬ cn (σ (5010 + r) 0) < hsum (kcV σ x b' R B g w n).1 (b' + 2) r B) := fun r hr => by
    have h30 := hsum_30 (s := (kcV σ x b' R B g w n).1) (a := b' + 2) (r := r) hB6
    have q5 := (T.rg r (by omega)).2
    have q6 := q5.2
    have es : nsum (fun i => dgt (crM s b x B R n (b + 2) i) r) B = hsum (kcV σ x b' R B g w n).1 (b' + 2) r B := nsum_cg fun i hi => by
      (try dsimp only)
      rw [(I.he i hi).1]
    have k := nle (a := hsum (kcV σ x b' R B g w n).1 (b' + 2) r B) (b := cn (σ (5010 + r) 0)) (by omega) (by omega)
    rw [← q5.1] at k
    rw [together_n (by omega) hB6 (fun i hi => by rw [(I.he i hi).1]; exact (I.he i hi).2) I.z, es, mr 1010 (by omega), (T.rg r (by omega)).1]
    exact k.trans (by omega)
  have J : RJ b x (fun r => cn (σ (5010 + r) 0) < hsum (kcV σ x b' R B g w n).1 (b' + 2) r B) (crM s b x B R n) R (x_raisePrices_5 (crM s b x B R n) b x R (crM s b x B R n, 0)) := raised hb ht R (Nat.le_refl _)
  have fl : f_raisePrices (crM s b x B R n) b x R = 0 ↔ (kcV σ x b' R B g w n).2 = 0 := by
    refine J.fl.trans (Iff.trans ?_ I.fl.symm)
    exact ⟨fun h r hr => Nat.le_of_not_lt (h r hr), fun h r hr => Nat.not_lt_of_le (h r hr)⟩
  have k0p : kc0 σ b' R B g w n (b' + 1) = σ (b' + 1) := kc0_row (by omega)
  have mp : crM s b x B R n (b + 1) = s (b + 1) := by rw [I.rows _ (by omega), lw2 _ (by omega), U.rc _ (by omega) (by omega), crL_row (by omega)]
  have mk : ∀ a, a ≠ b' + 1 → a ≠ b' + 2 → a ≠ b' + 3 → a ≠ b' + 5 → a ≠ b' → a ≠ b' + 100 + n → a ≠ b' + 200 + n → a ≠ b' + 500 + g → a ≠ b' + 500 + (g + 1) → a ≠ b' + 700 + (w + 1) → g_Kclose σ x b' R B g w n a = σ a := fun a h1 h2 h3 h4 h5 h6 h7 h8 h9 h10 => by
    rw [Kclose_eq, kcF_row ⟨h5, h7, h9, h10⟩, I.rowsM _ h2 h1, kc0_row ⟨h8, h4, h3, h5, h6⟩]
  have cc : ∀ a, a = b + 5 ∨ (∃ k, k < n ∧ (a = b + 101 + k ∨ a = b + 301 + k)) → g_closeRound s b x B R n a = s a := fun a ha => fr_closeRound (by
    rcases ha with ha | ⟨k, hk, ha | ha⟩ <;> omega)
  refine ⟨⟨?_, fun r hr => ?_, fun r h1 h2 => ?_, fun j hj => ?_, fun j h1 h2 => ?_, fun j hj => ?_, (fun j h1 h2 => by rw [closeRound_eq h60, crF_w h2]; exact I.z j h1 h2), fun j hj => ?_, fun j hj => ?_, fun j hj => ?_, fun j hj => ?_, fun k hk => ?_, fun k hk j hj => ?_⟩, ?_⟩
  · rw [closeRound_eq h60, crF_c]
  · rw [closeRound_eq h60, crF_p, Kclose_eq, kcF_row (by omega), I.pr r hr, k0p]
    show (x_raisePrices_5 (crM s b x B R n) b x R (crM s b x B R n, 0)).1 (b + 1) r = _
    have := J.pr r hr
    rw [mp, Q.p r hr] at this
    by_cases c : cn (σ (5010 + r) 0) < hsum (kcV σ x b' R B g w n).1 (b' + 2) r B
    · rw [if_pos c]
      exact this.1 c
    · rw [if_neg c]
      exact this.2 c
  · rw [closeRound_eq h60, crF_p]
    show (x_raisePrices_5 (crM s b x B R n) b x R (crM s b x B R n, 0)).1 (b + 1) r = _
    rw [J.pz r h1, mp]
    exact Q.pz r h1 h2
  · rw [closeRound_eq h60, crF_row (by omega), Kclose_eq, kcF_row (by omega)]
    exact I.he j hj
  · rw [closeRound_eq h60, crF_row (by omega)]
    exact I.z j h1 h2
  · rw [closeRound_eq h60, crF_w (by omega), Kclose_eq, kcF_wish hg hn]
    exact I.he j hj
  · rw [closeRound_eq h60, crF_row (by omega), I.rows _ (by omega), Kclose_eq, kcF_row (by omega), I.rowsM _ (by omega) (by omega)]
    refine (lw1 j hj).trans ?_
    unfold kc0
    rw [u2_ne (by omega), uR_ne (by omega)]
  · rw [cc _ (.inl rfl), mk _ (by omega) (by omega) (by omega) (by omega) (by omega) (by omega) (by omega) (by omega) (by omega) (by omega)]
    exact Q.wv j hj
  · rw [closeRound_eq h60, crF_row (by omega), I.rows _ (by omega), lw2 _ (by omega), U.co j hj, Kclose_eq, kcF_row (by omega), I.rowsM _ (by omega) (by omega)]
    unfold kc0
    rw [u2_ne (by omega), uR_ne (by omega), lw3 _ (by omega)]
  · rw [waived0 (by rw [closeRound_eq h60, crF_m]), Kclose_waived]
  · by_cases e : k = n
    · rw [e]
      have ec : ∀ r, r < 5 → g_closeRound s b x B R n (b + 101 + n) r = s (b + 1) r := fun r hr => by
        rw [closeRound_eq h60, crF_row (by omega), I.rows _ (by omega), lw2 _ (by omega), U.rc _ (by omega) (by omega), crL_p hn hr]
      have em : g_Kclose σ x b' R B g w n (b' + 100 + n) = σ (b' + 1) := by
        rw [Kclose_eq, kcF_row (by omega), I.rowsM _ (by omega) (by omega), kc0_log]
      rw [em]
      exact ⟨fun r hr => by rw [ec r (by omega)]; exact Q.p r hr, fun r h1 h2 => by rw [ec r h2]; exact Q.pz r h1 h2⟩
    · rw [cc _ (.inr ⟨k, by omega, .inl rfl⟩), mk _ (by omega) (by omega) (by omega) (by omega) (by omega) (by omega) (by omega) (by omega) (by omega) (by omega)]
      exact Q.lp k (by omega)
  · by_cases e : k = n
    · rw [e, closeRound_eq h60, crF_l (by omega), Kclose_eq, kcF_log hg hn]
      exact I.he j hj
    · rw [cc _ (.inr ⟨k, by omega, .inr rfl⟩), mk _ (by omega) (by omega) (by omega) (by omega) (by omega) (by omega) (by omega) (by omega) (by omega) (by omega)]
      exact Q.lh k (by omega) j hj
  · rw [closeRound_f h60, Kclose_eq, kcF_over]
    by_cases c : (kcV σ x b' R B g w n).2 = 0
    · rw [if_pos c, if_pos (fl.mpr c)]
    · rw [if_neg c, if_neg (fun z => c (fl.mp z))]
end
