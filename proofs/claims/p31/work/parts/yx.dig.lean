/-! ===== the checksum, alike ===== -/
section
variable {τ σ t u : XS9} {R B C g q i k : Nat} {pk : Nat → Nat} {x y : Int32}
/-! the same facts by a state with the same rows -/
theorem reg_cg (e : ∀ q, 5001 ≤ q → q < 9000 → t q = u q) (hq : q < 5) (hg : g < 200) (hk : k ≤ 8) : f_MofRegionNow t q R B C g k = f_MofRegionNow u q R B C g k := by
  have kh : f_KheldIn t 7000 q B g = f_KheldIn u 7000 q B g := by
    show xsum (fun i => f_of (t (7000 + 2) i) q) B = xsum (fun i => f_of (u (7000 + 2) i) q) B
    rw [e _ (by omega) (by omega)]
  have kw : f_KwishedIn t 7000 q B g = f_KwishedIn u 7000 q B g := by
    show xsum (fun i => f_of (t (7000 + 500 + g) i) q) B = xsum (fun i => f_of (u (7000 + 500 + g) i) q) B
    rw [e _ (by omega) (by omega)]
  have e7 := e 7000 (by decide) (by decide)
  have e5 := e (5010 + q) (by omega) (by omega)
  match k, hk with
  | 0, _ =>
    show t (5010 + q) 0 = u (5010 + q) 0
    rw [e5]
  | 1, _ =>
    show t (5010 + q) 1 = u (5010 + q) 1
    rw [e5]
  | 2, _ =>
    show t (5010 + q) 2 = u (5010 + q) 2
    rw [e5]
  | 3, _ =>
    show (if t 7000 25 = 0 then t (5010 + q) 2 else t (7000 + 1) q) = if u 7000 25 = 0 then u (5010 + q) 2 else u (7000 + 1) q
    rw [e7, e5, e (7000 + 1) (by decide) (by decide)]
  | 4, _ =>
    show (if t 7000 25 = 0 then 0 else f_KheldIn t 7000 q B g) = if u 7000 25 = 0 then 0 else f_KheldIn u 7000 q B g
    rw [e7, kh]
  | 5, _ =>
    show (if t 7000 25 = 0 then 0 - t (5010 + q) 0 else f_KheldIn t 7000 q B g - t (5010 + q) 0) = if u 7000 25 = 0 then 0 - u (5010 + q) 0 else f_KheldIn u 7000 q B g - u (5010 + q) 0
    rw [e7, e5, kh]
  | 6, _ =>
    show (if t 7000 25 = 0 then 0 else f_KwishedIn t 7000 q B g) = if u 7000 25 = 0 then 0 else f_KwishedIn u 7000 q B g
    rw [e7, kw]
  | 7, _ =>
    show t (5010 + q) 3 = u (5010 + q) 3
    rw [e5]
  | 8, _ =>
    show f_MstationsIn t (nI q) C = f_MstationsIn u (nI q) C
    unfold f_MstationsIn x_MstationsIn_4
    rw [e 5004 (by decide) (by decide)]
theorem bid_cg (e : ∀ q, 5001 ≤ q → q < 9000 → t q = u q) (hi : i < 6) (hR5 : R ≤ 5) (hg : g < 200) (hk : k ≤ 10) : f_MofBidderNow t i R B pk g k = f_MofBidderNow u i R B pk g k := by
  have e7 := e 7000 (by decide) (by decide)
  have e5 := e (5020 + i) (by omega) (by omega)
  have wc : f_MwishedCode t i g = f_MwishedCode u i g := by
    show (if t 7000 25 = 0 then 0 else t (7000 + 500 + g) i) = if u 7000 25 = 0 then 0 else u (7000 + 500 + g) i
    rw [e7, e _ (by omega) (by omega)]
  match k, hk with
  | 0, _ =>
    show t (5020 + i) 0 = u (5020 + i) 0
    rw [e5]
  | 1, _ =>
    show (if t 7000 25 = 0 then t (5020 + i) 1 else t (7000 + 3) i) = if u 7000 25 = 0 then u (5020 + i) 1 else u (7000 + 3) i
    rw [e7, e5, e (7000 + 3) (by decide) (by decide)]
  | 2, _ =>
    show t (5020 + i) 2 = u (5020 + i) 2
    rw [e5]
  | 3, _ =>
    show t (5020 + i) 3 = u (5020 + i) 3
    rw [e5]
  | 4, _ =>
    show (if t 7000 25 = 0 then 2 else t (7000 + 4) i) = if u 7000 25 = 0 then 2 else u (7000 + 4) i
    rw [e7, e (7000 + 4) (by decide) (by decide)]
  | 5, _ =>
    show (if t 7000 25 = 0 then 0 else t (7000 + 2) i) = if u 7000 25 = 0 then 0 else u (7000 + 2) i
    rw [e7, e (7000 + 2) (by decide) (by decide)]
  | 6, _ => exact wc
  | 7, _ =>
    show f_Mpoints t (f_MwishedCode t i g) R = f_Mpoints u (f_MwishedCode u i g) R
    rw [wc]
    unfold f_Mpoints x_Mpoints_4
    refine xit_cg (N := R) (fun r s hr => ?_) R 0 0 (Nat.zero_add _)
    (try dsimp only)
    rw [e (5010 + r) (by omega) (by omega)]
  | 8, _ => rfl
  | 9, _ =>
    show (if t (5020 + i) 4 = 0 then (0 : Int32) else 1) = if u (5020 + i) 4 = 0 then 0 else 1
    rw [e5]
  | 10, _ =>
    show (if t 7000 25 = 0 then 0 else t (7000 + 5) i) = if u 7000 25 = 0 then 0 else u (7000 + 5) i
    rw [e7, e (7000 + 5) (by decide) (by decide)]
/-- the holder of a block -/
theorem hold_eq (m : RM τ σ) (r : JR τ) (p : JP τ) (e1 : t 5000 1 = τ 5000 1) (e : ∀ q, 5001 ≤ q → q < 6000 → t q = τ q) (hi : i < mR τ) (hk : k < msp τ i) : σ (1141 + i) k = f_MholderNow t i (nI k) (mB τ) (mtn τ) := by
  have R5 := r.hR.2
  have B6 := r.hB.2
  have k5 := (r.hsp i hi).2
  unfold f_MholderNow
  by_cases c : τ 5000 1 = 3
  · rw [if_pos (e1.trans c), (m.n3 c).2.1 i hi k (by omega)]
    have H := (NM3.holds r m.k p c).of (v := t) fun q hq => e q (by omega) (by omega)
    rw [H.at (t := mtn τ i) hi B6 (b := k) (by omega)]
    exact if_pos hk
  · rw [if_neg (fun z => c (e1.symm.trans z))]
    exact (m.n0 c).1 i (by omega) k (by omega)
/-- payments that are found again, in other rooms -/
theorem pay_q (h : RM τ σ) (r : JR τ) (p : JP τ) (a : RA τ σ) {t : XS9} (e9 : t 9001 = g_Cinit (u2 τ 5000 0 0) (mR τ) (mB τ) (mpk τ) (mgr τ) (mcd τ) 9001) (e93 : t 9003 = g_Cinit (u2 τ 5000 0 0) (mR τ) (mB τ) (mpk τ) (mgr τ) (mcd τ) 9003) (e5 : ∀ q, q < 9000 → t q = g_Cinit (u2 τ 5000 0 0) (mR τ) (mB τ) (mpk τ) (mgr τ) (mcd τ) q) {qa : Nat} (hq : 20000 ≤ qa) {j : Nat} (hj : j < 6) : g_Cpay t 1 qa (mB τ) qa j = σ (1131 + 1) j ∧ g_Cpay t 2 qa (mB τ) qa j = σ (1131 + 2) j := by
  obtain ⟨m, w, y9⟩ := h.all r p a
  obtain ⟨c1, c3⟩ := h.cho r p
  obtain ⟨W, b, f, fw, hb, hc, hW, h1, hv⟩ := h.pay r p a
  have F := TKF.mk r h.k p
  obtain ⟨p1, p2, q1, q2⟩ := pay_all (σ := σ) (t := t) (qa := qa) (B := mB τ) (W := W) (a := b) fw r.hB.2 hq (fun j hj => by rw [e9]; exact (c1 j hj).symm) (fun j hj e => (hb j hj).2 (by rw [e9] at e; exact (c1 j hj).symm.trans e)) (fun j h1 h2 => by rw [e9, c1 j h2]; exact w.hi h1 h2) (fun j hj => (hb j hj).1) (fun j hj => by rw [cam_row e9 (e5 _ (by have := r.hB.2; omega))]; exact hc j hj) hW (fun S hS => by rw [e93, c3 S hS]; exact hW S hS)
  have fe : ∀ v, v < 3 → σ (1131 + v) j = g_find σ (1131 + v) j := fun v hv => by rw [y9 v hv j hj, w.find (PCx.mk (TA.mk a) F h.k) F.p6 v hv j hj]
  exact ⟨(q2 j hj).2.1.trans ((q1 j hj).1.2.1.symm.trans (fe 1 (by decide)).symm), (q2 j hj).2.2.trans ((q1 j hj).1.2.2.symm.trans (fe 2 (by decide)).symm)⟩
end
section
variable {τ σ t : XS9} {cnt sp rg : Nat → Nat} {K C w : Nat} {y0 : Int64}
theorem dgR_fst : ∀ (f i : Nat) (s : XG9), (xit (s_dgR σ C sp) f i s).1 = xit (fun i a => f_withRegion σ a i C sp) f i s.1
  | 0, _, _ => rfl
  | f + 1, i, s => dgR_fst f (i + 1) (s_dgR σ C sp i s)
theorem dig_region (rc : RC τ σ) (r : JR τ) (a : RA τ σ) (m : RM τ σ) (p : JP τ) (e1 : t 5000 1 = τ 5000 1) (e : ∀ q, 5001 ≤ q → q < 9000 → t q = τ q) (hsp : ∀ q, q < mR τ → sp q = msp τ q) {i : Nat} (hi : i < mR τ) {pk : Nat → Nat} : f_withRegion σ y0 i (mC τ) sp = x_dig_99 t (mR τ) (mB τ) K (mC τ) pk (mg τ) (mtn τ) (msp τ) i ((x_dig_61 t (mR τ) (mB τ) K (mC τ) pk (mg τ) (mtn τ) (msp τ) i y0 * 31) + (Int32.toInt64 (nI (2 * msp τ i - 1)))) := by
  have R5 := r.hR.2
  have g2 := r.hg.2
  have c := count_eq (v := nI i) a r
  have e6 : x_withRegion_6 σ y0 i (mC τ) sp y0 = x_dig_61 t (mR τ) (mB τ) K (mC τ) pk (mg τ) (mtn τ) (msp τ) i y0 := by
    unfold x_withRegion_6 x_dig_61
    refine xit_cg (N := 9) (fun k s hk => ?_) 9 0 y0 rfl
    (try dsimp only)
    rw [facts_r rc r a (k := k) hi (by omega) c, reg_cg (t := t) (u := u2 τ 5000 0 0) (fun q h1 h2 => (e q h1 h2).trans (u2_ne (by omega)).symm) (by omega) g2 (by omega)]
    rfl
  unfold f_withRegion
  rw [e6, hsp i hi]
  unfold x_withRegion_70 x_dig_99
  rw [hsp i hi]
  refine xit_cg (N := msp τ i) (fun k s hk => ?_) (msp τ i) 0 _ (Nat.zero_add _)
  (try dsimp only)
  rw [hold_eq m r p e1 (fun q h1 h2 => e q h1 (by omega)) hi hk]
  rfl
theorem dig_bidder (rc : RC τ σ) (r : JR τ) (a : RA τ σ) (z9 : RZ τ) (m : RM τ σ) (p : JP τ) (d : RD τ) (e1 : t 5000 1 = τ 5000 1) (e : ∀ q, 5001 ≤ q → q < 9000 → t q = τ q) (e91 : ∀ j, j < 6 → t 9001 j = σ 1040 j) (e25 : ∀ j, j < 6 → t 20005 j = σ (1131 + 1) j) (e26 : ∀ j, j < 6 → t 20006 j = σ (1131 + 2) j) (hcn : ∀ j, j < 6 → cnt j = pkB τ j) {i : Nat} (hi : i < mB τ) : f_withBidder σ y0 i (aw σ) cnt = x_dig_251 t (mR τ) (mB τ) K C (mpk τ) (mg τ) (mtn τ) (msp τ) i (x_dig_196 t (mR τ) (mB τ) K C (mpk τ) (mg τ) (mtn τ) (msp τ) i (x_dig_170 t (mR τ) (mB τ) K C (mpk τ) (mg τ) (mtn τ) (msp τ) i y0)) := by
  have R5 := r.hR.2
  have B6 := r.hB.2
  have g2 := r.hg.2
  have e6 : x_withBidder_6 σ y0 i (aw σ) cnt y0 = x_dig_170 t (mR τ) (mB τ) K C (mpk τ) (mg τ) (mtn τ) (msp τ) i y0 := by
    unfold x_withBidder_6 x_dig_170
    refine xit_cg (N := 11) (fun k s hk => ?_) 11 0 y0 rfl
    (try dsimp only)
    rw [facts_b rc r a z9 m p (k := k) hi (by omega), bid_cg (t := t) (u := u2 τ 5000 0 0) (fun q h1 h2 => (e q h1 h2).trans (u2_ne (by omega)).symm) (by omega) R5 g2 (by omega)]
    rfl
  have ew : σ 1040 i = f_MwinsNow t i := by
    unfold f_MwinsNow
    rw [e1]
    by_cases c : τ 5000 1 = 3
    · rw [if_pos c, e 5005 (by decide) (by decide)]
      exact ((m.n3 c).1.1 i (by omega)).symm
    · rw [if_neg c]
      exact (e91 i (by omega)).symm
  have ep : f_paymentOf σ i (aw σ) = f_Mpaid t i := by
    obtain ⟨P, hP, eP, hh⟩ := paid_eq m r p a rc.st hi
    unfold f_Mpaid
    rw [eP, e1, e 5006 (by decide) (by decide)]
    rcases hh with ⟨c, k⟩ | ⟨c, k⟩
    · rw [if_pos c, k]
    · rw [if_neg c, k]
      rfl
  have ed : f_dueOf σ i (aw σ) = f_Mdue t i (mB τ) := due_m m r p a rc.st d e1 (fun q h1 h2 => e q h1 (by omega)) hi
  have ec : cnt i = mpk τ i := by
    rw [hcn i (by omega)]
    exact if_pos hi
  unfold f_withBidder
  rw [e6, ew, ep, ed, ← e25 i (by omega), ← e26 i (by omega)]
  unfold x_withBidder_118 x_dig_251 x_dig_196
  rw [ec]
  refine xit_cg (N := mpk τ i) (fun k s hk => ?_) (mpk τ i) 0 _ (Nat.zero_add _)
  (try dsimp only)
  unfold f_Bamount f_Bcode
  rw [m.k.a hi hk, m.k.cd hi hk, e _ (by omega) (by omega)]
  rfl
theorem dig_last (rc : RC τ σ) (e : ∀ q, 5001 ≤ q → q < 9000 → t q = τ q) (K60 : mK τ ≤ 60) : f_withLastRound σ y0 (mR τ) (mB τ) (mK τ) = x_digC t (mR τ) (mB τ) (mK τ) y0 := by
  have lg := rc.lg
  unfold x_digC
  cases hK : mK τ with
  | zero => exact (if_pos rfl).symm
  | succ n =>
    rw [if_neg (by omega)]
    show f_withLast1 σ y0 (mR τ) (mB τ) n = _
    unfold f_withLast1 x_withLast1_69 x_withLast1_28 x_dig_395 x_dig_361
    have e1 : xit (fun i28 s28 => f_mixed s28 (Int32.toInt64 (σ (2000 + 101 + n) i28))) (mR τ) 0 y0 = xit (fun i361 y361 => (y361 * 31) + (Int32.toInt64 (t (6000 + (n + 1 - 1)) i361))) (mR τ) 0 y0 := xit_cg (N := mR τ) (fun k s hk => by
      (try dsimp only)
      rw [show 2000 + 101 + n = 2101 + n by omega, lg.2.2.1 n (by omega) k hk, show 6000 + (n + 1 - 1) = 6000 + n by omega, e _ (by omega) (by omega)]
      rfl) (mR τ) 0 y0 (Nat.zero_add _)
    rw [e1]
    exact xit_cg (N := mB τ) (fun k s hk => by
      (try dsimp only)
      rw [show 2000 + 201 + n = 2201 + n by omega, lg.2.2.2.1 n (by omega) k hk, show 6100 + (n + 1 - 1) = 6100 + n by omega, e _ (by omega) (by omega)]
      rfl) (mB τ) 0 _ (Nat.zero_add _)
/-- the stations, asked for one channel and for two -/
theorem clr1 (hc : 0 < C) : g_dgS σ C rg = g_clear (g_clear σ 1 C rg) 2 C rg := by
  unfold g_dgS g_clear
  rw [if_pos hc, if_pos (by decide), if_pos (by decide)]
  rfl
theorem dig_st (a : RA τ σ) (hb : RB τ) (r : JR τ) (rs : RS τ) : d_dgS σ (mC τ) (arg σ) y0 = x_digD (u2 τ 5000 0 0) (mR τ) (mC τ) (mrg τ) y0 := by
  unfold d_dgS x_digD
  by_cases c : 0 < mC τ
  · rw [if_pos c, if_neg (by omega)]
    have a1 : RA τ (g_clear σ 1 (mC τ) (arg σ)) := a.kept MA.rfl' VA.clear
    have e : g_clear σ 1 (mC τ) (arg σ) = g_cheapest σ 1 (mC τ) (arg σ) := if_pos (by decide)
    have ea : arg (g_clear σ 1 (mC τ) (arg σ)) = arg σ := by
      have v : VA σ (g_clear σ 1 (mC τ) (arg σ)) := VA.clear
      exact funext fun k => congrArg cn (v 1151 k (by unfold ka; omega))
    have h2 := cheap_eq (R := mR τ) (ch := 2) a1 hb r rs (by decide)
    rw [ea, e] at h2
    rw [cheap_eq (R := mR τ) (ch := 1) a hb r rs (by decide), h2]
    rfl
  · rw [if_neg c, if_pos (by omega)]
theorem says_digest (rc : RC τ σ) (r : JR τ) (a : RA τ σ) (z9 : RZ τ) (jc : JC σ) (js : JS τ) (oz : OZ σ) (eB : aB σ = mB τ) (m : RM τ σ) (p : JP τ) (hy : HY τ) (d : RD τ) (hb : RB τ) (rs : RS τ) (hcn : ∀ j, j < 6 → cnt j = pkB τ j) (hsp : ∀ q, q < mR τ → sp q = msp τ q) : f_digest σ (mK τ) (mB τ) (mR τ) (mC τ) (aw σ) cnt sp (arg σ) = f_Mdigest τ (mR τ) (mB τ) (mpk τ) (mgr τ) (mcd τ) (mK τ) (mC τ) (mg τ) (mtn τ) (msp τ) (mrg τ) (vS (u2 τ 5000 0 0)) := by
  have R5 := r.hR.2
  have B6 := r.hB.2
  have K60 := r.hK.2
  obtain ⟨c1, c3⟩ := m.cho r p
  have lo : ∀ q, q < 9000 → g_Cinit (u2 τ 5000 0 0) (mR τ) (mB τ) (mpk τ) (mgr τ) (mcd τ) q = u2 τ 5000 0 0 q := fun q hq => cho_lo hq
  have t0q : ∀ q, 5001 ≤ q → q < 9000 → u2 τ 5000 0 0 q = τ q := fun q h1 _ => u2_ne (by omega)
  -- the payments' rooms
  have f1 : ∀ q, q ≠ 20005 → g_Cpay (g_Cinit (u2 τ 5000 0 0) (mR τ) (mB τ) (mpk τ) (mgr τ) (mcd τ)) 1 20005 (mB τ) q = g_Cinit (u2 τ 5000 0 0) (mR τ) (mB τ) (mpk τ) (mgr τ) (mcd τ) q := fun q hq => fr_Cpay ⟨hq, B6⟩
  have f2 : ∀ q, q ≠ 20006 → g_Cpay (g_Cpay (g_Cinit (u2 τ 5000 0 0) (mR τ) (mB τ) (mpk τ) (mgr τ) (mcd τ)) 1 20005 (mB τ)) 2 20006 (mB τ) q = g_Cpay (g_Cinit (u2 τ 5000 0 0) (mR τ) (mB τ) (mpk τ) (mgr τ) (mcd τ)) 1 20005 (mB τ) q := fun q hq => fr_Cpay ⟨hq, B6⟩
  have p25 : ∀ j, j < 6 → g_Cpay (g_Cpay (g_Cinit (u2 τ 5000 0 0) (mR τ) (mB τ) (mpk τ) (mgr τ) (mcd τ)) 1 20005 (mB τ)) 2 20006 (mB τ) 20005 j = σ (1131 + 1) j := fun j hj => by
    rw [f2 _ (by decide)]
    exact (pay_q m r p a (t := g_Cinit (u2 τ 5000 0 0) (mR τ) (mB τ) (mpk τ) (mgr τ) (mcd τ)) rfl rfl (fun _ _ => rfl) (qa := 20005) (by decide) hj).1
  have p26 : ∀ j, j < 6 → g_Cpay (g_Cpay (g_Cinit (u2 τ 5000 0 0) (mR τ) (mB τ) (mpk τ) (mgr τ) (mcd τ)) 1 20005 (mB τ)) 2 20006 (mB τ) 20006 j = σ (1131 + 2) j := fun j hj =>
    (pay_q m r p a (t := g_Cpay (g_Cinit (u2 τ 5000 0 0) (mR τ) (mB τ) (mpk τ) (mgr τ) (mcd τ)) 1 20005 (mB τ)) (f1 _ (by decide)) (f1 _ (by decide)) (fun q hq => f1 q (by omega)) (qa := 20006) (by decide) hj).2
  have sales : d_dg0 σ (mK τ) (mB τ) (mR τ) (mC τ) (aw σ) cnt = x_dig_23 (g_Cinit (u2 τ 5000 0 0) (mR τ) (mB τ) (mpk τ) (mgr τ) (mcd τ)) (mR τ) (mB τ) (mK τ) (mC τ) (mpk τ) (mg τ) (mtn τ) (msp τ) 58282 := by
    unfold d_dg0 x_dig_23
    refine xit_cg (N := 17) (fun k s hk => ?_) 17 0 58282 rfl
    (try dsimp only)
    rw [facts_s rc r a z9 m p oz d eB hcn (k := k) (by omega)]
    rfl
  have regs : (d_dgR σ (mK τ) (mB τ) (mR τ) (mC τ) (aw σ) cnt sp).1 = x_digA (g_Cinit (u2 τ 5000 0 0) (mR τ) (mB τ) (mpk τ) (mgr τ) (mcd τ)) (mR τ) (mB τ) (mK τ) (mC τ) (mpk τ) (mg τ) (mtn τ) (msp τ) 58282 := by
    unfold d_dgR x_digA
    rw [dgR_fst, ← sales]
    unfold x_dig_48
    exact xit_cg (N := mR τ) (fun i s hi => dig_region rc r a m p (by rw [lo _ (by decide), u2_oi (by decide)]) (fun q h1 h2 => (lo q h2).trans (t0q q h1 h2)) hsp hi) (mR τ) 0 _ (Nat.zero_add _)
  have bids : d_dgB σ (mB τ) (aw σ) cnt (d_dgR σ (mK τ) (mB τ) (mR τ) (mC τ) (aw σ) cnt sp).1 = y_digB τ (mR τ) (mB τ) (mpk τ) (mgr τ) (mcd τ) (mK τ) (mC τ) (mg τ) (mtn τ) (msp τ) (mrg τ) := by
    unfold d_dgB y_digB x_digB x_dig_155
    rw [regs]
    refine xit_cg (N := mB τ) (fun i s hi => ?_) (mB τ) 0 _ (Nat.zero_add _)
    exact dig_bidder rc r a z9 m p d (by rw [f2 _ (by decide), f1 _ (by decide), lo _ (by decide), u2_oi (by decide)]) (fun q h1 h2 => by rw [f2 _ (by omega), f1 _ (by omega), lo _ h2]; exact t0q q h1 h2) (fun j hj => by rw [f2 _ (by decide), f1 _ (by decide)]; exact c1 j hj) p25 p26 hcn hi
  have last := dig_last (t := u2 τ 5000 0 0) (y0 := y_digB τ (mR τ) (mB τ) (mpk τ) (mgr τ) (mcd τ) (mK τ) (mC τ) (mg τ) (mtn τ) (msp τ) (mrg τ)) rc t0q K60
  have snd : f_isSound (g_dgS σ (mC τ) (arg σ)) (mR τ) (mB τ) (aw σ) (mK τ) = vS (u2 τ 5000 0 0) := by
    by_cases c : 0 < mC τ
    · rw [clr1 c]
      have v1 : VC σ (g_clear (g_clear σ 1 (mC τ) (arg σ)) 2 (mC τ) (arg σ)) := VC.clear.trans VC.clear
      have v2 : VK σ (g_clear (g_clear σ 1 (mC τ) (arg σ)) 2 (mC τ) (arg σ)) := VK.clear.trans VK.clear
      have v3 : VA σ (g_clear (g_clear σ 1 (mC τ) (arg σ)) 2 (mC τ) (arg σ)) := VA.clear.trans VA.clear
      have v4 : VX σ (g_clear (g_clear σ 1 (mC τ) (arg σ)) 2 (mC τ) (arg σ)) := VX.clear.trans VX.clear
      have S := says_sound (σ := g_clear (g_clear σ 1 (mC τ) (arg σ)) 2 (mC τ) (arg σ)) (rc.kept r MK.rfl' v2) r (a.kept MA.rfl' v3) z9 jc.clear.clear js (oz.row v1 v2) ((congrArg cn v1.2.1).trans eB) (m.kept r MX.rfl' v4) p hy
      have ew : aw (g_clear (g_clear σ 1 (mC τ) (arg σ)) 2 (mC τ) (arg σ)) = aw σ := congrArg cn (v4 1000 9 (by unfold kx; omega))
      rw [ew] at S
      exact S
    · rw [show g_dgS σ (mC τ) (arg σ) = σ from if_neg c]
      exact says_sound rc r a z9 jc js oz eB m p hy
  unfold f_digest f_Mdigest d_dg1
  rw [snd, bids, last, dig_st a hb r rs]
  unfold x_digE f_mixed
  by_cases c : vS (u2 τ 5000 0 0) = 0
  · rw [if_pos c, if_pos c]
    rfl
  · rw [if_neg c, if_neg c]
    rfl
end
