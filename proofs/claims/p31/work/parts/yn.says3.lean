/-! ===== what the market's calls say ===== -/
section
variable {τ σ t s : XS9} {R B i wy : Nat} {x y z v : Int32} {gr cnt : Nat → Nat}
theorem lt_two {n : Nat} (hn : n < 1000) : (¬ y < 0 ∧ y < nI n) ↔ n_lt y n := by
  refine ⟨fun ⟨h1, h2⟩ => ?_, fun ⟨h1, h2⟩ => ?_⟩
  · obtain ⟨e1, e2⟩ := cn_of (Int32.not_lt.mp h1)
    rw [e1] at h2
    have yl : y.toInt < 2 ^ 31 := y.toInt_lt
    exact ⟨e1, (nlt (by omega) (by omega)).mp h2⟩
  · rw [h1]
    exact ⟨Int32.not_lt.mpr ((nle (a := 0) (by omega) (by omega)).mpr (Nat.zero_le _)), (nlt (by omega) (by omega)).mpr h2⟩
/-- all stages: the market stands -/
theorem RM.all (h : RM τ σ) (r : JR τ) (p : JP τ) (a : RA τ σ) : MKT τ σ ∧ MKW τ σ ∧ PYQ σ := by
  by_cases hs : τ 5000 1 ≤ 1
  · have E := h.e hs
    obtain ⟨m, w⟩ := E.mk
    refine ⟨m, w, fun v hv j hj => ?_⟩
    have F := TKF.mk r h.k p
    obtain ⟨W, b, p1, p2, h1, h2, h3, h4, h5, h6⟩ := pay_eq (B := 6) (t := tC σ) w.1 w.2 (PCx.mk (TA.mk a) F h.k) F.p6 (Nat.le_refl _) (fun j h1 h2 => by omega) (fun d hd => ouX_dn hd) (fun j _ => if_pos rfl) (fun S _ => by
      unfold tC
      rw [if_neg (by decide), if_pos rfl]) (fun j hj k hk => by
      rw [E.2.2.2 j hj] at hk
      omega)
    have b0 : b j = 0 := (h2 j hj).2 (by
      show (if (9001 : Nat) = 9001 then σ 1040 j else _) = -1
      rw [if_pos rfl]
      exact E.2.1.1 j hj)
    have z : σ (1131 + v) j = 0 := E.2.1.2.2 v hv j hj
    rw [z]
    match v, hv with
    | 0, _ =>
      rw [(h6 j hj).1, b0]
      rfl
    | 1, _ =>
      have := (h5 j hj).2.1
      rw [(h6 j hj).2.1, show p1 j = 0 by omega]
      rfl
    | 2, _ =>
      have := (h5 j hj).2.2
      rw [(h6 j hj).2.2, show p2 j = 0 by omega]
      rfl
  · exact h.m hs
/-- the choice that a question makes -/
theorem RM.cho (h : RM τ σ) (r : JR τ) (p : JP τ) : (∀ j, j < 6 → g_Cinit (u2 τ 5000 0 0) (mR τ) (mB τ) (mpk τ) (mgr τ) (mcd τ) 9001 j = σ 1040 j) ∧ ∀ S, S < 64 → g_Cinit (u2 τ 5000 0 0) (mR τ) (mB τ) (mpk τ) (mgr τ) (mcd τ) 9003 S = σ 1041 S := by
  by_cases hs : τ 5000 1 ≤ 1
  · have E := h.e hs
    obtain ⟨b1, b2⟩ := cinitB_rows (t := u2 τ 5000 0 0) (R := mR τ) (B := mB τ) (pkM := mpk τ) (grM := mgr τ) (cd := mcd τ)
    have e : g_Cinit (u2 τ 5000 0 0) (mR τ) (mB τ) (mpk τ) (mgr τ) (mcd τ) = g_CinitB (u2 τ 5000 0 0) (mR τ) (mB τ) (mpk τ) (mgr τ) (mcd τ) := if_pos (by rw [u2_oi (by decide)]; exact hs)
    rw [e]
    exact ⟨fun j hj => (b1 j hj).trans (E.2.1.1 j hj).symm, fun S hS => (b2 S hS).trans (E.2.1.2.1 S hS).symm⟩
  · obtain ⟨⟨k, F⟩, m, w, _⟩ := h.mid (t := u2 τ 5000 0 0) (s := σ) hs r p (fun q i hk hn => MX.s0 q i hk) (fun _ _ _ _ => rfl)
    have H := cho_eq (t := u2 τ 5000 0 0) (σ := σ) (by rw [u2_oi (by decide)]; exact hs) F m w
    have e : ∀ q, q ≠ 5000 → u2 τ 5000 0 0 q = τ q := fun q hq => u2_ne hq
    have q1 : mR (u2 τ 5000 0 0) = mR τ := MX.s0.R
    have q2 : mB (u2 τ 5000 0 0) = mB τ := MX.s0.B
    have q3 : mpk (u2 τ 5000 0 0) = mpk τ := funext fun j => by
      show cn (u2 _ _ _ _ (5030 + j) 900) / 2 = _
      rw [e _ (by omega)]
    have q4 : mgr (u2 τ 5000 0 0) = mgr τ := funext fun j => by
      show cn (u2 _ _ _ _ (5020 + j) 3) = _
      rw [e _ (by omega)]
    have q5 : mcd (u2 τ 5000 0 0) = mcd τ := funext fun j => funext fun k => by
      show cn (u2 _ _ _ _ (5030 + j) (2 * k)) = _
      rw [e _ (by omega)]
    rw [q1, q2, q3, q4, q5] at H
    exact H
theorem cho_lo {q : Nat} (hq : q < 9000) : g_Cinit (u2 τ 5000 0 0) (mR τ) (mB τ) (mpk τ) (mgr τ) (mcd τ) q = u2 τ 5000 0 0 q := fr_Cinit (.inl hq)
/-- payments by a question's choice -/
theorem RM.pay (h : RM τ σ) (r : JR τ) (p : JP τ) (a : RA τ σ) : ∃ W b : Nat → Nat, ∃ f : Nat → Nat → Nat, FWs W b (mB τ) ∧ (∀ j, j < 6 → f_amountWon σ j = nI (b j) ∧ (σ 1040 j = -1 → b j = 0)) ∧ (∀ j, j < mB τ → f_Camount (g_Cinit (u2 τ 5000 0 0) (mR τ) (mB τ) (mpk τ) (mgr τ) (mcd τ)) j = nI (b j)) ∧ (∀ S, S < 64 → σ 1041 S = nI (W S)) ∧ (∀ j, j < 6 → σ 1131 j = nI (b j)) ∧ ∀ v, v < 3 → ∀ j, j < 6 → σ (1131 + v) j = nI (f v j) ∧ f v j ≤ b j ∧ g_Cpay (g_Cinit (u2 τ 5000 0 0) (mR τ) (mB τ) (mpk τ) (mgr τ) (mcd τ)) v 20000 (mB τ) 20000 j = nI (f v j) := by
  obtain ⟨m, w, y9⟩ := h.all r p a
  obtain ⟨c1, c3⟩ := h.cho r p
  have F := TKF.mk r h.k p
  have hB6 := r.hB.2
  obtain ⟨W, b, f, h1, h2, h3, h4, h5, h6⟩ := y9.same (τ := τ) (t := g_Cinit (u2 τ 5000 0 0) (mR τ) (mB τ) (mpk τ) (mgr τ) (mcd τ)) w (PCx.mk (TA.mk a) F h.k) F.p6 hB6 c1 c3 (fun j hj k hk => by
    rw [cho_lo (by omega), u2_ne (by omega)]
    exact F.pcm hj (pkB_lt hk).2)
  exact ⟨W, b, f, h1, fun j hj => ⟨(h2 j hj).1, fun e => (h2 j hj).2 ((c1 j hj).trans e)⟩, h3, h4, h5, h6⟩
theorem says_ofPackage (h : RM τ σ) (r : JR τ) (hcn : ∀ j, j < 6 → cnt j = pkB τ j) : g_MofPackage τ x y v (mB τ) (mpk τ) 5000 0 = lw_k [eIOB] (o_ofPackage σ x y v (mB τ) cnt) ∧ ∀ w, o_ofPackage σ x y v (mB τ) cnt = .inl w → w = f_MofPackage τ x y v (mB τ) (mpk τ) := by
  have hB6 := r.hB.2
  unfold g_MofPackage o_ofPackage f_MofPackage
  by_cases c1 : n_lt x (mB τ)
  · have c12 := c1.2
    have ep : cnt (cn x) = mpk τ (cn x) := by
      rw [hcn (cn x) (by omega)]
      exact if_pos c12
    have k6 := (r.hpk (cn x) c12).2
    have l2 := lt_two (y := y) (n := mpk τ (cn x)) (by omega)
    rw [if_pos c1, if_pos c1, if_pos c1, ep]
    by_cases c2 : n_lt y (mpk τ (cn x))
    · have c0 := (sub1_lt (x := y) (R := mpk τ (cn x)) (by omega)).mpr c2
      obtain ⟨d1, d2⟩ := l2.mpr c2
      rw [if_pos c0, if_pos c0, if_neg d1, if_pos d2]
      have hk := h.k.2.2 (cn x) c12 (cn y) c2.2
      by_cases c3 : v = 0
      · rw [if_pos c3, if_pos c3]
        refine fine0 ?_
        unfold f_Bcode
        rw [u2_ne (by omega)]
        exact hk.1
      · rw [if_neg c3, if_neg c3]
        refine fine0 ?_
        unfold f_Bamount
        rw [u2_ne (by omega)]
        exact hk.2.1
    · have c0 := fun q => c2 ((sub1_lt (x := y) (R := mpk τ (cn x)) (by omega)).mp q)
      rw [if_neg c0, if_neg c0]
      by_cases d1 : y < 0
      · rw [if_pos d1]
        exact bad rfl
      · rw [if_neg d1, if_neg (fun d2 => c2 (l2.mp ⟨d1, d2⟩))]
        exact bad rfl
  · rw [if_neg c1, if_neg c1, if_neg c1]
    exact bad rfl
theorem says_wins (h : RM τ σ) (r : JR τ) (p : JP τ) : g_Mwins τ x (mR τ) (mB τ) (mpk τ) (mgr τ) (mcd τ) 5000 0 = lw_k [eIOB] (o_wins σ x (mB τ)) ∧ ∀ w, o_wins σ x (mB τ) = .inl w → w = f_Mwins τ x (mR τ) (mB τ) (mpk τ) (mgr τ) (mcd τ) := by
  have hB6 := r.hB.2
  unfold g_Mwins o_wins f_Mwins
  by_cases c1 : n_lt x (mB τ)
  · have c12 := c1.2
    rw [if_pos c1, if_pos c1, if_pos c1]
    refine ⟨?_, fun w e => ?_⟩
    · rw [u2_ne (by decide), cho_lo (by decide), u2_at]
      rfl
    · rw [← Sum.inl.inj e]
      unfold f_MwinsNow
      rw [cho_lo (by decide), u2_oi (by decide)]
      by_cases c2 : τ 5000 1 = 3
      · rw [if_pos c2, cho_lo (by decide), u2_ne (by decide)]
        exact ((h.n3 c2).1.1 (cn x) (by omega)).symm
      · rw [if_neg c2]
        exact ((h.cho r p).1 (cn x) (by omega)).symm
  · rw [if_neg c1, if_neg c1, if_neg c1]
    exact bad rfl
theorem says_worth (h : RM τ σ) (r : JR τ) (p : JP τ) : g_Mworth τ x (mR τ) (mB τ) (mpk τ) (mgr τ) (mcd τ) 5000 0 = lw_k [eIAE] (o_worth σ x (mB τ)) ∧ ∀ w, o_worth σ x (mB τ) = .inl w → w = f_Mworth τ x (mR τ) (mB τ) (mpk τ) (mgr τ) (mcd τ) := by
  have p6 := pow_le6 r.hB.2
  unfold g_Mworth o_worth f_Mworth
  by_cases c1 : n_lt x (2 ^ mB τ)
  · have c12 := c1.2
    rw [if_pos c1, if_pos c1, if_pos c1]
    refine ⟨?_, fun w e => ?_⟩
    · rw [u2_ne (by decide), cho_lo (by decide), u2_at]
      rfl
    · rw [← Sum.inl.inj e]
      exact ((h.cho r p).2 (cn x) (by omega)).symm
  · rw [if_neg c1, if_neg c1, if_neg c1]
    exact bad rfl
theorem says_wouldPay (h : RM τ σ) (r : JR τ) (p : JP τ) (a : RA τ σ) : g_MwouldPay τ x y (mR τ) (mB τ) (mpk τ) (mgr τ) (mcd τ) 5000 0 = lw_k [eIOB, eIAE] (o_wouldPay σ x y (mB τ)) ∧ ∀ w, o_wouldPay σ x y (mB τ) = .inl w → w = f_MwouldPay τ x y (mR τ) (mB τ) (mpk τ) (mgr τ) (mcd τ) := by
  have hB6 := r.hB.2
  unfold g_MwouldPay o_wouldPay f_MwouldPay
  by_cases c1 : n_lt x (mB τ)
  · have c12 := c1.2
    rw [if_pos c1, if_pos c1, if_pos c1]
    by_cases c2 : n_bt y 0 2
    · have hy := (bd.bt (m := 2) c2 (by decide) rfl (by decide)).2
      rw [if_pos c2, if_pos c2, if_pos c2]
      refine ⟨?_, fun w e => ?_⟩
      · rw [u2_ne (by decide), u2_ne (by decide), fr_Cpay ⟨by decide, hB6⟩, cho_lo (by decide), u2_at]
        rfl
      · rw [← Sum.inl.inj e]
        obtain ⟨W, b, f, _, _, _, _, _, h6⟩ := h.pay r p a
        obtain ⟨q1, _, q2⟩ := h6 (cn y) (by omega) (cn x) (by omega)
        rw [q1, q2]
    · rw [if_neg c2, if_neg c2, if_neg c2]
      exact bad rfl
  · rw [if_neg c1, if_neg c1, if_neg c1]
    exact bad rfl
theorem says_objects (h : RM τ σ) (r : JR τ) (p : JP τ) (a : RA τ σ) : g_Mobjects τ x y (mR τ) (mB τ) (mpk τ) (mgr τ) (mcd τ) 5000 0 = lw_k [eIAE] (o_objects σ x y (mB τ)) ∧ ∀ w, o_objects σ x y (mB τ) = .inl w → w = f_Mobjects τ x y (mR τ) (mB τ) (mpk τ) (mgr τ) (mcd τ) := by
  have hB6 := r.hB.2
  have p6 := pow_le6 r.hB.2
  unfold g_Mobjects o_objects f_Mobjects
  by_cases c1 : n_lt x (2 ^ mB τ)
  · have c12 := c1.2
    rw [if_pos c1, if_pos c1, if_pos c1]
    by_cases c2 : n_bt y 0 2
    · have hy := (bd.bt (m := 2) c2 (by decide) rfl (by decide)).2
      rw [if_pos c2, if_pos c2, if_pos c2]
      refine ⟨?_, fun w e => ?_⟩
      · rw [u2_ne (by decide), u2_ne (by decide), fr_Cpay ⟨by decide, hB6⟩, cho_lo (by decide), u2_at]
        rfl
      · rw [← Sum.inl.inj e]
        obtain ⟨W, b, f, hF, h2, h3, h4, h5, h6⟩ := h.pay r p a
        obtain ⟨ch1, ch3⟩ := h.cho r p
        have oc := obj_cw (s := σ) (W := W) (a := b) (p := f (cn y)) (w := cn y) (S := cn x) (by omega) h5 (fun j hj => (h6 (cn y) (by omega) j hj).1) (h4 (cn x) (by omega))
        have gr9 : ∀ q, q ≠ 20000 → g_Cpay (g_Cinit (u2 τ 5000 0 0) (mR τ) (mB τ) (mpk τ) (mgr τ) (mcd τ)) (cn y) 20000 (mB τ) q = g_Cinit (u2 τ 5000 0 0) (mR τ) (mB τ) (mpk τ) (mgr τ) (mcd τ) q := fun q hq => fr_Cpay ⟨hq, hB6⟩
        have om := obj_m (t := g_Cpay (g_Cinit (u2 τ 5000 0 0) (mR τ) (mB τ) (mpk τ) (mgr τ) (mcd τ)) (cn y) 20000 (mB τ)) (W := W) (a := b) (p := f (cn y)) (qa := 20000) (B := mB τ) (S := cn x) (by omega) hB6 ⟨fun j hj => (h6 (cn y) (by omega) j hj).2.2, fun j hj => ⟨by rw [cam_row (gr9 9001 (by decide)) (gr9 (5030 + j) (by omega))]; exact h3 j hj, fun e9 => by
          rw [gr9 9001 (by decide), ch1 j (by omega)] at e9
          exact (h2 j (by omega)).2 e9⟩⟩ (fun j hj => (h6 (cn y) (by omega) j hj).2.1) hF.2.2.2 (by
          rw [gr9 9003 (by decide), ch3 (cn x) (by omega)]
          exact h4 (cn x) (by omega))
        rw [oc, om]
    · rw [if_neg c2, if_neg c2, if_neg c2]
      exact bad rfl
  · rw [if_neg c1, if_neg c1, if_neg c1]
    exact bad rfl
/-- the names' holders -/
theorem NM3.holds (r : JR τ) (k : RK τ σ) (p : JP τ) (hs : τ 5000 1 = 3) : hdM τ (wK τ) (mB τ) (mR τ) := fun q hq j hj => by
  have hR5 := r.hR.2
  refine ⟨?_, fun hb => ?_, fun _ e => ?_, fun hb e => ?_⟩
  · unfold wK
    split
    · exact dgt_le
    · omega
  · exact if_neg (fun w => by have := w.1; omega)
  · exact if_neg (fun w => w.2 e)
  · rw [show wK τ q j = dgt (τ (5030 + j) (2 * cn (τ 5005 j))) q from if_pos ⟨hb, e⟩]
    unfold f_Bcode
    rcases r.hkp hs j hb with z | ⟨n, n1, n2⟩
    · exact absurd z e
    · have k6 := (r.hpk j hb).2
      rw [n2, cn_nI (by omega)]
      exact of_d (Dm_bd r hb n1) (by omega)
theorem says_holder (h : RM τ σ) (r : JR τ) (p : JP τ) (a : RA τ σ) {spc : Nat → Nat} (hsp : ∀ q, q < mR τ → spc q = msp τ q) : g_Mholder τ x y (mR τ) (mB τ) (mtn τ) (msp τ) 5000 0 = lw_k [eIOB] (o_holder σ x y (mR τ) spc) ∧ ∀ w, o_holder σ x y (mR τ) spc = .inl w → w = f_Mholder τ x y (mR τ) (mB τ) (mtn τ) (msp τ) := by
  have hR5 := r.hR.2
  have hB6 := r.hB.2
  unfold g_Mholder o_holder f_Mholder
  by_cases c1 : n_lt x (mR τ)
  · have c12 := c1.2
    have k5 := (r.hsp (cn x) c12).2
    have l2 := lt_two (y := y) (n := msp τ (cn x)) (by omega)
    rw [if_pos c1, if_pos c1, if_pos c1, hsp (cn x) c12]
    by_cases c2 : n_lt y (msp τ (cn x))
    · have c0 := (sub1_lt (x := y) (R := msp τ (cn x)) (by omega)).mpr c2
      obtain ⟨d1, d2⟩ := l2.mpr c2
      have c22 := c2.2
      rw [if_pos c0, if_pos c0, if_neg d1, if_pos d2]
      refine fine0 ?_
      unfold f_MholderNow
      rw [u2_oi (by decide)]
      by_cases c3 : τ 5000 1 = 3
      · rw [if_pos c3, (h.n3 c3).2.1 (cn x) c12 (cn y) (by omega)]
        have H := (NM3.holds r h.k p c3).of (v := u2 τ 5000 0 0) fun q hq => u2_ne (by omega)
        have e := H.at (t := mtn τ (cn x)) c12 hB6 (b := cn y) (by omega)
        rw [← c2.1] at e
        rw [e]
        exact if_pos c22
      · rw [if_neg c3]
        exact (h.n0 c3).1 (cn x) (by omega) (cn y) (by omega)
    · have c0 := fun q => c2 ((sub1_lt (x := y) (R := msp τ (cn x)) (by omega)).mp q)
      rw [if_neg c0, if_neg c0]
      by_cases d1 : y < 0
      · rw [if_pos d1]
        exact bad rfl
      · rw [if_neg d1, if_neg (fun d2 => c2 (l2.mp ⟨d1, d2⟩))]
        exact bad rfl
  · rw [if_neg c1, if_neg c1, if_neg c1]
    exact bad rfl
theorem says_offer (h : RM τ σ) (r : JR τ) (p : JP τ) (a : RA τ σ) (z9 : RZ τ) (hst : σ 1000 7 = τ 5000 1) (hcn : ∀ j, j < 6 → cnt j = pkB τ j) : g_Moffer τ x y v (mR τ) (mB τ) (mpk τ) 5000 0 = lw_k [eIOB, eIAE, eISE] (o_offer σ x y v (mR τ) (mB τ) gr cnt) ∧ ∀ w, o_offer σ x y v (mR τ) (mB τ) gr cnt = .inl w → w = f_Moffer τ x y v (mR τ) (mB τ) (mpk τ) := by
  have hB6 := r.hB.2
  unfold g_Moffer o_offer f_Moffer
  by_cases c1 : n_lt x (mB τ)
  · have c12 := c1.2
    have ce := code_eq (σ := σ) (y := y) r
    rw [if_pos c1, if_pos c1, if_pos c1]
    by_cases c2 : y < 0
    · rw [if_pos c2, if_pos (ce.mpr (.inl c2)), if_pos c2]
      exact bad rfl
    · rw [if_neg c2, if_neg c2]
      by_cases c3 : f_power (mR τ) ≤ y
      · rw [if_pos c3, if_pos (ce.mpr (.inr c3)), if_pos c3]
        exact bad rfl
      · rw [if_neg c3, if_neg (fun w => (ce.mp w).elim c2 c3), if_neg c3]
        by_cases c4 : 0 ≤ v
        · rw [if_pos c4, if_pos c4, if_pos c4]
          by_cases c5 : τ 5000 1 = 2
          · rw [if_pos c5, if_pos (hst.trans c5), if_pos c5]
            obtain ⟨hy, hy2⟩ := code_bd r c2 c3
            have ep : cnt (cn x) = mpk τ (cn x) := by
              rw [hcn (cn x) (by omega)]
              exact if_pos c12
            rw [ep]
            by_cases c6 : 6 ≤ nI (mpk τ (cn x))
            · rw [if_pos c6, if_pos c6, if_pos c6]
              exact bad rfl
            · rw [if_neg c6, if_neg c6, if_neg c6]
              have mo := may_off (i := cn x) (z := v) a r p z9 h.k c12 hy hy2 c4
              by_cases c7 : f_mayOffer σ (cn x) y v (mR τ) = 0
              · rw [if_pos c7]
                have mo := mo.mp c7
                by_cases d1 : y ≤ 0
                · rw [if_pos d1, if_pos d1]
                  exact bad rfl
                · rw [if_neg d1, if_neg d1]
                  by_cases d2 : τ (5020 + cn x) 0 < v
                  · rw [if_pos d2, if_pos d2]
                    exact bad rfl
                  · rw [if_neg d2, if_neg d2]
                    by_cases d3 : (x_Moffer_104 τ y (mR τ) (1, Int64.ofNat (0 : Fin 2))).1 = 0
                    · rw [if_pos d3, if_pos d3]
                      exact bad rfl
                    · have d4 := ((mo.resolve_left d1).resolve_left d2).resolve_left d3
                      rw [if_neg d3, if_neg d3, if_neg d4, if_neg d4]
                      exact bad rfl
              · have mo := fun w => c7 (mo.mpr w)
                have d1 : ¬ y ≤ 0 := fun w => mo (.inl w)
                have d2 : ¬ τ (5020 + cn x) 0 < v := fun w => mo (.inr (.inl w))
                have d3 : ¬ (x_Moffer_104 τ y (mR τ) (1, Int64.ofNat (0 : Fin 2))).1 = 0 := fun w => mo (.inr (.inr (.inl w)))
                have d4 : 0 ≤ lg_cmp (Int32.toInt64 v) ((x_Moffer_104 τ y (mR τ) (1, Int64.ofNat (0 : Fin 2))).2) := Classical.byContradiction fun w => mo (.inr (.inr (.inr w)))
                rw [if_neg c7, if_neg d1, if_neg d1, if_neg d2, if_neg d2, if_neg d3, if_neg d3, if_pos d4, if_pos d4]
                refine ⟨?_, fun w e => (Sum.inl.inj e).symm⟩
                rw [madd_row (by omega), u2_at]
                rfl
          · rw [if_neg c5, if_neg (fun e => c5 (hst.symm.trans e)), if_neg c5]
            exact bad rfl
        · rw [if_neg c4, if_neg c4, if_neg c4]
          exact bad rfl
  · rw [if_neg c1, if_neg c1, if_neg c1]
    exact bad rfl
theorem says_fail (h : RM τ σ) (r : JR τ) (p : JP τ) (a : RA τ σ) (hst : σ 1000 7 = τ 5000 1) {sp : Nat → Nat} : g_Mfail τ x (mR τ) (mB τ) (mpk τ) (mgr τ) (mcd τ) (mwy τ) (msp τ) 5000 0 = lw_k [eIOB, eISE] (o_fail σ x (mR τ) (mB τ) sp) ∧ ∀ w, o_fail σ x (mR τ) (mB τ) sp = .inl w → w = f_Mfail τ x (mR τ) (mB τ) (mpk τ) (mgr τ) (mcd τ) (mwy τ) (msp τ) := by
  have hB6 := r.hB.2
  unfold g_Mfail o_fail f_Mfail
  by_cases c1 : n_lt x (mB τ)
  · have c12 := c1.2
    rw [if_pos c1, if_pos c1, if_pos c1]
    by_cases c2 : τ 5000 1 = 3
    · have e5 := (h.n3 c2).1.1 (cn x) (by omega)
      rw [if_pos c2, if_pos (hst.trans c2), if_pos c2]
      by_cases c3 : σ 1040 (cn x) = -1
      · rw [if_pos (e5.trans c3), if_pos c3, if_pos (e5.trans c3)]
        exact bad rfl
      · have n5 : ¬ τ 5005 (cn x) = -1 := fun e => c3 (e5.symm.trans e)
        rw [if_neg n5, if_neg c3, if_neg n5]
        refine ⟨?_, fun w e => ?_⟩
        · rw [fr_Mkeep ⟨by decide, by decide, by decide, hB6⟩, u2_ne (by omega), u2_oi (by decide), u2_at]
          rfl
        · rw [← Sum.inl.inj e, won_eq h r p a c2 c12 c3]
    · rw [if_neg c2, if_neg (fun e => c2 (hst.symm.trans e)), if_neg c2]
      exact bad rfl
  · rw [if_neg c1, if_neg c1, if_neg c1]
    exact bad rfl
/-- how many have won -/
theorem cnt_eq {f g : Nat → Int32} (hB6 : B ≤ 6) (h : ∀ j, j < 6 → f j = g j) (hz : ∀ j, B ≤ j → j < 6 → f j = -1) : xit (fun i4 (s4 : Int32) => (if (f i4) = (-1) then s4 else s4 + 1)) 6 0 0 = xit (fun i4 (s4 : Int32) => (if (g i4) = (-1) then s4 + 0 else s4 + 1)) B 0 0 := by
  have e1 : xit (fun i4 (s4 : Int32) => (if (f i4) = (-1) then s4 else s4 + 1)) 6 0 0 = xsum (fun i => if f i = -1 then 0 else 1) 6 := xit_cg (N := 6) (fun i s hi => by
    (try dsimp only)
    by_cases c : f i = -1
    · rw [if_pos c, if_pos c, Int32.add_zero]
    · rw [if_neg c, if_neg c]) 6 0 0 rfl
  have e2 : xit (fun i4 (s4 : Int32) => (if (g i4) = (-1) then s4 + 0 else s4 + 1)) B 0 0 = xsum (fun i => if f i = -1 then 0 else 1) B := xit_cg (N := B) (fun i s hi => by
    (try dsimp only)
    rw [h i (by omega)]
    by_cases c : g i = -1
    · rw [if_pos c, if_pos c]
    · rw [if_neg c, if_neg c]) B 0 0 (Nat.zero_add _)
  rw [e1, e2]
  exact xsum_cut (fun j h1 h2 => if_pos (hz j h1 h2)) hB6
theorem MKW.hi (w : MKW τ σ) {j : Nat} (h1 : mB τ ≤ j) (h2 : j < 6) : σ 1040 j = -1 := by
  obtain ⟨c, ⟨c1, _⟩, _, c3⟩ := w.1
  have := c1.1 j h2
  rw [pkB_z h1] at this
  rw [c3 j h2, show c j = 0 by omega]
  rfl
theorem says_settle (h : RM τ σ) (r : JR τ) (p : JP τ) (a : RA τ σ) (hst : σ 1000 7 = τ 5000 1) : g_Msettle τ x (mR τ) (mB τ) (mpk τ) (mgr τ) (mcd τ) (msp τ) 5000 0 = lw_k [eIAE, eISE] (o_settle σ x (mR τ) (asp σ)) ∧ ∀ w, o_settle σ x (mR τ) (asp σ) = .inl w → w = f_Msettle τ x (mR τ) (mB τ) (mpk τ) (mgr τ) (mcd τ) (msp τ) := by
  have hB6 := r.hB.2
  have H := RM.settle (x := x) h r p a hst
  unfold g_Msettle g_settle at H
  unfold g_Msettle o_settle f_Msettle
  by_cases c1 : n_bt x 0 2
  · by_cases c2 : τ 5000 1 = 2
    · rw [if_pos c1, if_pos c2, if_pos c1, if_pos (hst.trans c2)] at H
      rw [if_pos c1, if_pos c2, if_pos c1, if_pos (hst.trans c2), if_pos c1, if_pos c2]
      have e3 : g_Mkeep (u2 (u2 (u2 τ 5000 0 0) 5000 1 3) 5000 7 (nI (cn x))) (mR τ) (mB τ) (mpk τ) (mgr τ) (mcd τ) (cn x) (msp τ) 5000 = u2 (u2 (u2 τ 5000 0 0) 5000 1 3) 5000 7 (nI (cn x)) 5000 := fr_Mkeep ⟨by decide, by decide, by decide, hB6⟩
      refine ⟨?_, fun w e => ?_⟩
      · rw [e3, u2_oi (by decide), u2_oi (by decide), u2_at]
        rfl
      · rw [← Sum.inl.inj e]
        have s3 : g_Mkeep (u2 (u2 (u2 τ 5000 0 0) 5000 1 3) 5000 7 (nI (cn x))) (mR τ) (mB τ) (mpk τ) (mgr τ) (mcd τ) (cn x) (msp τ) 5000 1 = 3 := by
          rw [e3, u2_oi (by decide), u2_at]
        have k := (H.n3 s3).1.1
        have eB : mB (g_Mkeep (u2 (u2 (u2 τ 5000 0 0) 5000 1 3) 5000 7 (nI (cn x))) (mR τ) (mB τ) (mpk τ) (mgr τ) (mcd τ) (cn x) (msp τ)) = mB τ := by
          show cn (g_Mkeep _ _ _ _ _ _ _ _ 5002 900) = _
          rw [fr_Mkeep ⟨by decide, by decide, by decide, hB6⟩, u2_ne (by decide), u2_ne (by decide), u2_ne (by decide)]
        have w9 := (H.m (not01 (.inr s3))).2.1
        unfold f_winners x_winners_4 f_MwinnersKept x_MwinnersKept_4
        exact cnt_eq hB6 (fun j hj => (k j hj).symm) (fun j h1 h2 => w9.hi (by rw [eB]; exact h1) h2)
    · rw [if_pos c1, if_neg c2, if_pos c1, if_neg (fun e => c2 (hst.symm.trans e)), if_pos c1, if_neg c2]
      exact bad rfl
  · rw [if_neg c1, if_neg c1, if_neg c1]
    exact bad rfl
end
