section
/-! ===== the end of the clock ===== -/
def x_endClock_7 (σ : XS9) (R B K : Nat) (gr : Nat → Nat) (s0 : XS9) : XS9 := xit (fun i7 s7 => (if (s7 (2000 + 2) i7) = 0 then s7 else g_addM s7 i7 (s7 (2000 + 2) i7) (f_lastValue s7 2000 (s7 (2000 + 2) i7) K) R B gr (fun j => cn (s7 1020 j)))) B 0 s0
def g_endClock (σ : XS9) (R B K : Nat) (gr : Nat → Nat) : XS9 := g_find (x_endClock_7 σ R B K gr (u2 σ 1000 7 2))
theorem ct_X7_endClock {l : Launch} {h : XH} (hl : l.stackTraces = false) {σ : XS9} {R : Nat} (hR : σ 1001 4 = nI R) (hR5 : R ≤ 5) {B : Nat} (hB : σ 1001 9 = nI B) (hB6 : B ≤ 6) {gr : Nat → Nat} (hgr : ∀ i, i < 6 → σ 1017 i = nI (gr i) ∧ gr i < 4) {K : Nat} (hK : σ 2000 9 = nI (K + 1)) (hK60 : K < 60) (hxc : XCT σ) : XEx l m_X7_endClock 10 0 0 [.ref 1000] (setC σ h) (none) (setC (g_endClock σ R B K gr) h) := by
  refine XMet.of hl rfl rfl (Nat.le_of_ble_eq_true rfl) (fun Y O hh hQ => ?_)
  show SW Y 0 0 (setC σ h) 0 [.ref 1000, xx_d, xx_d] []
  refine sw_aload_n O (xx_dt dd_X7_endClock 0 rfl) rfl ?_
  refine sw_iconst (x := 2) O (xx_dt dd_X7_endClock 1 rfl) (by decide) ?_
  refine sw_put (h2 := setC (u2 σ 1000 7 2) h) O (xx_dt dd_X7_endClock 2 rfl) cl_X7 fl_X7_54 (ly_1000 σ h) (by decide) (by decide) rfl (fun _ => ⟨rfl, rfl⟩) pu_1000_7 ?_
  refine sw_iconst (x := 0) O (xx_dt dd_X7_endClock 3 rfl) (by decide) ?_
  refine sw_istore_n (ls2 := [.ref 1000, .int 0, xx_d]) O (xx_dt dd_X7_endClock 4 rfl) (by decide) rfl ?_
  refine sw_for (fun i7 s7 => (if (s7 (2000 + 2) i7) = 0 then s7 else g_addM s7 i7 (s7 (2000 + 2) i7) (f_lastValue s7 2000 (s7 (2000 + 2) i7) K) R B gr (fun j => cn (s7 1020 j)))) (fun _ s7 => s7 1001 4 = nI R ∧ s7 1001 9 = nI B ∧ s7 2000 9 = nI (K + 1) ∧ s7 1017 = σ 1017 ∧ XCT s7) (hp := fun s7 => setC s7 h) (hd := 7) (lc := fun i7 s7 => [.ref 1000, .int (nI i7), xx_d]) (N := B) (fun i7 s7 hi7 hP7 => ⟨(by (try dsimp only); (repeat' split) <;> (refine ⟨?_, ?_, ?_, ?_, ?_⟩ <;> (first | exact hP7.1 | exact hP7.2.1 | exact hP7.2.2.1 | exact hP7.2.2.2.1 | exact hP7.2.2.2.2 | exact XCT.add hP7.2.2.2.2 (by omega) (fun i9 hi9 => (hgr i9 hi9).2) | exact (by rw [fr_addM ⟨by omega, by omega, fun i9 hi9 => (hgr i9 hi9).2⟩ (hP7.2.2.2.2 _ (by omega)).2]; first | exact hP7.1 | exact hP7.2.1 | exact hP7.2.2.1 | exact hP7.2.2.2.1) | exact hi7 | exact .inl rfl | exact .inr rfl | (simp (disch := omega) only [u2_ne, uR_ne, fr_fill, fr_useWaiver, fr_undoContradictions, fr_lowerEligible, fr_moveHeld, fr_raisePrices, fr_begin, fr_closeRound, fr_moveTaken, fr_findDisturbed, fr_addRegion, fr_addBidder, fr_take, fr_giveBack, fr_keepIfBetter, fr_findWinners, fr_leaveOut, fr_raiseEach, fr_raiseOutside, fr_find]; first | exact hP7.1 | exact hP7.2.1 | exact hP7.2.2.1 | exact hP7.2.2.2.1 | exact hP7.2.2.2.2 | exact XCT.add hP7.2.2.2.2 (by omega) (fun i9 hi9 => (hgr i9 hi9).2) | exact (by rw [fr_addM ⟨by omega, by omega, fun i9 hi9 => (hgr i9 hi9).2⟩ (hP7.2.2.2.2 _ (by omega)).2]; first | exact hP7.1 | exact hP7.2.1 | exact hP7.2.2.1 | exact hP7.2.2.2.1))))), fun kk7 => ?_⟩) B 0 (u2 σ 1000 7 2) (by omega) (⟨hR, hB, hK, rfl, hxc.of rfl⟩) (fun hP7 => ?_)
  · refine sw_iload_n O (xx_dt dd_X7_endClock 5 rfl) rfl ?_
    refine sw_aload_n O (xx_dt dd_X7_endClock 6 rfl) rfl ?_
    refine sw_get (v := .ref 1001) O (xx_dt dd_X7_endClock 7 rfl) cl_X7 fl_X7_12 (ly_1000 s7 h) (by decide) rfl ?_
    refine sw_get (v := .int (nI B)) O (xx_dt dd_X7_endClock 8 rfl) cl_X6 fl_X7_100 (ly_1001 s7 h) (by decide) (congrArg Value.int hP7.2.1) ?_
    refine sw_icmp_ge (tgt := 59) O (xx_dt dd_X7_endClock 9 rfl) (by decide) (fun q1 => ?_) (fun q1 => ?_)
    · exact absurd q1 (nI_ge (b := B) hi7 (by omega))
    · refine sw_aload_n O (xx_dt dd_X7_endClock 10 rfl) rfl ?_
      refine sw_get (v := .ref 2000) O (xx_dt dd_X7_endClock 11 rfl) cl_X7 fl_X7_19 (ly_1000 s7 h) (by decide) rfl ?_
      refine sw_get (v := .ref (2000 + 2)) O (xx_dt dd_X7_endClock 12 rfl) cl_X1 fl_X7_249 (lk_0 s7 h (.inl rfl)) (by decide) rfl ?_
      refine sw_iload_n O (xx_dt dd_X7_endClock 13 rfl) rfl ?_
      refine sw_iaload (v := .int (s7 (2000 + 2) i7)) O (xx_dt dd_X7_endClock 14 rfl) (lk_2 s7 h (.inl rfl)) (pk_in i7 _ (by omega)) (by rw [nI_clamp (by omega)]; try exact rfl) ?_
      refine sw_istore_n (ls2 := [.ref 1000, .int (nI i7), .int (s7 (2000 + 2) i7)]) O (xx_dt dd_X7_endClock 15 rfl) (by decide) rfl ?_
      refine sw_iload_n O (xx_dt dd_X7_endClock 16 rfl) rfl ?_
      refine sw_if_eq (tgt := 53) O (xx_dt dd_X7_endClock 17 rfl) (by decide) (fun q2 => ?_) (fun q2 => ?_)
      · refine sw_iinc (y := nI (i7 + 1)) (ls2 := [.ref 1000, .int (nI (i7 + 1)), .int (s7 (2000 + 2) i7)]) O (xx_dt dd_X7_endClock 29 rfl) rfl (nI_1 _) (by decide) rfl ?_
        refine sw_goto (tgt := 7) O (xx_dt dd_X7_endClock 30 rfl) (by decide) ?_
        refine sw_dum (ls2 := [.ref 1000, .int (nI (i7 + 1)), xx_d]) ⟨.inr rfl, .inr rfl, .inl rfl, trivial⟩ ?_
        simp only [if_pos q2] at kk7
        exact kk7
      · refine sw_aload_n O (xx_dt dd_X7_endClock 18 rfl) rfl ?_
        refine sw_get (v := .ref 1003) O (xx_dt dd_X7_endClock 19 rfl) cl_X7 fl_X7_29 (ly_1000 s7 h) (by decide) rfl ?_
        refine sw_aload_n O (xx_dt dd_X7_endClock 20 rfl) rfl ?_
        refine sw_get (v := .ref 1001) O (xx_dt dd_X7_endClock 21 rfl) cl_X7 fl_X7_12 (ly_1000 s7 h) (by decide) rfl ?_
        refine sw_iload_n O (xx_dt dd_X7_endClock 22 rfl) rfl ?_
        refine sw_iload_n O (xx_dt dd_X7_endClock 23 rfl) rfl ?_
        refine sw_aload_n O (xx_dt dd_X7_endClock 24 rfl) rfl ?_
        refine sw_get (v := .ref 2000) O (xx_dt dd_X7_endClock 25 rfl) cl_X7 fl_X7_19 (ly_1000 s7 h) (by decide) rfl ?_
        refine sw_iload_n O (xx_dt dd_X7_endClock 26 rfl) rfl ?_
        refine sw_callVx (as := [.int (s7 (2000 + 2) i7)]) (st := [.int (s7 (2000 + 2) i7), .int (nI i7), .ref 1001, .ref 1003]) (st2 := [.int (f_lastValue s7 2000 (s7 (2000 + 2) i7) K), .int (s7 (2000 + 2) i7), .int (nI i7), .ref 1001, .ref 1003]) O (ct_X1_lastValue hl (σ := s7) (b := 2000) (.inl rfl) (c := s7 (2000 + 2) i7) (K := K) hP7.2.2.1 (by omega)) ce_X1_lastValue ml_X7_384 iv_X1_lastValue cl_X1 rfl (lk_0 s7 h (.inl rfl)) (xx_dt dd_X7_endClock 27 rfl) (by first | decide | omega) rfl rfl (Nat.le_of_ble_eq_true rfl) rfl ?_
        refine sw_callVx (as := [.ref 1001, .int (nI i7), .int (s7 (2000 + 2) i7), .int (f_lastValue s7 2000 (s7 (2000 + 2) i7) K)]) (st := []) (st2 := []) O (ct_X2_add hl (σ := s7) (R := R) hP7.1 (by omega) (B := B) hP7.2.1 (by omega) (gr := gr) (fun j9 hj9 => by rw [show s7 1017 = σ 1017 from hP7.2.2.2.1]; exact hgr j9 hj9) (cnt := fun j => cn (s7 1020 j)) hP7.2.2.2.2 (i := i7) (x := s7 (2000 + 2) i7) (y := f_lastValue s7 2000 (s7 (2000 + 2) i7) K) (by omega)) ce_X2_add ml_X7_182 iv_X2_add cl_X2 rfl (ly_1003 s7 h) (xx_dt dd_X7_endClock 28 rfl) (by first | decide | omega) rfl rfl (Nat.le_of_ble_eq_true rfl) rfl ?_
        refine sw_iinc (y := nI (i7 + 1)) (ls2 := [.ref 1000, .int (nI (i7 + 1)), .int (s7 (2000 + 2) i7)]) O (xx_dt dd_X7_endClock 29 rfl) rfl (nI_1 _) (by decide) rfl ?_
        refine sw_goto (tgt := 7) O (xx_dt dd_X7_endClock 30 rfl) (by decide) ?_
        refine sw_dum (ls2 := [.ref 1000, .int (nI (i7 + 1)), xx_d]) ⟨.inr rfl, .inr rfl, .inl rfl, trivial⟩ ?_
        simp only [if_neg q2] at kk7
        exact kk7
  · show SW Y _ _ (setC (x_endClock_7 σ R B K gr (u2 σ 1000 7 2)) h) 7 [.ref 1000, .int (nI B), xx_d] []
    have hP7 : (x_endClock_7 σ R B K gr (u2 σ 1000 7 2)) 1001 4 = nI R ∧ (x_endClock_7 σ R B K gr (u2 σ 1000 7 2)) 1001 9 = nI B ∧ (x_endClock_7 σ R B K gr (u2 σ 1000 7 2)) 2000 9 = nI (K + 1) ∧ (x_endClock_7 σ R B K gr (u2 σ 1000 7 2)) 1017 = σ 1017 ∧ XCT (x_endClock_7 σ R B K gr (u2 σ 1000 7 2)) := hP7
    refine sw_iload_n O (xx_dt dd_X7_endClock 5 rfl) rfl ?_
    refine sw_aload_n O (xx_dt dd_X7_endClock 6 rfl) rfl ?_
    refine sw_get (v := .ref 1001) O (xx_dt dd_X7_endClock 7 rfl) cl_X7 fl_X7_12 (ly_1000 (x_endClock_7 σ R B K gr (u2 σ 1000 7 2)) h) (by decide) rfl ?_
    refine sw_get (v := .int (nI B)) O (xx_dt dd_X7_endClock 8 rfl) cl_X6 fl_X7_100 (ly_1001 (x_endClock_7 σ R B K gr (u2 σ 1000 7 2)) h) (by decide) (congrArg Value.int hP7.2.1) ?_
    refine sw_icmp_ge (tgt := 59) O (xx_dt dd_X7_endClock 9 rfl) (by decide) (fun q1 => ?_) (fun q1 => ?_)
    · refine sw_aload_n O (xx_dt dd_X7_endClock 31 rfl) rfl ?_
      refine sw_get (v := .ref 1004) O (xx_dt dd_X7_endClock 32 rfl) cl_X7 fl_X7_36 (ly_1000 (x_endClock_7 σ R B K gr (u2 σ 1000 7 2)) h) (by decide) rfl ?_
      refine sw_aload_n O (xx_dt dd_X7_endClock 33 rfl) rfl ?_
      refine sw_get (v := .ref 1003) O (xx_dt dd_X7_endClock 34 rfl) cl_X7 fl_X7_29 (ly_1000 (x_endClock_7 σ R B K gr (u2 σ 1000 7 2)) h) (by decide) rfl ?_
      refine sw_callVx (as := [.ref 1003]) (st := []) (st2 := []) O (ct_X4_find hl (σ := (x_endClock_7 σ R B K gr (u2 σ 1000 7 2)))) ce_X4_find ml_X7_186 iv_X4_find cl_X4 rfl (ly_1004 (x_endClock_7 σ R B K gr (u2 σ 1000 7 2)) h) (xx_dt dd_X7_endClock 35 rfl) (by first | decide | omega) rfl rfl (Nat.le_of_ble_eq_true rfl) rfl ?_
      exact sw_ret O (xx_dt dd_X7_endClock 36 rfl) rfl (by rw [hQ]; exact ⟨rfl, by unfold g_endClock; rfl⟩)
    · exact absurd (Int32.le_refl _) q1
theorem endClock_loop {σ : XS9} {R B K : Nat} {gr : Nat → Nat} (hB6 : B ≤ 6) (hg : ∀ i, i < 6 → gr i < 4) {s0 : XS9} (hc : XCT s0) : XCT (x_endClock_7 σ R B K gr s0) ∧ ∀ q, (q < 1020 ∨ 1124 < q) → x_endClock_7 σ R B K gr s0 q = s0 q := by
  unfold x_endClock_7
  refine xit_inv (fun s => XCT s ∧ ∀ q, (q < 1020 ∨ 1124 < q) → s q = s0 q) (N := B) (fun i s hi hP => ?_) B 0 s0 (by omega) ⟨hc, fun _ _ => rfl⟩
  (try dsimp only)
  split
  · exact hP
  · exact ⟨XCT.add hP.1 (by omega) hg, fun q hq => (fr_addM ⟨by omega, hq, hg⟩ (hP.1 _ (by omega)).2).trans (hP.2 q hq)⟩
theorem fr_endClock {σ : XS9} {R B K : Nat} {gr : Nat → Nat} (hB6 : B ≤ 6) (hg : ∀ i, i < 6 → gr i < 4) (hc : XCT σ) : XCT (g_endClock σ R B K gr) ∧ ∀ q, (q ≠ 1000 ∧ (q < 1020 ∨ 1124 < q) ∧ q ≠ 1131 ∧ q ≠ 1132 ∧ q ≠ 1133) → g_endClock σ R B K gr q = σ q := by
  have H := endClock_loop (σ := σ) (R := R) (K := K) hB6 hg (s0 := u2 σ 1000 7 2) (hc.of rfl)
  unfold g_endClock
  refine ⟨H.1.of (fr_find (by omega)), fun q h => ?_⟩
  rw [fr_find (by omega), H.2 q h.2.1, u2_ne h.1]
def XK (σ : XS9) : Prop := σ 2000 9 = nI (cn (σ 2000 9)) ∧ cn (σ 2000 9) ≤ 60
def IC (σ : XS9) (R B : Nat) (s : XS9) : Prop := s 1001 4 = nI R ∧ s 1001 9 = nI B ∧ s 1017 = σ 1017 ∧ XCT s ∧ XK s
theorem rounds_closeRound' {σ : XS9} {b B R K : Nat} {x : Int32} (hK : K ≤ 60) (hk : σ b 9 = nI K) : g_closeRound σ b x B R K b 9 = nI (min K 59 + 1) := by
  by_cases h : K < 60
  · rw [rounds_closeRound h]
    congr 1
    omega
  · obtain rfl : K = 60 := by omega
    unfold g_closeRound
    rw [if_neg (by decide)]
    exact hk
theorem IC.close {σ : XS9} {R B : Nat} {s : XS9} {x : Int32} (h : IC σ R B s) : IC σ R B (g_closeRound s 2000 x B R (cn (s 2000 9))) := by
  have h60 := h.2.2.2.2.2
  refine ⟨(congrFun (fr_closeRound (by omega)) 4).trans h.1, (congrFun (fr_closeRound (by omega)) 9).trans h.2.1, (fr_closeRound (by omega)).trans h.2.2.1, h.2.2.2.1.of (fr_closeRound (by omega)), ?_⟩
  unfold XK
  rw [rounds_closeRound' h60 h.2.2.2.2.1, cn_nI (by omega)]
  exact ⟨rfl, by omega⟩
theorem IC.endC {σ : XS9} {R B K : Nat} {gr : Nat → Nat} {s : XS9} (hB6 : B ≤ 6) (hg : ∀ i, i < 6 → gr i < 4) (h : IC σ R B s) : IC σ R B (g_endClock s R B K gr) := by
  have H := fr_endClock (R := R) (K := K) hB6 hg h.2.2.2.1
  refine ⟨(congrFun (H.2 _ (by omega)) 4).trans h.1, (congrFun (H.2 _ (by omega)) 9).trans h.2.1, (H.2 _ (by omega)).trans h.2.2.1, H.1, ?_⟩
  unfold XK
  rw [H.2 2000 (by omega)]
  exact h.2.2.2.2
theorem close_pres {σ : XS9} {R B : Nat} {gr : Nat → Nat} {s14 : XS9} (hB6 : B ≤ 6) (hg : ∀ i, i < 6 → gr i < 4) (h : IC σ R B s14) :
    (∀ s', (if (s14 1000 7) = 1 then (if (f_closeRound s14 2000 (s14 1000 8) B R (cn (s14 2000 9))) = 0 then .inl (g_closeRound s14 2000 (s14 1000 8) B R (cn (s14 2000 9))) else .inl (g_endClock (g_closeRound s14 2000 (s14 1000 8) B R (cn (s14 2000 9))) R B (min (cn (s14 2000 9)) 59) gr)) else .inr s14 : XS9 ⊕ XS9) = .inl s' → IC σ R B s') ∧
    ∀ s', (if (s14 1000 7) = 1 then (if (f_closeRound s14 2000 (s14 1000 8) B R (cn (s14 2000 9))) = 0 then .inl (g_closeRound s14 2000 (s14 1000 8) B R (cn (s14 2000 9))) else .inl (g_endClock (g_closeRound s14 2000 (s14 1000 8) B R (cn (s14 2000 9))) R B (min (cn (s14 2000 9)) 59) gr)) else .inr s14 : XS9 ⊕ XS9) = .inr s' → IC σ R B s' := by
  refine ⟨fun s' e => ?_, fun s' e => ?_⟩
  · by_cases c1 : s14 1000 7 = 1
    · rw [if_pos c1] at e
      by_cases c2 : f_closeRound s14 2000 (s14 1000 8) B R (cn (s14 2000 9)) = 0
      · rw [if_pos c2] at e
        rw [← Sum.inl.inj e]
        exact h.close
      · rw [if_neg c2] at e
        rw [← Sum.inl.inj e]
        exact h.close.endC hB6 hg
    · rw [if_neg c1] at e
      exact absurd e (by intro e; cases e)
  · by_cases c1 : s14 1000 7 = 1
    · rw [if_pos c1] at e
      by_cases c2 : f_closeRound s14 2000 (s14 1000 8) B R (cn (s14 2000 9)) = 0
      · rw [if_pos c2] at e
        exact absurd e (by intro e; cases e)
      · rw [if_neg c2] at e
        exact absurd e (by intro e; cases e)
    · rw [if_neg c1] at e
      rw [← Sum.inr.inj e]
      exact h
def x_close_14 (σ : XS9) (x : Int32) (R B : Nat) (gr : Nat → Nat) (s0 : XS9) : XS9 := xitB (fun i14 s14 => (if (s14 1000 7) = 1 then (if (f_closeRound s14 2000 (s14 1000 8) B R (cn (s14 2000 9))) = 0 then .inl (g_closeRound s14 2000 (s14 1000 8) B R (cn (s14 2000 9))) else .inl (g_endClock (g_closeRound s14 2000 (s14 1000 8) B R (cn (s14 2000 9))) R B (min (cn (s14 2000 9)) 59) gr)) else .inr s14)) (cn x) 0 s0
def o_close (σ : XS9) (x : Int32) (R B : Nat) (gr : Nat → Nat) : Int32 ⊕ String := (if n_bt x 1 9 then (if σ 1000 7 = 1 then .inl ((x_close_14 σ x R B gr σ) 1000 7) else .inr eISE) else .inr eIAE)
def g_close (σ : XS9) (x : Int32) (R B : Nat) (gr : Nat → Nat) : XS9 := (if n_bt x 1 9 then (if σ 1000 7 = 1 then (x_close_14 σ x R B gr σ) else σ) else σ)
theorem ct_X7_close {l : Launch} {h : XH} (hl : l.stackTraces = false) {σ : XS9} {R : Nat} (hR : σ 1001 4 = nI R) (hR5 : R ≤ 5) {B : Nat} (hB : σ 1001 9 = nI B) (hB6 : B ≤ 6) {gr : Nat → Nat} (hgr : ∀ i, i < 6 → σ 1017 i = nI (gr i) ∧ gr i < 4) (hxc : XCT σ) (hxk : XK σ) {x : Int32} : XEo l m_X7_close 11 1 6 [.ref 1000, .int x] (setC σ h) ((xoi (o_close σ x R B gr))) (setC (g_close σ x R B gr) h) := by
  refine XMet.of hl rfl rfl (Nat.le_of_ble_eq_true rfl) (fun Y O hh hQ => ?_)
  show SW Y 1 6 (setC σ h) 0 [.ref 1000, .int x, xx_d] []
  refine sw_iload_n O (xx_dt dd_X7_close 0 rfl) rfl ?_
  refine sw_iconst (x := 1) O (xx_dt dd_X7_close 1 rfl) (by decide) ?_
  refine sw_bipush (x := 9) O (xx_dt dd_X7_close 2 rfl) (by decide) ?_
  by_cases q1 : n_bt x 1 9
  · refine sw_callSx (as := [.int x, .int 1, .int 9]) (st := []) (st2 := []) (k' := 0) (n' := 0) O (ct_X7_needBetween_ok hl  q1) ce_X7_needBetween ml_X7_61 st_X7_needBetween (xx_dt dd_X7_close 3 rfl) (by decide) rfl rfl (Nat.le_of_ble_eq_true rfl) rfl ?_
    refine sw_lsE (ls2 := [.ref 1000, .int (nI (cn x)), xx_d]) (by rw [← (bt_nat 9 q1 (by decide) (by decide) (by decide)).1]) ?_
    have hvq1 := (bt_nat 9 q1 (by decide) (by decide) (by decide)).2
    refine sw_aload_n O (xx_dt dd_X7_close 4 rfl) rfl ?_
    refine sw_iconst (x := 1) O (xx_dt dd_X7_close 5 rfl) (by decide) ?_
    by_cases q2 : σ 1000 7 = 1
    · refine sw_callVx (as := [.int 1]) (st := []) (st2 := []) (k' := 0) (n' := 0) O (ct_X7_needStage_ok hl (σ := σ) q2) ce_X7_needStage ml_X7_65 iv_X7_needStage cl_X7 rfl (ly_1000 σ h) (xx_dt dd_X7_close 6 rfl) (by decide) rfl rfl (Nat.le_of_ble_eq_true rfl) rfl ?_
      refine sw_iconst (x := 0) O (xx_dt dd_X7_close 7 rfl) (by decide) ?_
      refine sw_istore_n (ls2 := [.ref 1000, .int (nI (cn x)), .int 0]) O (xx_dt dd_X7_close 8 rfl) (by decide) rfl ?_
      refine sw_forB (fun i14 s14 => (if (s14 1000 7) = 1 then (if (f_closeRound s14 2000 (s14 1000 8) B R (cn (s14 2000 9))) = 0 then .inl (g_closeRound s14 2000 (s14 1000 8) B R (cn (s14 2000 9))) else .inl (g_endClock (g_closeRound s14 2000 (s14 1000 8) B R (cn (s14 2000 9))) R B (min (cn (s14 2000 9)) 59) gr)) else .inr s14)) (fun _ s14 => IC σ R B s14) (fun s14 => IC σ R B s14) (hp := fun s14 => setC s14 h) (hd := 14) (lc := fun i14 s14 => [.ref 1000, .int (nI (cn x)), .int (nI i14)]) (ex := 55) (lx := fun s14 => [.ref 1000, .int (nI (cn x)), xx_d]) (N := (cn x)) (fun i14 s14 hi14 hP14 => ⟨(close_pres hB6 (fun i9 hi9 => (hgr i9 hi9).2) hP14), fun kk14 kb14 => ?_⟩) (fun s14 hP14 => ⟨hP14, fun kx14 => ?_⟩) (cn x) 0 σ (by omega) (⟨hR, hB, rfl, hxc, hxk⟩) (fun hP14 => ?_)
      · refine sw_iload_n O (xx_dt dd_X7_close 9 rfl) rfl ?_
        refine sw_iload_n O (xx_dt dd_X7_close 10 rfl) rfl ?_
        refine sw_icmp_ge (tgt := 55) O (xx_dt dd_X7_close 11 rfl) (by decide) (fun q3 => ?_) (fun q3 => ?_)
        · exact absurd q3 (nI_ge (b := (cn x)) hi14 (by omega))
        · have hk60 := hP14.2.2.2.2.2
          refine sw_aload_n O (xx_dt dd_X7_close 12 rfl) rfl ?_
          refine sw_get (v := .int (s14 1000 7)) O (xx_dt dd_X7_close 13 rfl) cl_X7 fl_X7_54 (ly_1000 s14 h) (by decide) rfl ?_
          refine sw_iconst (x := 1) O (xx_dt dd_X7_close 14 rfl) (by decide) ?_
          refine sw_icmp_ne (tgt := 55) O (xx_dt dd_X7_close 15 rfl) (by decide) (fun q4 => ?_) (fun q4 => ?_)
          · refine sw_dum (ls2 := [.ref 1000, .int (nI (cn x)), xx_d]) ⟨.inr rfl, .inr rfl, .inl rfl, trivial⟩ ?_
            exact kb14 s14 (by simp only [if_neg q4])
          · refine sw_aload_n O (xx_dt dd_X7_close 16 rfl) rfl ?_
            refine sw_get (v := .ref 2000) O (xx_dt dd_X7_close 17 rfl) cl_X7 fl_X7_19 (ly_1000 s14 h) (by decide) rfl ?_
            refine sw_aload_n O (xx_dt dd_X7_close 18 rfl) rfl ?_
            refine sw_get (v := .ref 1001) O (xx_dt dd_X7_close 19 rfl) cl_X7 fl_X7_12 (ly_1000 s14 h) (by decide) rfl ?_
            refine sw_aload_n O (xx_dt dd_X7_close 20 rfl) rfl ?_
            refine sw_get (v := .int (s14 1000 8)) O (xx_dt dd_X7_close 21 rfl) cl_X7 fl_X7_58 (ly_1000 s14 h) (by decide) rfl ?_
            refine sw_callVx (as := [.ref 1001, .int (s14 1000 8)]) (st := []) (st2 := [.int (f_closeRound s14 2000 (s14 1000 8) B R (cn (s14 2000 9)))]) O (ct_X1_closeRound hl (σ := s14) (b := 2000) (.inl rfl) (B := B) hP14.2.1 (by omega) (R := R) hP14.1 (by omega) (K := cn (s14 2000 9)) hP14.2.2.2.2.1 (by omega) (x := s14 1000 8)) ce_X1_closeRound ml_X7_161 iv_X1_closeRound cl_X1 rfl (lk_0 s14 h (.inl rfl)) (xx_dt dd_X7_close 22 rfl) (by first | decide | omega) rfl rfl (Nat.le_of_ble_eq_true rfl) rfl ?_
            refine sw_if_eq (tgt := 49) O (xx_dt dd_X7_close 23 rfl) (by decide) (fun q5 => ?_) (fun q5 => ?_)
            · refine sw_iinc (y := nI (i14 + 1)) (ls2 := [.ref 1000, .int (nI (cn x)), .int (nI (i14 + 1))]) O (xx_dt dd_X7_close 26 rfl) rfl (nI_1 _) (by decide) rfl ?_
              refine sw_goto (tgt := 14) O (xx_dt dd_X7_close 27 rfl) (by decide) ?_
              exact kk14 (g_closeRound s14 2000 (s14 1000 8) B R (cn (s14 2000 9))) (by simp only [if_pos q4, if_pos q5])
            · refine sw_aload_n O (xx_dt dd_X7_close 24 rfl) rfl ?_
              refine sw_callVx (as := []) (st := []) (st2 := []) O (ct_X7_endClock hl (σ := g_closeRound s14 2000 (s14 1000 8) B R (cn (s14 2000 9))) (R := R) ((congrFun (fr_closeRound (by omega)) 4).trans hP14.1) (by omega) (B := B) ((congrFun (fr_closeRound (by omega)) 9).trans hP14.2.1) (by omega) (gr := gr) (fun j9 hj9 => by rw [show (g_closeRound s14 2000 (s14 1000 8) B R (cn (s14 2000 9))) 1017 = σ 1017 from ((fr_closeRound (by omega)).trans hP14.2.2.1)]; exact hgr j9 hj9) (K := min (cn (s14 2000 9)) 59) (rounds_closeRound' (by omega) hP14.2.2.2.2.1) (by omega) (hP14.2.2.2.1.of (fr_closeRound (by omega)))) ce_X7_endClock ml_X7_165 iv_X7_endClock cl_X7 rfl (ly_1000 (g_closeRound s14 2000 (s14 1000 8) B R (cn (s14 2000 9))) h) (xx_dt dd_X7_close 25 rfl) (by first | decide | omega) rfl rfl (Nat.le_of_ble_eq_true rfl) rfl ?_
              refine sw_iinc (y := nI (i14 + 1)) (ls2 := [.ref 1000, .int (nI (cn x)), .int (nI (i14 + 1))]) O (xx_dt dd_X7_close 26 rfl) rfl (nI_1 _) (by decide) rfl ?_
              refine sw_goto (tgt := 14) O (xx_dt dd_X7_close 27 rfl) (by decide) ?_
              exact kk14 (g_endClock (g_closeRound s14 2000 (s14 1000 8) B R (cn (s14 2000 9))) R B (min (cn (s14 2000 9)) 59) gr) (by simp only [if_pos q4, if_neg q5])
      · show SW Y _ _ (setC s14 h) 14 [.ref 1000, .int (nI (cn x)), .int (nI ((cn x)))] []
        have hP14 : IC σ R B s14 := hP14
        refine sw_iload_n O (xx_dt dd_X7_close 9 rfl) rfl ?_
        refine sw_iload_n O (xx_dt dd_X7_close 10 rfl) rfl ?_
        refine sw_icmp_ge (tgt := 55) O (xx_dt dd_X7_close 11 rfl) (by decide) (fun q3 => ?_) (fun q3 => ?_)
        · refine sw_dum (ls2 := [.ref 1000, .int (nI (cn x)), xx_d]) ⟨.inr rfl, .inr rfl, .inl rfl, trivial⟩ ?_
          exact kx14
        · exact absurd (Int32.le_refl _) q3
      · show SW Y _ _ (setC (x_close_14 σ x R B gr σ) h) 55 [.ref 1000, .int (nI (cn x)), xx_d] []
        refine sw_aload_n O (xx_dt dd_X7_close 28 rfl) rfl ?_
        refine sw_get (v := .int ((x_close_14 σ x R B gr σ) 1000 7)) O (xx_dt dd_X7_close 29 rfl) cl_X7 fl_X7_54 (ly_1000 (x_close_14 σ x R B gr σ) h) (by decide) rfl ?_
        exact sw_iret O (xx_dt dd_X7_close 30 rfl) rfl rfl (by rw [hQ]; exact ⟨by unfold o_close; simp only [if_pos q1, if_pos q2]; rfl, by unfold g_close; simp only [if_pos q1, if_pos q2]⟩)
    · exact sw_callVt (as := [.int 1]) (st := []) (k := 0) (n := 0) (k' := 1) (n' := 6) O (ct_X7_needStage_no hl (σ := σ) q2) ce_X7_needStage ml_X7_65 iv_X7_needStage cl_X7 rfl (ly_1000 σ h) (xx_dt dd_X7_close 6 rfl) (by decide) rfl rfl (Nat.le_of_ble_eq_true rfl)  (by rw [hQ]; exact ⟨by unfold o_close; simp only [if_pos q1, if_neg q2]; rfl, by unfold g_close; simp only [if_pos q1, if_neg q2]⟩)
  · exact sw_callSt (as := [.int x, .int 1, .int 9]) (st := []) (k := 0) (n := 0) (k' := 1) (n' := 6) O (ct_X7_needBetween_no hl  q1) ce_X7_needBetween ml_X7_61 st_X7_needBetween (xx_dt dd_X7_close 3 rfl) (by decide) rfl rfl (Nat.le_of_ble_eq_true rfl)  (by rw [hQ]; exact ⟨by unfold o_close; simp only [if_neg q1]; rfl, by unfold g_close; simp only [if_neg q1]⟩)
def o_offer (σ : XS9) (x y z : Int32) (R B : Nat) (gr cnt : Nat → Nat) : Int32 ⊕ String := (if n_lt x B then (if (f_isCode σ y R) = 0 then .inr eIAE else (if 0 ≤ z then (if σ 1000 7 = 2 then (if 6 ≤ (nI (cnt (cn x))) then .inr eISE else (if (f_mayOffer σ (cn x) y z R) = 0 then .inr eISE else .inl (nI (cnt (cn x))))) else .inr eISE) else .inr eIAE)) else .inr eIOB)
def g_offer (σ : XS9) (x y z : Int32) (R B : Nat) (gr cnt : Nat → Nat) : XS9 := (if n_lt x B then (if (f_isCode σ y R) = 0 then σ else (if 0 ≤ z then (if σ 1000 7 = 2 then (if 6 ≤ (nI (cnt (cn x))) then σ else (if (f_mayOffer σ (cn x) y z R) = 0 then σ else g_find (g_addM σ (cn x) y z R B gr cnt))) else σ) else σ)) else σ)
theorem ct_X7_offer {l : Launch} {h : XH} (hl : l.stackTraces = false) {σ : XS9} {R : Nat} (hR : σ 1001 4 = nI R) (hR5 : R ≤ 5) {B : Nat} (hB : σ 1001 9 = nI B) (hB6 : B ≤ 6) {gr : Nat → Nat} (hgr : ∀ i, i < 6 → σ 1017 i = nI (gr i) ∧ gr i < 4) {cnt : Nat → Nat} (hct : ∀ i, i < 6 → σ 1020 i = nI (cnt i) ∧ cnt i ≤ 6) {x y z : Int32} : XEo l m_X7_offer 10 1 6 [.ref 1000, .int x, .int y, .int z] (setC σ h) ((xoi (o_offer σ x y z R B gr cnt))) (setC (g_offer σ x y z R B gr cnt) h) := by
  refine XMet.of hl rfl rfl (Nat.le_of_ble_eq_true rfl) (fun Y O hh hQ => ?_)
  show SW Y 1 6 (setC σ h) 0 [.ref 1000, .int x, .int y, .int z, xx_d] []
  refine sw_aload_n O (xx_dt dd_X7_offer 0 rfl) rfl ?_
  refine sw_iload_n O (xx_dt dd_X7_offer 1 rfl) rfl ?_
  by_cases q1 : n_lt x B
  · refine sw_callVx (as := [.int x]) (st := []) (st2 := []) (k' := 0) (n' := 0) O (ct_X7_needBidder_ok hl (σ := σ) (B := B) hB (by omega) q1) ce_X7_needBidder ml_X7_124 iv_X7_needBidder cl_X7 rfl (ly_1000 σ h) (xx_dt dd_X7_offer 2 rfl) (by decide) rfl rfl (Nat.le_of_ble_eq_true rfl) rfl ?_
    refine sw_lsE (ls2 := [.ref 1000, .int (nI (cn x)), .int y, .int z, xx_d]) (by rw [← q1.1]) ?_
    have hvq1 := q1.2
    refine sw_aload_n O (xx_dt dd_X7_offer 3 rfl) rfl ?_
    refine sw_get (v := .ref 1001) O (xx_dt dd_X7_offer 4 rfl) cl_X7 fl_X7_12 (ly_1000 σ h) (by decide) rfl ?_
    refine sw_iload_n O (xx_dt dd_X7_offer 5 rfl) rfl ?_
    refine sw_callVx (as := [.int y]) (st := []) (st2 := [.int (f_isCode σ y R)]) O (ct_X6_isCode hl (σ := σ) (c := y) (R := R) hR (by omega)) ce_X6_isCode ml_X7_168 iv_X6_isCode cl_X6 rfl (ly_1001 σ h) (xx_dt dd_X7_offer 6 rfl) (by first | decide | omega) rfl rfl (Nat.le_of_ble_eq_true rfl) rfl ?_
    refine sw_if_eq (tgt := 20) O (xx_dt dd_X7_offer 7 rfl) (by decide) (fun q2 => ?_) (fun q2 => ?_)
    · exact sw_throw (k := 0) (n := 0) O ex_IAE th_X7_offer_20 (xx_dt dd_X7_offer 10 rfl) (xx_dt dd_X7_offer 11 rfl) (xx_dt dd_X7_offer 12 rfl) (xx_dt dd_X7_offer 13 rfl) (xx_dt dd_X7_offer 14 rfl) (by decide) (by decide) (by rw [hQ]; exact ⟨by unfold o_offer; simp only [if_pos q1, if_pos q2]; rfl, by unfold g_offer; simp only [if_pos q1, if_pos q2]⟩)
    · refine sw_iload_n O (xx_dt dd_X7_offer 8 rfl) rfl ?_
      refine sw_if_ge (tgt := 30) O (xx_dt dd_X7_offer 9 rfl) (by decide) (fun q3 => ?_) (fun q3 => ?_)
      · refine sw_aload_n O (xx_dt dd_X7_offer 15 rfl) rfl ?_
        refine sw_iconst (x := 2) O (xx_dt dd_X7_offer 16 rfl) (by decide) ?_
        by_cases q4 : σ 1000 7 = 2
        · refine sw_callVx (as := [.int 2]) (st := []) (st2 := []) (k' := 0) (n' := 0) O (ct_X7_needStage_ok hl (σ := σ) q4) ce_X7_needStage ml_X7_65 iv_X7_needStage cl_X7 rfl (ly_1000 σ h) (xx_dt dd_X7_offer 17 rfl) (by decide) rfl rfl (Nat.le_of_ble_eq_true rfl) rfl ?_
          refine sw_aload_n O (xx_dt dd_X7_offer 18 rfl) rfl ?_
          refine sw_get (v := .ref 1003) O (xx_dt dd_X7_offer 19 rfl) cl_X7 fl_X7_29 (ly_1000 σ h) (by decide) rfl ?_
          refine sw_get (v := .ref 1020) O (xx_dt dd_X7_offer 20 rfl) cl_X2 fl_X7_173 (ly_1003 σ h) (by decide) rfl ?_
          refine sw_iload_n O (xx_dt dd_X7_offer 21 rfl) rfl ?_
          have hz43 := (hct (cn x) (by omega)).2
          refine sw_iaload (v := .int (nI (cnt (cn x)))) O (xx_dt dd_X7_offer 22 rfl) (ly_1020 σ h) (pk_in (cn x) _ (by omega)) (by rw [nI_clamp (by omega)]; exact (congrArg Value.int (hct (cn x) (by omega)).1)) ?_
          refine sw_bipush (x := 6) O (xx_dt dd_X7_offer 23 rfl) (by decide) ?_
          refine sw_icmp_ge (tgt := 62) O (xx_dt dd_X7_offer 24 rfl) (by decide) (fun q5 => ?_) (fun q5 => ?_)
          · exact sw_throw (k := 0) (n := 0) O ex_ISE th_X7_offer_62 (xx_dt dd_X7_offer 32 rfl) (xx_dt dd_X7_offer 33 rfl) (xx_dt dd_X7_offer 34 rfl) (xx_dt dd_X7_offer 35 rfl) (xx_dt dd_X7_offer 36 rfl) (by decide) (by decide) (by rw [hQ]; exact ⟨by unfold o_offer; simp only [if_pos q1, if_neg q2, if_pos q3, if_pos q4, if_pos q5]; rfl, by unfold g_offer; simp only [if_pos q1, if_neg q2, if_pos q3, if_pos q4, if_pos q5]⟩)
          · refine sw_aload_n O (xx_dt dd_X7_offer 25 rfl) rfl ?_
            refine sw_get (v := .ref 1001) O (xx_dt dd_X7_offer 26 rfl) cl_X7 fl_X7_12 (ly_1000 σ h) (by decide) rfl ?_
            refine sw_iload_n O (xx_dt dd_X7_offer 27 rfl) rfl ?_
            refine sw_iload_n O (xx_dt dd_X7_offer 28 rfl) rfl ?_
            refine sw_iload_n O (xx_dt dd_X7_offer 29 rfl) rfl ?_
            refine sw_callVx (as := [.int (nI (cn x)), .int y, .int z]) (st := []) (st2 := [.int (f_mayOffer σ (cn x) y z R)]) O (ct_X6_mayOffer hl (σ := σ) (c := y) (x := z) (i := cn x) (by omega) (R := R) hR (by omega)) ce_X6_mayOffer ml_X7_176 iv_X6_mayOffer cl_X6 rfl (ly_1001 σ h) (xx_dt dd_X7_offer 30 rfl) (by first | decide | omega) rfl rfl (Nat.le_of_ble_eq_true rfl) rfl ?_
            refine sw_if_ne (tgt := 72) O (xx_dt dd_X7_offer 31 rfl) (by decide) (fun q6 => ?_) (fun q6 => ?_)
            · refine sw_aload_n O (xx_dt dd_X7_offer 37 rfl) rfl ?_
              refine sw_get (v := .ref 1003) O (xx_dt dd_X7_offer 38 rfl) cl_X7 fl_X7_29 (ly_1000 σ h) (by decide) rfl ?_
              refine sw_get (v := .ref 1020) O (xx_dt dd_X7_offer 39 rfl) cl_X2 fl_X7_173 (ly_1003 σ h) (by decide) rfl ?_
              refine sw_iload_n O (xx_dt dd_X7_offer 40 rfl) rfl ?_
              have hz80 := (hct (cn x) (by omega)).2
              refine sw_iaload (v := .int (nI (cnt (cn x)))) O (xx_dt dd_X7_offer 41 rfl) (ly_1020 σ h) (pk_in (cn x) _ (by omega)) (by rw [nI_clamp (by omega)]; exact (congrArg Value.int (hct (cn x) (by omega)).1)) ?_
              refine sw_istore (ls2 := [.ref 1000, .int (nI (cn x)), .int y, .int z, .int (nI (cnt (cn x)))]) O (xx_dt dd_X7_offer 42 rfl) (by decide) rfl ?_
              refine sw_aload_n O (xx_dt dd_X7_offer 43 rfl) rfl ?_
              refine sw_get (v := .ref 1003) O (xx_dt dd_X7_offer 44 rfl) cl_X7 fl_X7_29 (ly_1000 σ h) (by decide) rfl ?_
              refine sw_aload_n O (xx_dt dd_X7_offer 45 rfl) rfl ?_
              refine sw_get (v := .ref 1001) O (xx_dt dd_X7_offer 46 rfl) cl_X7 fl_X7_12 (ly_1000 σ h) (by decide) rfl ?_
              refine sw_iload_n O (xx_dt dd_X7_offer 47 rfl) rfl ?_
              refine sw_iload_n O (xx_dt dd_X7_offer 48 rfl) rfl ?_
              refine sw_iload_n O (xx_dt dd_X7_offer 49 rfl) rfl ?_
              refine sw_callVx (as := [.ref 1001, .int (nI (cn x)), .int y, .int z]) (st := []) (st2 := []) O (ct_X2_add hl (σ := σ) (R := R) hR (by omega) (B := B) hB (by omega) (gr := gr) hgr (cnt := cnt) hct (i := cn x) (x := y) (y := z) (by omega)) ce_X2_add ml_X7_182 iv_X2_add cl_X2 rfl (ly_1003 σ h) (xx_dt dd_X7_offer 50 rfl) (by first | decide | omega) rfl rfl (Nat.le_of_ble_eq_true rfl) rfl ?_
              refine sw_aload_n O (xx_dt dd_X7_offer 51 rfl) rfl ?_
              refine sw_get (v := .ref 1004) O (xx_dt dd_X7_offer 52 rfl) cl_X7 fl_X7_36 (ly_1000 (g_addM σ (cn x) y z R B gr cnt) h) (by decide) rfl ?_
              refine sw_aload_n O (xx_dt dd_X7_offer 53 rfl) rfl ?_
              refine sw_get (v := .ref 1003) O (xx_dt dd_X7_offer 54 rfl) cl_X7 fl_X7_29 (ly_1000 (g_addM σ (cn x) y z R B gr cnt) h) (by decide) rfl ?_
              refine sw_callVx (as := [.ref 1003]) (st := []) (st2 := []) O (ct_X4_find hl (σ := g_addM σ (cn x) y z R B gr cnt)) ce_X4_find ml_X7_186 iv_X4_find cl_X4 rfl (ly_1004 (g_addM σ (cn x) y z R B gr cnt) h) (xx_dt dd_X7_offer 55 rfl) (by first | decide | omega) rfl rfl (Nat.le_of_ble_eq_true rfl) rfl ?_
              refine sw_iload O (xx_dt dd_X7_offer 56 rfl) rfl ?_
              exact sw_iret O (xx_dt dd_X7_offer 57 rfl) rfl rfl (by rw [hQ]; exact ⟨by unfold o_offer; simp only [if_pos q1, if_neg q2, if_pos q3, if_pos q4, if_neg q5, if_neg q6]; rfl, by unfold g_offer; simp only [if_pos q1, if_neg q2, if_pos q3, if_pos q4, if_neg q5, if_neg q6]⟩)
            · exact sw_throw (k := 0) (n := 0) O ex_ISE th_X7_offer_62 (xx_dt dd_X7_offer 32 rfl) (xx_dt dd_X7_offer 33 rfl) (xx_dt dd_X7_offer 34 rfl) (xx_dt dd_X7_offer 35 rfl) (xx_dt dd_X7_offer 36 rfl) (by decide) (by decide) (by rw [hQ]; exact ⟨by unfold o_offer; simp only [if_pos q1, if_neg q2, if_pos q3, if_pos q4, if_neg q5, if_pos q6]; rfl, by unfold g_offer; simp only [if_pos q1, if_neg q2, if_pos q3, if_pos q4, if_neg q5, if_pos q6]⟩)
        · exact sw_callVt (as := [.int 2]) (st := []) (k := 0) (n := 0) (k' := 1) (n' := 6) O (ct_X7_needStage_no hl (σ := σ) q4) ce_X7_needStage ml_X7_65 iv_X7_needStage cl_X7 rfl (ly_1000 σ h) (xx_dt dd_X7_offer 17 rfl) (by decide) rfl rfl (Nat.le_of_ble_eq_true rfl)  (by rw [hQ]; exact ⟨by unfold o_offer; simp only [if_pos q1, if_neg q2, if_pos q3, if_neg q4]; rfl, by unfold g_offer; simp only [if_pos q1, if_neg q2, if_pos q3, if_neg q4]⟩)
      · exact sw_throw (k := 0) (n := 0) O ex_IAE th_X7_offer_20 (xx_dt dd_X7_offer 10 rfl) (xx_dt dd_X7_offer 11 rfl) (xx_dt dd_X7_offer 12 rfl) (xx_dt dd_X7_offer 13 rfl) (xx_dt dd_X7_offer 14 rfl) (by decide) (by decide) (by rw [hQ]; exact ⟨by unfold o_offer; simp only [if_pos q1, if_neg q2, if_neg q3]; rfl, by unfold g_offer; simp only [if_pos q1, if_neg q2, if_neg q3]⟩)
  · exact sw_callVt (as := [.int x]) (st := []) (k := 0) (n := 0) (k' := 1) (n' := 6) O (ct_X7_needBidder_no hl (σ := σ) (B := B) hB (by omega) q1) ce_X7_needBidder ml_X7_124 iv_X7_needBidder cl_X7 rfl (ly_1000 σ h) (xx_dt dd_X7_offer 2 rfl) (by decide) rfl rfl (Nat.le_of_ble_eq_true rfl)  (by rw [hQ]; exact ⟨by unfold o_offer; simp only [if_neg q1]; rfl, by unfold g_offer; simp only [if_neg q1]⟩)
end
section
/-! ===== names are given ===== -/
theorem min_nat {a b : Nat} (ha : a < 2147483648) (hb : b < 2147483648) : (if nI b < nI a then nI b else nI a) = nI (min a b) := by
  by_cases h : b < a
  · rw [if_pos ((nI_ltI hb ha).mpr h)]
    congr 1
    omega
  · rw [if_neg (fun e => h ((nI_ltI hb ha).mp e))]
    congr 1
    omega
theorem many_nat {c : Int32} (r : Nat) (h0 : 0 ≤ c) : f_many c r = nI (cn (f_many c r)) ∧ cn (f_many c r) ≤ 5 := by
  have h1 : ∃ k, k < 2147483648 ∧ x_many_4 c r c = nI k := by
    unfold x_many_4
    refine xit_inv (fun s : Int32 => ∃ k, k < 2147483648 ∧ s = nI k) (N := r) (fun i s hi hP => ?_) r 0 c (by omega) ?_
    · obtain ⟨k, hk, rfl⟩ := hP
      exact ⟨k / 6, by omega, nI_div (k := 6) hk (by decide) (by decide)⟩
    · obtain ⟨h3, h4⟩ := cn_of h0
      exact ⟨cn c, by have := Int32.toInt_lt c; omega, h3⟩
  obtain ⟨k, hk, e⟩ := h1
  have h2 : f_many c r = nI (k % 6) := by
    unfold f_many
    rw [e]
    exact nI_rem (k := 6) hk (by decide) (by decide)
  have h3 : k % 6 < 6 := Nat.mod_lt _ (by decide)
  rw [h2, cn_nI (by omega)]
  exact ⟨rfl, by omega⟩
def XCD (σ : XS9) : Prop := ∀ i k, i < 6 → k < 6 → 0 ≤ σ (1022 + i) k
theorem XCD.of {σ σ' : XS9} (h : XCD σ) (e : ∀ i9, i9 < 6 → σ' (1022 + i9) = σ (1022 + i9)) : XCD σ' := fun i k hi hk => by rw [e i hi]; exact h i k hi hk
def cbw (σ : XS9) (i r : Nat) : Nat := cn (f_blocksWon σ i r)
theorem cbw_ok {σ : XS9} {i r : Nat} (h : XCD σ) (hi : i < 6) : f_blocksWon σ i r = nI (cbw σ i r) ∧ cbw σ i r ≤ 5 := by
  unfold cbw f_blocksWon
  by_cases q1 : σ 1040 i < 0
  · rw [if_pos q1]; exact ⟨rfl, by decide⟩
  · rw [if_neg q1]
    by_cases q2 : 6 ≤ σ 1040 i
    · rw [if_pos q2]; exact ⟨rfl, by decide⟩
    · rw [if_neg q2]
      have h6 := (n_lt_iff (x := σ 1040 i) (R := 6) (by omega)).mpr ⟨q1, Int32.not_le.mp q2⟩
      exact many_nat r (h i _ hi h6.2)
theorem ct_X2_blocksWonN {l : Launch} {h : XH} (hl : l.stackTraces = false) {σ : XS9} {i r : Nat} (hcd : XCD σ) (hi : i < 6) (hr : r < 5) : XEx l m_X2_blocksWon 1 0 0 [.ref 1003, .int (nI i), .int (nI r)] (setC σ h) (some (.int (nI (cbw σ i r)))) (setC σ h) := by
  rw [← (cbw_ok hcd hi).1]
  exact ct_X2_blocksWon hl hi hr
theorem nI_rem6 {m : Nat} (hm : m < 2147483648) : nI m - nI m / 6 * 6 = nI (m % 6) := nI_rem (k := 6) hm (by decide) (by decide)
def x_giveByTurn_62 (σ : XS9) (r t : Nat) (sp : Nat → Nat) (i20 : Nat) (s20 : XS9 × Nat) (s0 : XS9) : XS9 := xit (fun i62 s62 => u2 s62 (1141 + r) (s20.2 + i62) (nI ((t + i20) % 6))) (min (s20.2 + cbw s20.1 ((t + i20) % 6) r) (sp r) - s20.2) 0 s0
def x_giveByTurn_20 (σ : XS9) (r t : Nat) (sp : Nat → Nat) (s0 : XS9 × Nat) : XS9 × Nat := xit (fun i20 s20 => ((x_giveByTurn_62 σ r t sp i20 s20 s20.1), min (s20.2 + cbw s20.1 ((t + i20) % 6) r) (sp r))) 6 0 s0
theorem fx_giveByTurn_62 {σ : XS9} {r t : Nat} {sp : Nat → Nat} {i20 : Nat} {s20 : XS9 × Nat} {s0 : XS9} {q : Nat} (h : q ≠ 1141 + r) : x_giveByTurn_62 σ r t sp i20 s20 s0 q = s0 q := xit_keep (fun s : XS9 => s q) (fun i s => by (try dsimp only); (repeat' split) <;> first | rfl | simp (disch := omega) only [u2_ne, uR_ne, fr_fill, fr_useWaiver, fr_undoContradictions, fr_lowerEligible, fr_moveHeld, fr_raisePrices, fr_begin, fr_closeRound, fr_moveTaken, fr_findDisturbed, fr_addRegion, fr_addBidder, fr_take, fr_giveBack, fr_keepIfBetter, fr_findWinners, fr_leaveOut, fr_raiseEach, fr_raiseOutside, fr_find]) _ _ _
def g_giveByTurn (σ : XS9) (r t : Nat) (sp : Nat → Nat) : XS9 := (x_giveByTurn_20 σ r t sp (g_fill σ (1141 + r) 5 (-1), 0)).1
theorem ct_X3_giveByTurn {l : Launch} {h : XH} (hl : l.stackTraces = false) {σ : XS9} {sp : Nat → Nat} (hsp : ∀ r, r < 5 → σ 1010 r = nI (sp r) ∧ sp r ≤ 5) (hcd : XCD σ) {r t : Nat} (hr : r < 5) (ht : t < 6) : XEx l m_X3_giveByTurn 2 0 0 [.ref 1005, .ref 1001, .ref 1003, .int (nI r), .int (nI t)] (setC σ h) (none) (setC (g_giveByTurn σ r t sp) h) := by
  refine XMet.of hl rfl rfl (Nat.le_of_ble_eq_true rfl) (fun Y O hh hQ => ?_)
  show SW Y 0 0 (setC σ h) 0 [.ref 1005, .ref 1001, .ref 1003, .int (nI r), .int (nI t), xx_d, xx_d, xx_d, xx_d, xx_d, xx_d] []
  refine sw_aload_n O (xx_dt dd_X3_giveByTurn 0 rfl) rfl ?_
  refine sw_get (v := .ref 1140) O (xx_dt dd_X3_giveByTurn 1 rfl) cl_X3 fl_X3_11 (ly_1005 σ h) (by decide) rfl ?_
  refine sw_iload_n O (xx_dt dd_X3_giveByTurn 2 rfl) rfl ?_
  refine sw_aaload (v := .ref (1141 + r)) O (xx_dt dd_X3_giveByTurn 3 rfl) (by omega) (by omega) (ly_1140 σ h) (pk_in r _ (by omega)) (by rw [nI_clamp (by omega)]; try exact rfl) ?_
  refine sw_astore (ls2 := [.ref 1005, .ref 1001, .ref 1003, .int (nI r), .int (nI t), .ref (1141 + r), xx_d, xx_d, xx_d, xx_d, xx_d]) O (xx_dt dd_X3_giveByTurn 4 rfl) (by decide) rfl ?_
  refine sw_aload O (xx_dt dd_X3_giveByTurn 5 rfl) rfl ?_
  refine sw_iconst (x := (-1)) O (xx_dt dd_X3_giveByTurn 6 rfl) (by decide) ?_
  refine sw_callSx (as := [.ref (1141 + r), .int (-1)]) (st := []) (st2 := []) O (ct_J7_fill_53178 hl (ir_1140 (k := r) (by omega)) (by omega)) ce_J7_fill_53178 ml_X3_16 st_J7_fill_53178 (xx_dt dd_X3_giveByTurn 7 rfl) (by first | decide | omega) rfl rfl (Nat.le_of_ble_eq_true rfl) rfl ?_
  refine sw_iconst (x := 0) O (xx_dt dd_X3_giveByTurn 8 rfl) (by decide) ?_
  refine sw_istore (ls2 := [.ref 1005, .ref 1001, .ref 1003, .int (nI r), .int (nI t), .ref (1141 + r), .int 0, xx_d, xx_d, xx_d, xx_d]) O (xx_dt dd_X3_giveByTurn 9 rfl) (by decide) rfl ?_
  refine sw_iconst (x := 0) O (xx_dt dd_X3_giveByTurn 10 rfl) (by decide) ?_
  refine sw_istore (ls2 := [.ref 1005, .ref 1001, .ref 1003, .int (nI r), .int (nI t), .ref (1141 + r), .int 0, .int 0, xx_d, xx_d, xx_d]) O (xx_dt dd_X3_giveByTurn 11 rfl) (by decide) rfl ?_
  refine sw_for (fun i20 s20 => ((x_giveByTurn_62 σ r t sp i20 s20 s20.1), min (s20.2 + cbw s20.1 ((t + i20) % 6) r) (sp r))) (fun _ s20 => s20.1 1010 = σ 1010 ∧ XCD s20.1 ∧ s20.2 ≤ 5) (hp := fun s20 => setC s20.1 h) (hd := 20) (lc := fun i20 s20 => [.ref 1005, .ref 1001, .ref 1003, .int (nI r), .int (nI t), .ref (1141 + r), .int (nI (s20.2)), .int (nI i20), xx_d, xx_d, xx_d]) (N := 6) (fun i20 s20 hi20 hP20 => ⟨(by (try dsimp only); (repeat' split) <;> (refine ⟨?_, ?_, ?_⟩ <;> (first | with_reducible exact hP20.1 | with_reducible exact hP20.2.1 | with_reducible exact hP20.2.2 | with_reducible exact hP20.2.1.of (fun i9 hi9 => fx_giveByTurn_62 (by omega)) | with_reducible exact Nat.le_trans (Nat.min_le_right _ _) (hsp r hr).2 | with_reducible exact (fx_giveByTurn_62 (by omega)).trans hP20.1 | exact hi20 | exact .inl rfl | exact .inr rfl | (simp (disch := omega) only [u2_ne, uR_ne, fr_fill, fr_useWaiver, fr_undoContradictions, fr_lowerEligible, fr_moveHeld, fr_raisePrices, fr_begin, fr_closeRound, fr_moveTaken, fr_findDisturbed, fr_addRegion, fr_addBidder, fr_take, fr_giveBack, fr_keepIfBetter, fr_findWinners, fr_leaveOut, fr_raiseEach, fr_raiseOutside, fr_find]; first | with_reducible exact hP20.1 | with_reducible exact hP20.2.1 | with_reducible exact hP20.2.2 | with_reducible exact hP20.2.1.of (fun i9 hi9 => fx_giveByTurn_62 (by omega)) | with_reducible exact Nat.le_trans (Nat.min_le_right _ _) (hsp r hr).2 | with_reducible exact (fx_giveByTurn_62 (by omega)).trans hP20.1)))), fun kk20 => ?_⟩) 6 0 (g_fill σ (1141 + r) 5 (-1), 0) (by omega) (⟨(fr_fill (by omega)), (hcd.of (fun i9 hi9 => fr_fill (by omega))), (by show (0 : Nat) ≤ 5; decide)⟩) (fun hP20 => ?_)
  · refine sw_iload O (xx_dt dd_X3_giveByTurn 12 rfl) rfl ?_
    refine sw_bipush (x := 6) O (xx_dt dd_X3_giveByTurn 13 rfl) (by decide) ?_
    refine sw_icmp_ge (tgt := 92) O (xx_dt dd_X3_giveByTurn 14 rfl) (by decide) (fun q1 => ?_) (fun q1 => ?_)
    · exact absurd q1 (nI_ge (b := 6) hi20 (by omega))
    · refine sw_iload O (xx_dt dd_X3_giveByTurn 15 rfl) rfl ?_
      refine sw_iload O (xx_dt dd_X3_giveByTurn 16 rfl) rfl ?_
      refine sw_iadd O (xx_dt dd_X3_giveByTurn 17 rfl) ?_
      have hx31 := True.intro
      rw [nI_plus t i20]
      refine sw_bipush (x := 6) O (xx_dt dd_X3_giveByTurn 18 rfl) (by decide) ?_
      refine sw_irem O (xx_dt dd_X3_giveByTurn 19 rfl) (by first | decide | assumption) ?_
      have hx34 := Nat.mod_lt (t + i20) (show 0 < 6 by decide)
      rw [nI_rem6 (m := t + i20) (by omega)]
      refine sw_istore (ls2 := [.ref 1005, .ref 1001, .ref 1003, .int (nI r), .int (nI t), .ref (1141 + r), .int (nI (s20.2)), .int (nI i20), .int (nI ((t + i20) % 6)), xx_d, xx_d]) O (xx_dt dd_X3_giveByTurn 20 rfl) (by decide) rfl ?_
      refine sw_iload O (xx_dt dd_X3_giveByTurn 21 rfl) rfl ?_
      refine sw_aload_n O (xx_dt dd_X3_giveByTurn 22 rfl) rfl ?_
      refine sw_iload O (xx_dt dd_X3_giveByTurn 23 rfl) rfl ?_
      refine sw_iload_n O (xx_dt dd_X3_giveByTurn 24 rfl) rfl ?_
      refine sw_callVx (as := [.int (nI ((t + i20) % 6)), .int (nI r)]) (st := [.int (nI (s20.2))]) (st2 := [.int (nI (cbw s20.1 ((t + i20) % 6) r)), .int (nI (s20.2))]) O (ct_X2_blocksWonN hl (σ := s20.1) hP20.2.1 (i := (t + i20) % 6) (r := r) (by omega) (by omega)) ce_X2_blocksWon ml_X3_39 iv_X2_blocksWon cl_X2 rfl (ly_1003 s20.1 h) (xx_dt dd_X3_giveByTurn 25 rfl) (by first | decide | omega) rfl rfl (Nat.le_of_ble_eq_true rfl) rfl ?_
      have hbw := (cbw_ok (r := r) hP20.2.1 (show (t + i20) % 6 < 6 by omega)).2
      refine sw_iadd O (xx_dt dd_X3_giveByTurn 26 rfl) ?_
      have hx46 := True.intro
      rw [nI_plus s20.2 (cbw s20.1 ((t + i20) % 6) r)]
      refine sw_aload_n O (xx_dt dd_X3_giveByTurn 27 rfl) rfl ?_
      refine sw_get (v := .ref 1010) O (xx_dt dd_X3_giveByTurn 28 rfl) cl_X6 fl_X3_45 (ly_1001 s20.1 h) (by decide) rfl ?_
      refine sw_iload_n O (xx_dt dd_X3_giveByTurn 29 rfl) rfl ?_
      have hz52 := (hsp r (by omega)).2
      refine sw_iaload (v := .int (nI (sp r))) O (xx_dt dd_X3_giveByTurn 30 rfl) (ly_1010 s20.1 h) (pk_in r _ (by omega)) (by rw [nI_clamp (by omega)]; exact (congrArg Value.int ((congrFun hP20.1 r).trans (hsp r (by omega)).1))) ?_
      refine sw_min O mm_X3_49 (xx_dt dd_X3_giveByTurn 31 rfl) (by omega) (Nat.le_of_ble_eq_true rfl) ?_
      rw [min_nat (a := s20.2 + cbw s20.1 ((t + i20) % 6) r) (b := sp r) (by omega) (by omega)]
      refine sw_istore (ls2 := [.ref 1005, .ref 1001, .ref 1003, .int (nI r), .int (nI t), .ref (1141 + r), .int (nI (s20.2)), .int (nI i20), .int (nI ((t + i20) % 6)), .int (nI (min (s20.2 + cbw s20.1 ((t + i20) % 6) r) (sp r))), xx_d]) O (xx_dt dd_X3_giveByTurn 32 rfl) (by decide) rfl ?_
      refine sw_iload O (xx_dt dd_X3_giveByTurn 33 rfl) rfl ?_
      refine sw_istore (ls2 := [.ref 1005, .ref 1001, .ref 1003, .int (nI r), .int (nI t), .ref (1141 + r), .int (nI (s20.2)), .int (nI i20), .int (nI ((t + i20) % 6)), .int (nI (min (s20.2 + cbw s20.1 ((t + i20) % 6) r) (sp r))), .int (nI (s20.2))]) O (xx_dt dd_X3_giveByTurn 34 rfl) (by decide) rfl ?_
      refine sw_for (fun i62 s62 => u2 s62 (1141 + r) (s20.2 + i62) (nI ((t + i20) % 6))) (fun _ _ => True) (hp := fun s62 => setC s62 h) (hd := 62) (lc := fun i62 s62 => [.ref 1005, .ref 1001, .ref 1003, .int (nI r), .int (nI t), .ref (1141 + r), .int (nI (s20.2)), .int (nI i20), .int (nI ((t + i20) % 6)), .int (nI (min (s20.2 + cbw s20.1 ((t + i20) % 6) r) (sp r))), .int (nI (s20.2 + i62))]) (N := (min (s20.2 + cbw s20.1 ((t + i20) % 6) r) (sp r) - s20.2)) (fun i62 s62 hi62 hP62 => ⟨trivial, fun kk62 => ?_⟩) (min (s20.2 + cbw s20.1 ((t + i20) % 6) r) (sp r) - s20.2) 0 s20.1 (by omega) (trivial) (fun hP62 => ?_)
      · refine sw_iload O (xx_dt dd_X3_giveByTurn 35 rfl) rfl ?_
        refine sw_iload O (xx_dt dd_X3_giveByTurn 36 rfl) rfl ?_
        refine sw_icmp_ge (tgt := 82) O (xx_dt dd_X3_giveByTurn 37 rfl) (by decide) (fun q2 => ?_) (fun q2 => ?_)
        · exact absurd q2 (nI_ge (a := s20.2 + i62) (b := (min (s20.2 + cbw s20.1 ((t + i20) % 6) r) (sp r))) (by omega) (by omega))
        · refine sw_aload O (xx_dt dd_X3_giveByTurn 38 rfl) rfl ?_
          refine sw_iload O (xx_dt dd_X3_giveByTurn 39 rfl) rfl ?_
          refine sw_iload O (xx_dt dd_X3_giveByTurn 40 rfl) rfl ?_
          refine sw_iastore (h2 := setC (u2 s62 (1141 + r) (s20.2 + i62) (nI ((t + i20) % 6))) h) O (xx_dt dd_X3_giveByTurn 41 rfl) (lr_1140 s62 h (k := r) (by omega)) (pk_in (s20.2 + i62) _ (by omega)) (by omega) (by rw [nI_clamp (by omega)]; exact (pr_1140 (by omega))) ?_
          refine sw_iinc (y := nI (s20.2 + i62 + 1)) (ls2 := [.ref 1005, .ref 1001, .ref 1003, .int (nI r), .int (nI t), .ref (1141 + r), .int (nI (s20.2)), .int (nI i20), .int (nI ((t + i20) % 6)), .int (nI (min (s20.2 + cbw s20.1 ((t + i20) % 6) r) (sp r))), .int (nI (s20.2 + i62 + 1))]) O (xx_dt dd_X3_giveByTurn 42 rfl) rfl (nI_1 _) (by decide) rfl ?_
          refine sw_goto (tgt := 62) O (xx_dt dd_X3_giveByTurn 43 rfl) (by decide) ?_
          exact kk62
      · show SW Y _ _ (setC (x_giveByTurn_62 σ r t sp i20 s20 s20.1) h) 62 [.ref 1005, .ref 1001, .ref 1003, .int (nI r), .int (nI t), .ref (1141 + r), .int (nI (s20.2)), .int (nI i20), .int (nI ((t + i20) % 6)), .int (nI (min (s20.2 + cbw s20.1 ((t + i20) % 6) r) (sp r))), .int (nI (s20.2 + (min (s20.2 + cbw s20.1 ((t + i20) % 6) r) (sp r) - s20.2)))] []
        refine sw_iload O (xx_dt dd_X3_giveByTurn 35 rfl) rfl ?_
        refine sw_iload O (xx_dt dd_X3_giveByTurn 36 rfl) rfl ?_
        refine sw_icmp_ge (tgt := 82) O (xx_dt dd_X3_giveByTurn 37 rfl) (by decide) (fun q2 => ?_) (fun q2 => ?_)
        · refine sw_iload O (xx_dt dd_X3_giveByTurn 44 rfl) rfl ?_
          refine sw_istore (ls2 := [.ref 1005, .ref 1001, .ref 1003, .int (nI r), .int (nI t), .ref (1141 + r), .int (nI (min (s20.2 + cbw s20.1 ((t + i20) % 6) r) (sp r))), .int (nI i20), .int (nI ((t + i20) % 6)), .int (nI (min (s20.2 + cbw s20.1 ((t + i20) % 6) r) (sp r))), .int (nI (s20.2 + (min (s20.2 + cbw s20.1 ((t + i20) % 6) r) (sp r) - s20.2)))]) O (xx_dt dd_X3_giveByTurn 45 rfl) (by decide) rfl ?_
          refine sw_iinc (y := nI (i20 + 1)) (ls2 := [.ref 1005, .ref 1001, .ref 1003, .int (nI r), .int (nI t), .ref (1141 + r), .int (nI (min (s20.2 + cbw s20.1 ((t + i20) % 6) r) (sp r))), .int (nI (i20 + 1)), .int (nI ((t + i20) % 6)), .int (nI (min (s20.2 + cbw s20.1 ((t + i20) % 6) r) (sp r))), .int (nI (s20.2 + (min (s20.2 + cbw s20.1 ((t + i20) % 6) r) (sp r) - s20.2)))]) O (xx_dt dd_X3_giveByTurn 46 rfl) rfl (nI_1 _) (by decide) rfl ?_
          refine sw_goto (tgt := 20) O (xx_dt dd_X3_giveByTurn 47 rfl) (by decide) ?_
          refine sw_dum (ls2 := [.ref 1005, .ref 1001, .ref 1003, .int (nI r), .int (nI t), .ref (1141 + r), .int (nI (min (s20.2 + cbw s20.1 ((t + i20) % 6) r) (sp r))), .int (nI (i20 + 1)), xx_d, xx_d, xx_d]) ⟨.inr rfl, .inr rfl, .inr rfl, .inr rfl, .inr rfl, .inr rfl, .inr rfl, .inr rfl, .inl rfl, .inl rfl, .inl rfl, trivial⟩ ?_
          exact kk20
        · exact absurd ((nI_leI (a := (min (s20.2 + cbw s20.1 ((t + i20) % 6) r) (sp r))) (b := s20.2 + (min (s20.2 + cbw s20.1 ((t + i20) % 6) r) (sp r) - s20.2)) (by omega) (by omega)).mpr (by omega)) q2
  · show SW Y _ _ (setC ((x_giveByTurn_20 σ r t sp (g_fill σ (1141 + r) 5 (-1), 0)).1) h) 20 [.ref 1005, .ref 1001, .ref 1003, .int (nI r), .int (nI t), .ref (1141 + r), .int (nI ((x_giveByTurn_20 σ r t sp (g_fill σ (1141 + r) 5 (-1), 0)).2)), .int (nI 6), xx_d, xx_d, xx_d] []
    have hP20 : ((x_giveByTurn_20 σ r t sp (g_fill σ (1141 + r) 5 (-1), 0)).1) 1010 = σ 1010 ∧ XCD (x_giveByTurn_20 σ r t sp (g_fill σ (1141 + r) 5 (-1), 0)).1 ∧ (x_giveByTurn_20 σ r t sp (g_fill σ (1141 + r) 5 (-1), 0)).2 ≤ 5 := hP20
    refine sw_iload O (xx_dt dd_X3_giveByTurn 12 rfl) rfl ?_
    refine sw_bipush (x := 6) O (xx_dt dd_X3_giveByTurn 13 rfl) (by decide) ?_
    refine sw_icmp_ge (tgt := 92) O (xx_dt dd_X3_giveByTurn 14 rfl) (by decide) (fun q1 => ?_) (fun q1 => ?_)
    · exact sw_ret O (xx_dt dd_X3_giveByTurn 48 rfl) rfl (by rw [hQ]; exact ⟨rfl, by unfold g_giveByTurn; rfl⟩)
    · exact absurd (Int32.le_refl _) q1
theorem fr_giveByTurn {σ : XS9} {r t : Nat} {sp : Nat → Nat} {q : Nat} (h : q ≠ 1141 + r) : g_giveByTurn σ r t sp q = σ q := by
  have H0 : ∀ s0, (x_giveByTurn_20 σ r t sp s0).1 q = s0.1 q := fun s0 => xit_keep (fun s : XS9 × Nat => s.1 q) (fun i s => fx_giveByTurn_62 (σ := σ) h) _ _ _
  unfold g_giveByTurn
  exact (H0 _).trans (fr_fill h)
def x_give_25 (σ : XS9) (R : Nat) (sp : Nat → Nat) (i7 : Nat) (s0 : XS9 × Nat × Int32) : XS9 × Nat × Int32 := xit (fun i25 s25 => (if s25.2.2 ≤ (f_clashesOf (g_giveByTurn s25.1 i7 i25 sp) i7) then (g_giveByTurn s25.1 i7 i25 sp, s25.2.1, s25.2.2) else (g_giveByTurn s25.1 i7 i25 sp, i25, f_clashesOf (g_giveByTurn s25.1 i7 i25 sp) i7))) 6 0 s0
def x_give_7 (σ : XS9) (R : Nat) (sp : Nat → Nat) (s0 : XS9) : XS9 := xit (fun i7 s7 => u2 (g_giveByTurn ((x_give_25 σ R sp i7 (s7, 0, 25)).1) i7 ((x_give_25 σ R sp i7 (s7, 0, 25)).2.1) sp) 1005 1 ((((x_give_25 σ R sp i7 (s7, 0, 25)).1) 1005 1) + ((x_give_25 σ R sp i7 (s7, 0, 25)).2.2))) R 0 s0
theorem fx_give_25 {σ : XS9} {R : Nat} {sp : Nat → Nat} {i7 : Nat} {s0 : XS9 × Nat × Int32} {q : Nat} (h : q ≠ 1141 + i7) : (x_give_25 σ R sp i7 s0).1 q = s0.1 q := xit_keep (fun s : XS9 × Nat × Int32 => s.1 q) (fun i s => by (try dsimp only); split <;> (try dsimp only) <;> exact fr_giveByTurn h) _ _ _
def g_give (σ : XS9) (R : Nat) (sp : Nat → Nat) : XS9 := (x_give_7 σ R sp (u2 σ 1005 1 0))
theorem ct_X3_give {l : Launch} {h : XH} (hl : l.stackTraces = false) {σ : XS9} {R : Nat} (hR : σ 1001 4 = nI R) (hR5 : R ≤ 5) {sp : Nat → Nat} (hsp : ∀ r, r < 5 → σ 1010 r = nI (sp r) ∧ sp r ≤ 5) (hcd : XCD σ) : XEx l m_X3_give 3 0 0 [.ref 1005, .ref 1001, .ref 1003] (setC σ h) (none) (setC (g_give σ R sp) h) := by
  refine XMet.of hl rfl rfl (Nat.le_of_ble_eq_true rfl) (fun Y O hh hQ => ?_)
  show SW Y 0 0 (setC σ h) 0 [.ref 1005, .ref 1001, .ref 1003, xx_d, xx_d, xx_d, xx_d, xx_d] []
  refine sw_aload_n O (xx_dt dd_X3_give 0 rfl) rfl ?_
  refine sw_iconst (x := 0) O (xx_dt dd_X3_give 1 rfl) (by decide) ?_
  refine sw_put (h2 := setC (u2 σ 1005 1 0) h) O (xx_dt dd_X3_give 2 rfl) cl_X3 fl_X3_22 (ly_1005 σ h) (by decide) (by decide) rfl (fun _ => ⟨rfl, rfl⟩) pu_1005_1 ?_
  refine sw_iconst (x := 0) O (xx_dt dd_X3_give 3 rfl) (by decide) ?_
  refine sw_istore_n (ls2 := [.ref 1005, .ref 1001, .ref 1003, .int 0, xx_d, xx_d, xx_d, xx_d]) O (xx_dt dd_X3_give 4 rfl) (by decide) rfl ?_
  refine sw_for (fun i7 s7 => u2 (g_giveByTurn ((x_give_25 σ R sp i7 (s7, 0, 25)).1) i7 ((x_give_25 σ R sp i7 (s7, 0, 25)).2.1) sp) 1005 1 ((((x_give_25 σ R sp i7 (s7, 0, 25)).1) 1005 1) + ((x_give_25 σ R sp i7 (s7, 0, 25)).2.2))) (fun _ s7 => s7 1001 4 = nI R ∧ s7 1010 = σ 1010 ∧ XCD s7) (hp := fun s7 => setC s7 h) (hd := 7) (lc := fun i7 s7 => [.ref 1005, .ref 1001, .ref 1003, .int (nI i7), xx_d, xx_d, xx_d, xx_d]) (N := R) (fun i7 s7 hi7 hP7 => ⟨(by (try dsimp only); (repeat' split) <;> (refine ⟨?_, ?_, ?_⟩ <;> (first | with_reducible exact hP7.1 | with_reducible exact hP7.2.1 | with_reducible exact hP7.2.2 | with_reducible exact hP7.2.2.of (fun i9 hi9 => (u2_ne (by omega)).trans ((fr_giveByTurn (by omega)).trans (fx_give_25 (by omega)))) | with_reducible exact (u2_ne (by omega)).trans ((fr_giveByTurn (by omega)).trans ((fx_give_25 (by omega)).trans hP7.2.1)) | with_reducible exact (congrFun ((u2_ne (by omega)).trans ((fr_giveByTurn (by omega)).trans (fx_give_25 (by omega)))) 4).trans hP7.1 | exact hi7 | exact .inl rfl | exact .inr rfl | (simp (disch := omega) only [u2_ne, uR_ne, fr_fill, fr_useWaiver, fr_undoContradictions, fr_lowerEligible, fr_moveHeld, fr_raisePrices, fr_begin, fr_closeRound, fr_moveTaken, fr_findDisturbed, fr_addRegion, fr_addBidder, fr_take, fr_giveBack, fr_keepIfBetter, fr_findWinners, fr_leaveOut, fr_raiseEach, fr_raiseOutside, fr_find, fr_giveByTurn]; first | with_reducible exact hP7.1 | with_reducible exact hP7.2.1 | with_reducible exact hP7.2.2 | with_reducible exact hP7.2.2.of (fun i9 hi9 => (u2_ne (by omega)).trans ((fr_giveByTurn (by omega)).trans (fx_give_25 (by omega)))) | with_reducible exact (u2_ne (by omega)).trans ((fr_giveByTurn (by omega)).trans ((fx_give_25 (by omega)).trans hP7.2.1)) | with_reducible exact (congrFun ((u2_ne (by omega)).trans ((fr_giveByTurn (by omega)).trans (fx_give_25 (by omega)))) 4).trans hP7.1)))), fun kk7 => ?_⟩) R 0 (u2 σ 1005 1 0) (by omega) (⟨hR, rfl, (hcd.of (fun i9 hi9 => u2_ne (by omega)))⟩) (fun hP7 => ?_)
  · refine sw_iload_n O (xx_dt dd_X3_give 5 rfl) rfl ?_
    refine sw_aload_n O (xx_dt dd_X3_give 6 rfl) rfl ?_
    refine sw_get (v := .int (nI R)) O (xx_dt dd_X3_give 7 rfl) cl_X6 fl_X3_26 (ly_1001 s7 h) (by decide) (congrArg Value.int hP7.1) ?_
    refine sw_icmp_ge (tgt := 96) O (xx_dt dd_X3_give 8 rfl) (by decide) (fun q1 => ?_) (fun q1 => ?_)
    · exact absurd q1 (nI_ge (b := R) hi7 (by omega))
    · refine sw_iconst (x := 0) O (xx_dt dd_X3_give 9 rfl) (by decide) ?_
      refine sw_istore (ls2 := [.ref 1005, .ref 1001, .ref 1003, .int (nI i7), .int 0, xx_d, xx_d, xx_d]) O (xx_dt dd_X3_give 10 rfl) (by decide) rfl ?_
      refine sw_bipush (x := 25) O (xx_dt dd_X3_give 11 rfl) (by decide) ?_
      refine sw_istore (ls2 := [.ref 1005, .ref 1001, .ref 1003, .int (nI i7), .int 0, .int 25, xx_d, xx_d]) O (xx_dt dd_X3_give 12 rfl) (by decide) rfl ?_
      refine sw_iconst (x := 0) O (xx_dt dd_X3_give 13 rfl) (by decide) ?_
      refine sw_istore (ls2 := [.ref 1005, .ref 1001, .ref 1003, .int (nI i7), .int 0, .int 25, .int 0, xx_d]) O (xx_dt dd_X3_give 14 rfl) (by decide) rfl ?_
      refine sw_for (fun i25 s25 => (if s25.2.2 ≤ (f_clashesOf (g_giveByTurn s25.1 i7 i25 sp) i7) then (g_giveByTurn s25.1 i7 i25 sp, s25.2.1, s25.2.2) else (g_giveByTurn s25.1 i7 i25 sp, i25, f_clashesOf (g_giveByTurn s25.1 i7 i25 sp) i7))) (fun _ s25 => s25.1 1001 4 = nI R ∧ s25.1 1010 = σ 1010 ∧ XCD s25.1 ∧ s25.2.1 < 6) (hp := fun s25 => setC s25.1 h) (hd := 25) (lc := fun i25 s25 => [.ref 1005, .ref 1001, .ref 1003, .int (nI i7), .int (nI (s25.2.1)), .int s25.2.2, .int (nI i25), xx_d]) (N := 6) (fun i25 s25 hi25 hP25 => ⟨(by (try dsimp only); (repeat' split) <;> (refine ⟨?_, ?_, ?_, ?_⟩ <;> (first | with_reducible exact hP25.1 | with_reducible exact hP25.2.1 | with_reducible exact hP25.2.2.1 | with_reducible exact hP25.2.2.2 | with_reducible exact hP25.2.2.1.of (fun i9 hi9 => fr_giveByTurn (by omega)) | with_reducible exact (fr_giveByTurn (by omega)).trans hP25.2.1 | with_reducible exact (congrFun (fr_giveByTurn (by omega)) 4).trans hP25.1 | with_reducible exact hi25 | exact hi25 | exact .inl rfl | exact .inr rfl | (simp (disch := omega) only [u2_ne, uR_ne, fr_fill, fr_useWaiver, fr_undoContradictions, fr_lowerEligible, fr_moveHeld, fr_raisePrices, fr_begin, fr_closeRound, fr_moveTaken, fr_findDisturbed, fr_addRegion, fr_addBidder, fr_take, fr_giveBack, fr_keepIfBetter, fr_findWinners, fr_leaveOut, fr_raiseEach, fr_raiseOutside, fr_find, fr_giveByTurn]; first | with_reducible exact hP25.1 | with_reducible exact hP25.2.1 | with_reducible exact hP25.2.2.1 | with_reducible exact hP25.2.2.2 | with_reducible exact hP25.2.2.1.of (fun i9 hi9 => fr_giveByTurn (by omega)) | with_reducible exact (fr_giveByTurn (by omega)).trans hP25.2.1 | with_reducible exact (congrFun (fr_giveByTurn (by omega)) 4).trans hP25.1 | with_reducible exact hi25)))), fun kk25 => ?_⟩) 6 0 (s7, 0, 25) (by omega) (⟨hP7.1, hP7.2.1, hP7.2.2, (by show (0 : Nat) < 6; decide)⟩) (fun hP25 => ?_)
      · refine sw_iload O (xx_dt dd_X3_give 15 rfl) rfl ?_
        refine sw_bipush (x := 6) O (xx_dt dd_X3_give 16 rfl) (by decide) ?_
        refine sw_icmp_ge (tgt := 70) O (xx_dt dd_X3_give 17 rfl) (by decide) (fun q2 => ?_) (fun q2 => ?_)
        · exact absurd q2 (nI_ge (b := 6) hi25 (by omega))
        · refine sw_aload_n O (xx_dt dd_X3_give 18 rfl) rfl ?_
          refine sw_aload_n O (xx_dt dd_X3_give 19 rfl) rfl ?_
          refine sw_aload_n O (xx_dt dd_X3_give 20 rfl) rfl ?_
          refine sw_iload_n O (xx_dt dd_X3_give 21 rfl) rfl ?_
          refine sw_iload O (xx_dt dd_X3_give 22 rfl) rfl ?_
          refine sw_callVx (as := [.ref 1001, .ref 1003, .int (nI i7), .int (nI i25)]) (st := []) (st2 := []) O (ct_X3_giveByTurn hl (σ := s25.1) (sp := sp) (fun j9 hj9 => by rw [show s25.1 1010 = σ 1010 from hP25.2.1]; exact hsp j9 hj9) hP25.2.2.1 (r := i7) (t := i25) (by omega) (by omega)) ce_X3_giveByTurn ml_X3_31 iv_X3_giveByTurn cl_X3 rfl (ly_1005 s25.1 h) (xx_dt dd_X3_give 23 rfl) (by first | decide | omega) rfl rfl (Nat.le_of_ble_eq_true rfl) rfl ?_
          refine sw_aload_n O (xx_dt dd_X3_give 24 rfl) rfl ?_
          refine sw_aload_n O (xx_dt dd_X3_give 25 rfl) rfl ?_
          refine sw_iload_n O (xx_dt dd_X3_give 26 rfl) rfl ?_
          refine sw_callVx (as := [.ref 1001, .int (nI i7)]) (st := []) (st2 := [.int (f_clashesOf (g_giveByTurn s25.1 i7 i25 sp) i7)]) O (ct_X3_clashesOf hl (σ := g_giveByTurn s25.1 i7 i25 sp) (r := i7) (by omega)) ce_X3_clashesOf ml_X3_35 iv_X3_clashesOf cl_X3 rfl (ly_1005 (g_giveByTurn s25.1 i7 i25 sp) h) (xx_dt dd_X3_give 27 rfl) (by first | decide | omega) rfl rfl (Nat.le_of_ble_eq_true rfl) rfl ?_
          refine sw_istore (ls2 := [.ref 1005, .ref 1001, .ref 1003, .int (nI i7), .int (nI (s25.2.1)), .int s25.2.2, .int (nI i25), .int (f_clashesOf (g_giveByTurn s25.1 i7 i25 sp) i7)]) O (xx_dt dd_X3_give 28 rfl) (by decide) rfl ?_
          refine sw_iload O (xx_dt dd_X3_give 29 rfl) rfl ?_
          refine sw_iload O (xx_dt dd_X3_give 30 rfl) rfl ?_
          refine sw_icmp_ge (tgt := 64) O (xx_dt dd_X3_give 31 rfl) (by decide) (fun q3 => ?_) (fun q3 => ?_)
          · refine sw_iinc (y := nI (i25 + 1)) (ls2 := [.ref 1005, .ref 1001, .ref 1003, .int (nI i7), .int (nI (s25.2.1)), .int s25.2.2, .int (nI (i25 + 1)), .int (f_clashesOf (g_giveByTurn s25.1 i7 i25 sp) i7)]) O (xx_dt dd_X3_give 36 rfl) rfl (nI_1 _) (by decide) rfl ?_
            refine sw_goto (tgt := 25) O (xx_dt dd_X3_give 37 rfl) (by decide) ?_
            refine sw_dum (ls2 := [.ref 1005, .ref 1001, .ref 1003, .int (nI i7), .int (nI (s25.2.1)), .int s25.2.2, .int (nI (i25 + 1)), xx_d]) ⟨.inr rfl, .inr rfl, .inr rfl, .inr rfl, .inr rfl, .inr rfl, .inr rfl, .inl rfl, trivial⟩ ?_
            simp only [if_pos q3] at kk25
            exact kk25
          · refine sw_iload O (xx_dt dd_X3_give 32 rfl) rfl ?_
            refine sw_istore (ls2 := [.ref 1005, .ref 1001, .ref 1003, .int (nI i7), .int (nI (s25.2.1)), .int (f_clashesOf (g_giveByTurn s25.1 i7 i25 sp) i7), .int (nI i25), .int (f_clashesOf (g_giveByTurn s25.1 i7 i25 sp) i7)]) O (xx_dt dd_X3_give 33 rfl) (by decide) rfl ?_
            refine sw_iload O (xx_dt dd_X3_give 34 rfl) rfl ?_
            refine sw_istore (ls2 := [.ref 1005, .ref 1001, .ref 1003, .int (nI i7), .int (nI i25), .int (f_clashesOf (g_giveByTurn s25.1 i7 i25 sp) i7), .int (nI i25), .int (f_clashesOf (g_giveByTurn s25.1 i7 i25 sp) i7)]) O (xx_dt dd_X3_give 35 rfl) (by decide) rfl ?_
            refine sw_iinc (y := nI (i25 + 1)) (ls2 := [.ref 1005, .ref 1001, .ref 1003, .int (nI i7), .int (nI i25), .int (f_clashesOf (g_giveByTurn s25.1 i7 i25 sp) i7), .int (nI (i25 + 1)), .int (f_clashesOf (g_giveByTurn s25.1 i7 i25 sp) i7)]) O (xx_dt dd_X3_give 36 rfl) rfl (nI_1 _) (by decide) rfl ?_
            refine sw_goto (tgt := 25) O (xx_dt dd_X3_give 37 rfl) (by decide) ?_
            refine sw_dum (ls2 := [.ref 1005, .ref 1001, .ref 1003, .int (nI i7), .int (nI i25), .int (f_clashesOf (g_giveByTurn s25.1 i7 i25 sp) i7), .int (nI (i25 + 1)), xx_d]) ⟨.inr rfl, .inr rfl, .inr rfl, .inr rfl, .inr rfl, .inr rfl, .inr rfl, .inl rfl, trivial⟩ ?_
            simp only [if_neg q3] at kk25
            exact kk25
      · show SW Y _ _ (setC ((x_give_25 σ R sp i7 (s7, 0, 25)).1) h) 25 [.ref 1005, .ref 1001, .ref 1003, .int (nI i7), .int (nI ((x_give_25 σ R sp i7 (s7, 0, 25)).2.1)), .int ((x_give_25 σ R sp i7 (s7, 0, 25)).2.2), .int (nI 6), xx_d] []
        have hP25 : ((x_give_25 σ R sp i7 (s7, 0, 25)).1) 1001 4 = nI R ∧ ((x_give_25 σ R sp i7 (s7, 0, 25)).1) 1010 = σ 1010 ∧ XCD (x_give_25 σ R sp i7 (s7, 0, 25)).1 ∧ (x_give_25 σ R sp i7 (s7, 0, 25)).2.1 < 6 := hP25
        refine sw_iload O (xx_dt dd_X3_give 15 rfl) rfl ?_
        refine sw_bipush (x := 6) O (xx_dt dd_X3_give 16 rfl) (by decide) ?_
        refine sw_icmp_ge (tgt := 70) O (xx_dt dd_X3_give 17 rfl) (by decide) (fun q2 => ?_) (fun q2 => ?_)
        · refine sw_aload_n O (xx_dt dd_X3_give 38 rfl) rfl ?_
          refine sw_aload_n O (xx_dt dd_X3_give 39 rfl) rfl ?_
          refine sw_aload_n O (xx_dt dd_X3_give 40 rfl) rfl ?_
          refine sw_iload_n O (xx_dt dd_X3_give 41 rfl) rfl ?_
          refine sw_iload O (xx_dt dd_X3_give 42 rfl) rfl ?_
          refine sw_callVx (as := [.ref 1001, .ref 1003, .int (nI i7), .int (nI ((x_give_25 σ R sp i7 (s7, 0, 25)).2.1))]) (st := []) (st2 := []) O (ct_X3_giveByTurn hl (σ := (x_give_25 σ R sp i7 (s7, 0, 25)).1) (sp := sp) (fun j9 hj9 => by rw [show ((x_give_25 σ R sp i7 (s7, 0, 25)).1) 1010 = σ 1010 from hP25.2.1]; exact hsp j9 hj9) hP25.2.2.1 (r := i7) (t := (x_give_25 σ R sp i7 (s7, 0, 25)).2.1) (by omega) (by omega)) ce_X3_giveByTurn ml_X3_31 iv_X3_giveByTurn cl_X3 rfl (ly_1005 ((x_give_25 σ R sp i7 (s7, 0, 25)).1) h) (xx_dt dd_X3_give 43 rfl) (by first | decide | omega) rfl rfl (Nat.le_of_ble_eq_true rfl) rfl ?_
          refine sw_aload_n O (xx_dt dd_X3_give 44 rfl) rfl ?_
          refine sw_dup O (xx_dt dd_X3_give 45 rfl) rfl ?_
          refine sw_get (v := .int (((x_give_25 σ R sp i7 (s7, 0, 25)).1) 1005 1)) O (xx_dt dd_X3_give 46 rfl) cl_X3 fl_X3_22 (ly_1005 (g_giveByTurn ((x_give_25 σ R sp i7 (s7, 0, 25)).1) i7 ((x_give_25 σ R sp i7 (s7, 0, 25)).2.1) sp) h) (by decide) (congrArg Value.int (congrFun (fr_giveByTurn (by omega)) 1)) ?_
          refine sw_iload O (xx_dt dd_X3_give 47 rfl) rfl ?_
          refine sw_iadd O (xx_dt dd_X3_give 48 rfl) ?_
          refine sw_put (h2 := setC (u2 (g_giveByTurn ((x_give_25 σ R sp i7 (s7, 0, 25)).1) i7 ((x_give_25 σ R sp i7 (s7, 0, 25)).2.1) sp) 1005 1 ((((x_give_25 σ R sp i7 (s7, 0, 25)).1) 1005 1) + ((x_give_25 σ R sp i7 (s7, 0, 25)).2.2))) h) O (xx_dt dd_X3_give 49 rfl) cl_X3 fl_X3_22 (ly_1005 (g_giveByTurn ((x_give_25 σ R sp i7 (s7, 0, 25)).1) i7 ((x_give_25 σ R sp i7 (s7, 0, 25)).2.1) sp) h) (by decide) (by decide) rfl (fun _ => ⟨rfl, rfl⟩) pu_1005_1 ?_
          refine sw_iinc (y := nI (i7 + 1)) (ls2 := [.ref 1005, .ref 1001, .ref 1003, .int (nI (i7 + 1)), .int (nI ((x_give_25 σ R sp i7 (s7, 0, 25)).2.1)), .int ((x_give_25 σ R sp i7 (s7, 0, 25)).2.2), .int (nI 6), xx_d]) O (xx_dt dd_X3_give 50 rfl) rfl (nI_1 _) (by decide) rfl ?_
          refine sw_goto (tgt := 7) O (xx_dt dd_X3_give 51 rfl) (by decide) ?_
          refine sw_dum (ls2 := [.ref 1005, .ref 1001, .ref 1003, .int (nI (i7 + 1)), xx_d, xx_d, xx_d, xx_d]) ⟨.inr rfl, .inr rfl, .inr rfl, .inr rfl, .inl rfl, .inl rfl, .inl rfl, .inr rfl, trivial⟩ ?_
          exact kk7
        · exact absurd (Int32.le_refl _) q2
  · show SW Y _ _ (setC (x_give_7 σ R sp (u2 σ 1005 1 0)) h) 7 [.ref 1005, .ref 1001, .ref 1003, .int (nI R), xx_d, xx_d, xx_d, xx_d] []
    have hP7 : (x_give_7 σ R sp (u2 σ 1005 1 0)) 1001 4 = nI R ∧ (x_give_7 σ R sp (u2 σ 1005 1 0)) 1010 = σ 1010 ∧ XCD (x_give_7 σ R sp (u2 σ 1005 1 0)) := hP7
    refine sw_iload_n O (xx_dt dd_X3_give 5 rfl) rfl ?_
    refine sw_aload_n O (xx_dt dd_X3_give 6 rfl) rfl ?_
    refine sw_get (v := .int (nI R)) O (xx_dt dd_X3_give 7 rfl) cl_X6 fl_X3_26 (ly_1001 (x_give_7 σ R sp (u2 σ 1005 1 0)) h) (by decide) (congrArg Value.int hP7.1) ?_
    refine sw_icmp_ge (tgt := 96) O (xx_dt dd_X3_give 8 rfl) (by decide) (fun q1 => ?_) (fun q1 => ?_)
    · exact sw_ret O (xx_dt dd_X3_give 52 rfl) rfl (by rw [hQ]; exact ⟨rfl, by unfold g_give; rfl⟩)
    · exact absurd (Int32.le_refl _) q1
theorem fr_give {σ : XS9} {R : Nat} {sp : Nat → Nat} (hR5 : R ≤ 5) {q : Nat} (h : q ≠ 1005 ∧ (q < 1141 ∨ 1145 < q)) : g_give σ R sp q = σ q := by
  have H0 : ∀ s0, x_give_7 σ R sp s0 q = s0 q := fun s0 => xit_inv (fun s : XS9 => s q = s0 q) (N := R) (fun i s hi hP => (u2_ne h.1).trans ((fr_giveByTurn (by omega)).trans ((fx_give_25 (by omega)).trans hP))) _ _ _ (by omega) rfl
  unfold g_give
  exact (H0 _).trans (u2_ne h.1)
def x_agreeWith_16 (σ : XS9) (R B : Nat) (i2 : Nat) (s0 : Int32) : Int32 ⊕ Int32 := xitR (fun i16 s16 => (if (f_heldBy σ (nI i16) i2) = (f_blocksWon σ i16 i2) then .inl (s16 + (f_heldBy σ (nI i16) i2)) else .inr 0)) B 0 s0
def x_agreeWith_2 (σ : XS9) (R B : Nat) (s0 : Unit) : Unit ⊕ Int32 := xitR (fun i2 s2 => (match (x_agreeWith_16 σ R B i2 0) with | .inl s16 => (if s16 ≤ (σ 1010 i2) then .inl () else .inr 0) | .inr r16 => .inr r16)) R 0 s0
def f_agreeWith (σ : XS9) (R B : Nat) : Int32 := (match (x_agreeWith_2 σ R B ()) with | .inl s2 => 1 | .inr r2 => r2)
theorem ct_X3_agreeWith {l : Launch} {h : XH} (hl : l.stackTraces = false) {σ : XS9} {R : Nat} (hR : σ 1001 4 = nI R) (hR5 : R ≤ 5) {B : Nat} (hB : σ 1001 9 = nI B) (hB6 : B ≤ 6)  : XEx l m_X3_agreeWith 2 0 0 [.ref 1005, .ref 1001, .ref 1003] (setC σ h) (some (.int (f_agreeWith σ R B))) (setC σ h) := by
  refine XMet.of hl rfl rfl (Nat.le_of_ble_eq_true rfl) (fun Y O hh hQ => ?_)
  show SW Y 0 0 (setC σ h) 0 [.ref 1005, .ref 1001, .ref 1003, xx_d, xx_d, xx_d, xx_d] []
  refine sw_iconst (x := 0) O (xx_dt dd_X3_agreeWith 0 rfl) (by decide) ?_
  refine sw_istore_n (ls2 := [.ref 1005, .ref 1001, .ref 1003, .int 0, xx_d, xx_d, xx_d]) O (xx_dt dd_X3_agreeWith 1 rfl) (by decide) rfl ?_
  refine sw_forR (R := Int32) (fun i2 s2 => (match (x_agreeWith_16 σ R B i2 0) with | .inl s16 => (if s16 ≤ (σ 1010 i2) then .inl () else .inr 0) | .inr r16 => .inr r16)) (fun _ _ => True) (FR := fun r9 => f_agreeWith σ R B = r9) (hp := fun _ => setC σ h) (hd := 2) (lc := fun i2 s2 => [.ref 1005, .ref 1001, .ref 1003, .int (nI i2), xx_d, xx_d, xx_d]) (N := R) (fun i2 s2 hi2 hP2 => ⟨fun _ _ => trivial, fun kk2 kr2 => ?_⟩) R 0 () (by omega) (trivial) (fun sN2 eN2 hP2 => ?_) (fun r2 eN2 => ?_)
  · refine sw_iload_n O (xx_dt dd_X3_agreeWith 2 rfl) rfl ?_
    refine sw_aload_n O (xx_dt dd_X3_agreeWith 3 rfl) rfl ?_
    refine sw_get (v := .int (nI R)) O (xx_dt dd_X3_agreeWith 4 rfl) cl_X6 fl_X3_26 (ly_1001 σ h) (by decide) (congrArg Value.int hR) ?_
    refine sw_icmp_ge (tgt := 80) O (xx_dt dd_X3_agreeWith 5 rfl) (by decide) (fun q1 => ?_) (fun q1 => ?_)
    · exact absurd q1 (nI_ge (b := R) hi2 (by omega))
    · refine sw_iconst (x := 0) O (xx_dt dd_X3_agreeWith 6 rfl) (by decide) ?_
      refine sw_istore (ls2 := [.ref 1005, .ref 1001, .ref 1003, .int (nI i2), .int 0, xx_d, xx_d]) O (xx_dt dd_X3_agreeWith 7 rfl) (by decide) rfl ?_
      refine sw_iconst (x := 0) O (xx_dt dd_X3_agreeWith 8 rfl) (by decide) ?_
      refine sw_istore (ls2 := [.ref 1005, .ref 1001, .ref 1003, .int (nI i2), .int 0, .int 0, xx_d]) O (xx_dt dd_X3_agreeWith 9 rfl) (by decide) rfl ?_
      refine sw_forR (R := Int32) (fun i16 s16 => (if (f_heldBy σ (nI i16) i2) = (f_blocksWon σ i16 i2) then .inl (s16 + (f_heldBy σ (nI i16) i2)) else .inr 0)) (fun _ _ => True) (FR := fun r9 => f_agreeWith σ R B = r9) (hp := fun _ => setC σ h) (hd := 16) (lc := fun i16 s16 => [.ref 1005, .ref 1001, .ref 1003, .int (nI i2), .int s16, .int (nI i16), xx_d]) (N := B) (fun i16 s16 hi16 hP16 => ⟨fun _ _ => trivial, fun kk16 kr16 => ?_⟩) B 0 0 (by omega) (trivial) (fun sN16 eN16 hP16 => ?_) (fun r16 eN16 => ?_)
      · refine sw_iload O (xx_dt dd_X3_agreeWith 10 rfl) rfl ?_
        refine sw_aload_n O (xx_dt dd_X3_agreeWith 11 rfl) rfl ?_
        refine sw_get (v := .int (nI B)) O (xx_dt dd_X3_agreeWith 12 rfl) cl_X6 fl_X3_71 (ly_1001 σ h) (by decide) (congrArg Value.int hB) ?_
        refine sw_icmp_ge (tgt := 61) O (xx_dt dd_X3_agreeWith 13 rfl) (by decide) (fun q2 => ?_) (fun q2 => ?_)
        · exact absurd q2 (nI_ge (b := B) hi16 (by omega))
        · refine sw_aload_n O (xx_dt dd_X3_agreeWith 14 rfl) rfl ?_
          refine sw_iload O (xx_dt dd_X3_agreeWith 15 rfl) rfl ?_
          refine sw_iload_n O (xx_dt dd_X3_agreeWith 16 rfl) rfl ?_
          refine sw_callVx (as := [.int (nI i16), .int (nI i2)]) (st := []) (st2 := [.int (f_heldBy σ (nI i16) i2)]) O (ct_X3_heldBy hl (σ := σ) (x := nI i16) (r := i2) (by omega)) ce_X3_heldBy ml_X3_74 iv_X3_heldBy cl_X3 rfl (ly_1005 σ h) (xx_dt dd_X3_agreeWith 17 rfl) (by first | decide | omega) rfl rfl (Nat.le_of_ble_eq_true rfl) rfl ?_
          refine sw_istore (ls2 := [.ref 1005, .ref 1001, .ref 1003, .int (nI i2), .int s16, .int (nI i16), .int (f_heldBy σ (nI i16) i2)]) O (xx_dt dd_X3_agreeWith 18 rfl) (by decide) rfl ?_
          refine sw_iload O (xx_dt dd_X3_agreeWith 19 rfl) rfl ?_
          refine sw_aload_n O (xx_dt dd_X3_agreeWith 20 rfl) rfl ?_
          refine sw_iload O (xx_dt dd_X3_agreeWith 21 rfl) rfl ?_
          refine sw_iload_n O (xx_dt dd_X3_agreeWith 22 rfl) rfl ?_
          refine sw_callVx (as := [.int (nI i16), .int (nI i2)]) (st := [.int (f_heldBy σ (nI i16) i2)]) (st2 := [.int (f_blocksWon σ i16 i2), .int (f_heldBy σ (nI i16) i2)]) O (ct_X2_blocksWon hl (σ := σ) (i := i16) (r := i2) (by omega) (by omega)) ce_X2_blocksWon ml_X3_39 iv_X2_blocksWon cl_X2 rfl (ly_1003 σ h) (xx_dt dd_X3_agreeWith 23 rfl) (by first | decide | omega) rfl rfl (Nat.le_of_ble_eq_true rfl) rfl ?_
          refine sw_icmp_eq (tgt := 48) O (xx_dt dd_X3_agreeWith 24 rfl) (by decide) (fun q3 => ?_) (fun q3 => ?_)
          · refine sw_iload O (xx_dt dd_X3_agreeWith 27 rfl) rfl ?_
            refine sw_iload O (xx_dt dd_X3_agreeWith 28 rfl) rfl ?_
            refine sw_iadd O (xx_dt dd_X3_agreeWith 29 rfl) ?_
            refine sw_istore (ls2 := [.ref 1005, .ref 1001, .ref 1003, .int (nI i2), .int (s16 + (f_heldBy σ (nI i16) i2)), .int (nI i16), .int (f_heldBy σ (nI i16) i2)]) O (xx_dt dd_X3_agreeWith 30 rfl) (by decide) rfl ?_
            refine sw_iinc (y := nI (i16 + 1)) (ls2 := [.ref 1005, .ref 1001, .ref 1003, .int (nI i2), .int (s16 + (f_heldBy σ (nI i16) i2)), .int (nI (i16 + 1)), .int (f_heldBy σ (nI i16) i2)]) O (xx_dt dd_X3_agreeWith 31 rfl) rfl (nI_1 _) (by decide) rfl ?_
            refine sw_goto (tgt := 16) O (xx_dt dd_X3_agreeWith 32 rfl) (by decide) ?_
            refine sw_dum (ls2 := [.ref 1005, .ref 1001, .ref 1003, .int (nI i2), .int (s16 + (f_heldBy σ (nI i16) i2)), .int (nI (i16 + 1)), xx_d]) ⟨.inr rfl, .inr rfl, .inr rfl, .inr rfl, .inr rfl, .inr rfl, .inl rfl, trivial⟩ ?_
            exact kk16 (s16 + (f_heldBy σ (nI i16) i2)) (by simp only [if_pos q3])
          · refine sw_iconst (x := 0) O (xx_dt dd_X3_agreeWith 25 rfl) (by decide) ?_
            exact sw_iret O (xx_dt dd_X3_agreeWith 26 rfl) rfl rfl (by rw [hQ, kr16 0 (by simp only [if_neg q3])]; exact ⟨rfl, rfl⟩)
      · show SW Y _ _ (setC σ h) 16 [.ref 1005, .ref 1001, .ref 1003, .int (nI i2), .int sN16, .int (nI B), xx_d] []
        refine sw_iload O (xx_dt dd_X3_agreeWith 10 rfl) rfl ?_
        refine sw_aload_n O (xx_dt dd_X3_agreeWith 11 rfl) rfl ?_
        refine sw_get (v := .int (nI B)) O (xx_dt dd_X3_agreeWith 12 rfl) cl_X6 fl_X3_71 (ly_1001 σ h) (by decide) (congrArg Value.int hB) ?_
        refine sw_icmp_ge (tgt := 61) O (xx_dt dd_X3_agreeWith 13 rfl) (by decide) (fun q2 => ?_) (fun q2 => ?_)
        · refine sw_iload O (xx_dt dd_X3_agreeWith 33 rfl) rfl ?_
          refine sw_aload_n O (xx_dt dd_X3_agreeWith 34 rfl) rfl ?_
          refine sw_get (v := .ref 1010) O (xx_dt dd_X3_agreeWith 35 rfl) cl_X6 fl_X3_45 (ly_1001 σ h) (by decide) rfl ?_
          refine sw_iload_n O (xx_dt dd_X3_agreeWith 36 rfl) rfl ?_
          refine sw_iaload (v := .int (σ 1010 i2)) O (xx_dt dd_X3_agreeWith 37 rfl) (ly_1010 σ h) (pk_in i2 _ (by omega)) (by rw [nI_clamp (by omega)]; try exact rfl) ?_
          refine sw_icmp_le (tgt := 74) O (xx_dt dd_X3_agreeWith 38 rfl) (by decide) (fun q4 => ?_) (fun q4 => ?_)
          · refine sw_iinc (y := nI (i2 + 1)) (ls2 := [.ref 1005, .ref 1001, .ref 1003, .int (nI (i2 + 1)), .int sN16, .int (nI B), xx_d]) O (xx_dt dd_X3_agreeWith 41 rfl) rfl (nI_1 _) (by decide) rfl ?_
            refine sw_goto (tgt := 2) O (xx_dt dd_X3_agreeWith 42 rfl) (by decide) ?_
            refine sw_dum (ls2 := [.ref 1005, .ref 1001, .ref 1003, .int (nI (i2 + 1)), xx_d, xx_d, xx_d]) ⟨.inr rfl, .inr rfl, .inr rfl, .inr rfl, .inl rfl, .inl rfl, .inr rfl, trivial⟩ ?_
            exact kk2 () (by simp only [if_pos q4, x_agreeWith_16, eN16])
          · refine sw_iconst (x := 0) O (xx_dt dd_X3_agreeWith 39 rfl) (by decide) ?_
            exact sw_iret O (xx_dt dd_X3_agreeWith 40 rfl) rfl rfl (by rw [hQ, kr2 0 (by simp only [if_neg q4, x_agreeWith_16, eN16])]; exact ⟨rfl, rfl⟩)
        · exact absurd (Int32.le_refl _) q2
      · exact kr2 r16 (by simp only [x_agreeWith_16, eN16])
  · show SW Y _ _ (setC σ h) 2 [.ref 1005, .ref 1001, .ref 1003, .int (nI R), xx_d, xx_d, xx_d] []
    refine sw_iload_n O (xx_dt dd_X3_agreeWith 2 rfl) rfl ?_
    refine sw_aload_n O (xx_dt dd_X3_agreeWith 3 rfl) rfl ?_
    refine sw_get (v := .int (nI R)) O (xx_dt dd_X3_agreeWith 4 rfl) cl_X6 fl_X3_26 (ly_1001 σ h) (by decide) (congrArg Value.int hR) ?_
    refine sw_icmp_ge (tgt := 80) O (xx_dt dd_X3_agreeWith 5 rfl) (by decide) (fun q1 => ?_) (fun q1 => ?_)
    · refine sw_iconst (x := 1) O (xx_dt dd_X3_agreeWith 43 rfl) (by decide) ?_
      exact sw_iret O (xx_dt dd_X3_agreeWith 44 rfl) rfl rfl (by rw [hQ]; exact ⟨by unfold f_agreeWith; simp only [x_agreeWith_2, eN2], rfl⟩)
    · exact absurd (Int32.le_refl _) q1
  · unfold f_agreeWith; simp only [x_agreeWith_2, eN2]
end
section
/-! ===== stations are packed ===== -/
theorem max_nat {a b : Nat} (ha : a < 2147483648) (hb : b < 2147483648) : (if nI a < nI b then nI b else nI a) = nI (max a b) := by
  by_cases h : a < b
  · rw [if_pos ((nI_ltI ha hb).mpr h)]
    congr 1
    omega
  · rw [if_neg (fun e => h ((nI_ltI ha hb).mp e))]
    congr 1
    omega
theorem all_nat {C : Nat} (hC : C ≤ 10) : ((1 : Int32) <<< (nI C &&& 31)) - 1 = nI (2 ^ C - 1) := by
  have : ∀ C, C ≤ 10 → ((1 : Int32) <<< (nI C &&& 31)) - 1 = nI (2 ^ C - 1) := by decide +kernel
  exact this C hC
def x_packStep_43 (σ : XS9) (f_rec : XS9 → Nat → Int32) (g_rec2 : XS9 → Nat → XS9) (i ch u : Nat) (x : Int32) (C : Nat) (s0 : XS9) : XS9 ⊕ (XS9 × Int32) := xitR (fun i43 s43 => (if (nI ch) ≤ (nI i43) then .inr (s43, 0) else (if ((s43 1153 i43) &&& (s43 1152 i)) = 0 then (if (f_rec (u2 s43 1153 i43 ((s43 1153 i43) ||| (1 <<< ((nI i) &&& 31)))) (max u (i43 + 1))) = 0 then .inl (u2 (g_rec2 (u2 s43 1153 i43 ((s43 1153 i43) ||| (1 <<< ((nI i) &&& 31)))) (max u (i43 + 1))) 1153 i43 (((g_rec2 (u2 s43 1153 i43 ((s43 1153 i43) ||| (1 <<< ((nI i) &&& 31)))) (max u (i43 + 1))) 1153 i43) - (1 <<< ((nI i) &&& 31)))) else .inr (g_rec2 (u2 s43 1153 i43 ((s43 1153 i43) ||| (1 <<< ((nI i) &&& 31)))) (max u (i43 + 1)), 1)) else .inl s43))) (u + 1) 0 s0
def f_packStep (σ : XS9) (f_rec : XS9 → Nat → Int32) (g_rec2 : XS9 → Nat → XS9) (i ch u : Nat) (x : Int32) (C : Nat) : Int32 := (if (nI C) ≤ (nI i) then 1 else (if (x &&& (1 <<< ((nI i) &&& 31))) = 0 then f_rec σ u else (match (x_packStep_43 σ f_rec g_rec2 i ch u x C σ) with | .inl s43 => 0 | .inr r43 => r43.2)))
def g_packStep (σ : XS9) (f_rec : XS9 → Nat → Int32) (g_rec2 : XS9 → Nat → XS9) (i ch u : Nat) (x : Int32) (C : Nat) : XS9 := (if (nI C) ≤ (nI i) then σ else (if (x &&& (1 <<< ((nI i) &&& 31))) = 0 then g_rec2 σ u else (match (x_packStep_43 σ f_rec g_rec2 i ch u x C σ) with | .inl s43 => s43 | .inr r43 => r43.1)))
theorem ct_X5_packStep {l : Launch} {h : XH} (hl : l.stackTraces = false) {σ : XS9} {f_rec : XS9 → Nat → Int32} {g_rec2 : XS9 → Nat → XS9} (fr_rec2 : ∀ {σ : XS9} {u : Nat} {q : Nat}, q ≠ 1153 → g_rec2 σ u q = σ q) (hbo : ∀ σ u, f_rec σ u = 0 ∨ f_rec σ u = 1) {i ch u : Nat} {x : Int32} (hi : i < 10) (hch : ch ≤ 6) (hu : u ≤ 6) {C : Nat} (hC : σ 1006 1 = nI C) (hC10 : C ≤ 10) {d0 : Nat} (ih : ∀ (σ : XS9) (u : Nat), u ≤ 6 → σ 1006 1 = nI C → XEx l m_X5_packFrom d0 0 0 [.ref 1006, .int (nI (i + 1)), .int x, .int (nI ch), .int (nI u)] (setC σ h) (some (.int (f_rec σ u))) (setC (g_rec2 σ u) h)) : XEx l m_X5_packFrom (d0 + 1) 0 0 [.ref 1006, .int (nI i), .int x, .int (nI ch), .int (nI u)] (setC σ h) (some (.int (f_packStep σ f_rec g_rec2 i ch u x C))) (setC (g_packStep σ f_rec g_rec2 i ch u x C) h) := by
  refine XMet.of hl rfl rfl (Nat.le_of_ble_eq_true rfl) (fun Y O hh hQ => ?_)
  show SW Y 0 0 (setC σ h) 0 [.ref 1006, .int (nI i), .int x, .int (nI ch), .int (nI u), xx_d, xx_d] []
  refine sw_iload_n O (xx_dt dd_X5_packFrom 0 rfl) rfl ?_
  refine sw_aload_n O (xx_dt dd_X5_packFrom 1 rfl) rfl ?_
  refine sw_get (v := .int (nI C)) O (xx_dt dd_X5_packFrom 2 rfl) cl_X5 fl_X5_24 (ly_1006 σ h) (by decide) (congrArg Value.int hC) ?_
  refine sw_icmp_ge (tgt := 14) O (xx_dt dd_X5_packFrom 3 rfl) (by decide) (fun q1 => ?_) (fun q1 => ?_)
  · refine sw_iconst (x := 1) O (xx_dt dd_X5_packFrom 7 rfl) (by decide) ?_
    exact sw_iret O (xx_dt dd_X5_packFrom 8 rfl) rfl rfl (by rw [hQ]; exact ⟨by unfold f_packStep; simp only [if_pos q1], by unfold g_packStep; simp only [if_pos q1]⟩)
  · refine sw_iload_n O (xx_dt dd_X5_packFrom 4 rfl) rfl ?_
    refine sw_bipush (x := 10) O (xx_dt dd_X5_packFrom 5 rfl) (by decide) ?_
    refine sw_icmp_lt (tgt := 16) O (xx_dt dd_X5_packFrom 6 rfl) (by decide) (fun q2 => ?_) (fun q2 => ?_)
    · refine sw_iconst (x := 1) O (xx_dt dd_X5_packFrom 9 rfl) (by decide) ?_
      refine sw_iload_n O (xx_dt dd_X5_packFrom 10 rfl) rfl ?_
      refine sw_ishl O (xx_dt dd_X5_packFrom 11 rfl) ?_
      refine sw_istore (ls2 := [.ref 1006, .int (nI i), .int x, .int (nI ch), .int (nI u), .int (1 <<< ((nI i) &&& 31)), xx_d]) O (xx_dt dd_X5_packFrom 12 rfl) (by decide) rfl ?_
      refine sw_iload_n O (xx_dt dd_X5_packFrom 13 rfl) rfl ?_
      refine sw_iload O (xx_dt dd_X5_packFrom 14 rfl) rfl ?_
      refine sw_iand O (xx_dt dd_X5_packFrom 15 rfl) ?_
      refine sw_if_ne (tgt := 40) O (xx_dt dd_X5_packFrom 16 rfl) (by decide) (fun q3 => ?_) (fun q3 => ?_)
      · refine sw_iconst (x := 0) O (xx_dt dd_X5_packFrom 26 rfl) (by decide) ?_
        refine sw_istore (ls2 := [.ref 1006, .int (nI i), .int x, .int (nI ch), .int (nI u), .int (1 <<< ((nI i) &&& 31)), .int 0]) O (xx_dt dd_X5_packFrom 27 rfl) (by decide) rfl ?_
        refine sw_forR (R := (XS9 × Int32)) (fun i43 s43 => (if (nI ch) ≤ (nI i43) then .inr (s43, 0) else (if ((s43 1153 i43) &&& (s43 1152 i)) = 0 then (if (f_rec (u2 s43 1153 i43 ((s43 1153 i43) ||| (1 <<< ((nI i) &&& 31)))) (max u (i43 + 1))) = 0 then .inl (u2 (g_rec2 (u2 s43 1153 i43 ((s43 1153 i43) ||| (1 <<< ((nI i) &&& 31)))) (max u (i43 + 1))) 1153 i43 (((g_rec2 (u2 s43 1153 i43 ((s43 1153 i43) ||| (1 <<< ((nI i) &&& 31)))) (max u (i43 + 1))) 1153 i43) - (1 <<< ((nI i) &&& 31)))) else .inr (g_rec2 (u2 s43 1153 i43 ((s43 1153 i43) ||| (1 <<< ((nI i) &&& 31)))) (max u (i43 + 1)), 1)) else .inl s43))) (fun _ s43 => s43 1006 1 = nI C) (FR := fun r9 => f_packStep σ f_rec g_rec2 i ch u x C = r9.2 ∧ g_packStep σ f_rec g_rec2 i ch u x C = r9.1) (hp := fun s43 => setC s43 h) (hd := 43) (lc := fun i43 s43 => [.ref 1006, .int (nI i), .int x, .int (nI ch), .int (nI u), .int (1 <<< ((nI i) &&& 31)), .int (nI i43)]) (N := (u + 1)) (fun i43 s43 hi43 hP43 => ⟨(by intro s' e'; revert e'; (try dsimp only); (repeat' split) <;> intro e' <;> first | (cases e'; done) | (injection e' with e'; subst e'; first | exact hP43 | (simp (disch := omega) only [u2_ne, uR_ne, fr_fill, fr_useWaiver, fr_undoContradictions, fr_lowerEligible, fr_moveHeld, fr_raisePrices, fr_begin, fr_closeRound, fr_moveTaken, fr_findDisturbed, fr_addRegion, fr_addBidder, fr_take, fr_giveBack, fr_keepIfBetter, fr_findWinners, fr_leaveOut, fr_raiseEach, fr_raiseOutside, fr_find, fr_giveByTurn, fr_rec2]; exact hP43))), fun kk43 kr43 => ?_⟩) (u + 1) 0 σ (by omega) (hC) (fun sN43 eN43 hP43 => ?_) (fun r43 eN43 => ?_)
        · refine sw_iload O (xx_dt dd_X5_packFrom 28 rfl) rfl ?_
          refine sw_iload O (xx_dt dd_X5_packFrom 29 rfl) rfl ?_
          refine sw_icmp_gt (tgt := 126) O (xx_dt dd_X5_packFrom 30 rfl) (by decide) (fun q4 => ?_) (fun q4 => ?_)
          · exact absurd ((nI_ltI (a := u) (b := i43) (by omega) (by omega)).mp q4) (by omega)
          · refine sw_iload O (xx_dt dd_X5_packFrom 31 rfl) rfl ?_
            refine sw_iload_n O (xx_dt dd_X5_packFrom 32 rfl) rfl ?_
            refine sw_icmp_ge (tgt := 126) O (xx_dt dd_X5_packFrom 33 rfl) (by decide) (fun q5 => ?_) (fun q5 => ?_)
            · have hfq5 : ch ≤ i43 := (nI_leI (a := ch) (b := i43) (by omega) (by omega)).mp q5
              refine sw_iconst (x := 0) O (xx_dt dd_X5_packFrom 77 rfl) (by decide) ?_
              have kz := kr43 (s43, 0) (by simp only [if_pos q5])
              exact sw_iret O (xx_dt dd_X5_packFrom 78 rfl) rfl rfl (by rw [hQ, kz.1, kz.2]; exact ⟨rfl, rfl⟩)
            · have hfq5 : ¬ ch ≤ i43 := fun e => q5 ((nI_leI (a := ch) (b := i43) (by omega) (by omega)).mpr e)
              refine sw_aload_n O (xx_dt dd_X5_packFrom 34 rfl) rfl ?_
              refine sw_get (v := .ref 1153) O (xx_dt dd_X5_packFrom 35 rfl) cl_X5 fl_X5_21 (ly_1006 s43 h) (by decide) rfl ?_
              refine sw_iload O (xx_dt dd_X5_packFrom 36 rfl) rfl ?_
              refine sw_iaload (v := .int (s43 1153 i43)) O (xx_dt dd_X5_packFrom 37 rfl) (ly_1153 s43 h) (pk_in i43 _ (by omega)) (by rw [nI_clamp (by omega)]; try exact rfl) ?_
              refine sw_aload_n O (xx_dt dd_X5_packFrom 38 rfl) rfl ?_
              refine sw_get (v := .ref 1152) O (xx_dt dd_X5_packFrom 39 rfl) cl_X5 fl_X5_18 (ly_1006 s43 h) (by decide) rfl ?_
              refine sw_iload_n O (xx_dt dd_X5_packFrom 40 rfl) rfl ?_
              refine sw_iaload (v := .int (s43 1152 i)) O (xx_dt dd_X5_packFrom 41 rfl) (ly_1152 s43 h) (pk_in i _ (by omega)) (by rw [nI_clamp (by omega)]; try exact rfl) ?_
              refine sw_iand O (xx_dt dd_X5_packFrom 42 rfl) ?_
              refine sw_if_ne (tgt := 120) O (xx_dt dd_X5_packFrom 43 rfl) (by decide) (fun q6 => ?_) (fun q6 => ?_)
              · refine sw_iinc (y := nI (i43 + 1)) (ls2 := [.ref 1006, .int (nI i), .int x, .int (nI ch), .int (nI u), .int (1 <<< ((nI i) &&& 31)), .int (nI (i43 + 1))]) O (xx_dt dd_X5_packFrom 75 rfl) rfl (nI_1 _) (by decide) rfl ?_
                refine sw_goto (tgt := 43) O (xx_dt dd_X5_packFrom 76 rfl) (by decide) ?_
                exact kk43 s43 (by simp only [if_neg q5, if_neg q6])
              · refine sw_aload_n O (xx_dt dd_X5_packFrom 44 rfl) rfl ?_
                refine sw_get (v := .ref 1153) O (xx_dt dd_X5_packFrom 45 rfl) cl_X5 fl_X5_21 (ly_1006 s43 h) (by decide) rfl ?_
                refine sw_iload O (xx_dt dd_X5_packFrom 46 rfl) rfl ?_
                refine sw_dup2 O (xx_dt dd_X5_packFrom 47 rfl) rfl rfl ?_
                refine sw_iaload (v := .int (s43 1153 i43)) O (xx_dt dd_X5_packFrom 48 rfl) (ly_1153 s43 h) (pk_in i43 _ (by omega)) (by rw [nI_clamp (by omega)]; try exact rfl) ?_
                refine sw_iload O (xx_dt dd_X5_packFrom 49 rfl) rfl ?_
                refine sw_ior O (xx_dt dd_X5_packFrom 50 rfl) ?_
                refine sw_iastore (h2 := setC (u2 s43 1153 i43 ((s43 1153 i43) ||| (1 <<< ((nI i) &&& 31)))) h) O (xx_dt dd_X5_packFrom 51 rfl) (ly_1153 s43 h) (pk_in i43 _ (by omega)) (by decide) (by rw [nI_clamp (by omega)]; exact pa_1153) ?_
                refine sw_aload_n O (xx_dt dd_X5_packFrom 52 rfl) rfl ?_
                refine sw_iload_n O (xx_dt dd_X5_packFrom 53 rfl) rfl ?_
                refine sw_iconst (x := 1) O (xx_dt dd_X5_packFrom 54 rfl) (by decide) ?_
                refine sw_iadd O (xx_dt dd_X5_packFrom 55 rfl) ?_
                rw [nI_a1 i]
                refine sw_iload_n O (xx_dt dd_X5_packFrom 56 rfl) rfl ?_
                refine sw_iload_n O (xx_dt dd_X5_packFrom 57 rfl) rfl ?_
                refine sw_iload O (xx_dt dd_X5_packFrom 58 rfl) rfl ?_
                refine sw_iload O (xx_dt dd_X5_packFrom 59 rfl) rfl ?_
                refine sw_iconst (x := 1) O (xx_dt dd_X5_packFrom 60 rfl) (by decide) ?_
                refine sw_iadd O (xx_dt dd_X5_packFrom 61 rfl) ?_
                rw [nI_a1 i43]
                refine sw_max O mm_X5_55 (xx_dt dd_X5_packFrom 62 rfl) (by omega) (Nat.le_of_ble_eq_true rfl) ?_
                rw [max_nat (a := u) (b := i43 + 1) (by omega) (by omega)]
                refine sw_callSx (as := [.ref 1006, .int (nI (i + 1)), .int x, .int (nI ch), .int (nI (max u (i43 + 1)))]) (st := []) (st2 := [.int (f_rec (u2 s43 1153 i43 ((s43 1153 i43) ||| (1 <<< ((nI i) &&& 31)))) (max u (i43 + 1)))]) O (ih (u2 s43 1153 i43 ((s43 1153 i43) ||| (1 <<< ((nI i) &&& 31)))) (max u (i43 + 1)) (by omega) (hP43)) ce_X5_packFrom ml_X5_51 st_X5_packFrom (xx_dt dd_X5_packFrom 63 rfl) (by first | decide | omega) rfl rfl (Nat.le_of_ble_eq_true rfl) rfl ?_
                refine sw_if_eq (tgt := 108) O (xx_dt dd_X5_packFrom 64 rfl) (by decide) (fun q7 => ?_) (fun q7 => ?_)
                · refine sw_aload_n O (xx_dt dd_X5_packFrom 67 rfl) rfl ?_
                  refine sw_get (v := .ref 1153) O (xx_dt dd_X5_packFrom 68 rfl) cl_X5 fl_X5_21 (ly_1006 (g_rec2 (u2 s43 1153 i43 ((s43 1153 i43) ||| (1 <<< ((nI i) &&& 31)))) (max u (i43 + 1))) h) (by decide) rfl ?_
                  refine sw_iload O (xx_dt dd_X5_packFrom 69 rfl) rfl ?_
                  refine sw_dup2 O (xx_dt dd_X5_packFrom 70 rfl) rfl rfl ?_
                  refine sw_iaload (v := .int ((g_rec2 (u2 s43 1153 i43 ((s43 1153 i43) ||| (1 <<< ((nI i) &&& 31)))) (max u (i43 + 1))) 1153 i43)) O (xx_dt dd_X5_packFrom 71 rfl) (ly_1153 (g_rec2 (u2 s43 1153 i43 ((s43 1153 i43) ||| (1 <<< ((nI i) &&& 31)))) (max u (i43 + 1))) h) (pk_in i43 _ (by omega)) (by rw [nI_clamp (by omega)]; try exact rfl) ?_
                  refine sw_iload O (xx_dt dd_X5_packFrom 72 rfl) rfl ?_
                  refine sw_isub O (xx_dt dd_X5_packFrom 73 rfl) ?_
                  refine sw_iastore (h2 := setC (u2 (g_rec2 (u2 s43 1153 i43 ((s43 1153 i43) ||| (1 <<< ((nI i) &&& 31)))) (max u (i43 + 1))) 1153 i43 (((g_rec2 (u2 s43 1153 i43 ((s43 1153 i43) ||| (1 <<< ((nI i) &&& 31)))) (max u (i43 + 1))) 1153 i43) - (1 <<< ((nI i) &&& 31)))) h) O (xx_dt dd_X5_packFrom 74 rfl) (ly_1153 (g_rec2 (u2 s43 1153 i43 ((s43 1153 i43) ||| (1 <<< ((nI i) &&& 31)))) (max u (i43 + 1))) h) (pk_in i43 _ (by omega)) (by decide) (by rw [nI_clamp (by omega)]; exact pa_1153) ?_
                  refine sw_iinc (y := nI (i43 + 1)) (ls2 := [.ref 1006, .int (nI i), .int x, .int (nI ch), .int (nI u), .int (1 <<< ((nI i) &&& 31)), .int (nI (i43 + 1))]) O (xx_dt dd_X5_packFrom 75 rfl) rfl (nI_1 _) (by decide) rfl ?_
                  refine sw_goto (tgt := 43) O (xx_dt dd_X5_packFrom 76 rfl) (by decide) ?_
                  exact kk43 (u2 (g_rec2 (u2 s43 1153 i43 ((s43 1153 i43) ||| (1 <<< ((nI i) &&& 31)))) (max u (i43 + 1))) 1153 i43 (((g_rec2 (u2 s43 1153 i43 ((s43 1153 i43) ||| (1 <<< ((nI i) &&& 31)))) (max u (i43 + 1))) 1153 i43) - (1 <<< ((nI i) &&& 31)))) (by simp only [if_neg q5, if_pos q6, if_pos q7])
                · refine sw_iconst (x := 1) O (xx_dt dd_X5_packFrom 65 rfl) (by decide) ?_
                  have kz := kr43 (g_rec2 (u2 s43 1153 i43 ((s43 1153 i43) ||| (1 <<< ((nI i) &&& 31)))) (max u (i43 + 1)), 1) (by simp only [if_neg q5, if_pos q6, if_neg q7])
                  exact sw_iret O (xx_dt dd_X5_packFrom 66 rfl) rfl rfl (by rw [hQ, kz.1, kz.2]; exact ⟨rfl, rfl⟩)
        · show SW Y _ _ (setC sN43 h) 43 [.ref 1006, .int (nI i), .int x, .int (nI ch), .int (nI u), .int (1 <<< ((nI i) &&& 31)), .int (nI ((u + 1)))] []
          refine sw_iload O (xx_dt dd_X5_packFrom 28 rfl) rfl ?_
          refine sw_iload O (xx_dt dd_X5_packFrom 29 rfl) rfl ?_
          refine sw_icmp_gt (tgt := 126) O (xx_dt dd_X5_packFrom 30 rfl) (by decide) (fun q4 => ?_) (fun q4 => ?_)
          · refine sw_iconst (x := 0) O (xx_dt dd_X5_packFrom 77 rfl) (by decide) ?_
            exact sw_iret O (xx_dt dd_X5_packFrom 78 rfl) rfl rfl (by rw [hQ]; exact ⟨by unfold f_packStep; simp only [if_neg q1, if_neg q3, x_packStep_43, eN43], by unfold g_packStep; simp only [if_neg q1, if_neg q3, x_packStep_43, eN43]⟩)
          · exact absurd (nI_lt (a := u) (b := (u + 1)) (by omega) (by omega)) q4
        · exact ⟨by unfold f_packStep; simp only [if_neg q1, if_neg q3, x_packStep_43, eN43], by unfold g_packStep; simp only [if_neg q1, if_neg q3, x_packStep_43, eN43]⟩
      · refine sw_aload_n O (xx_dt dd_X5_packFrom 17 rfl) rfl ?_
        refine sw_iload_n O (xx_dt dd_X5_packFrom 18 rfl) rfl ?_
        refine sw_iconst (x := 1) O (xx_dt dd_X5_packFrom 19 rfl) (by decide) ?_
        refine sw_iadd O (xx_dt dd_X5_packFrom 20 rfl) ?_
        rw [nI_a1 i]
        refine sw_iload_n O (xx_dt dd_X5_packFrom 21 rfl) rfl ?_
        refine sw_iload_n O (xx_dt dd_X5_packFrom 22 rfl) rfl ?_
        refine sw_iload O (xx_dt dd_X5_packFrom 23 rfl) rfl ?_
        refine sw_callSx (as := [.ref 1006, .int (nI (i + 1)), .int x, .int (nI ch), .int (nI u)]) (st := []) (st2 := [.int (f_rec σ u)]) O (ih (σ) u (by omega) (hC)) ce_X5_packFrom ml_X5_51 st_X5_packFrom (xx_dt dd_X5_packFrom 24 rfl) (by first | decide | omega) rfl rfl (Nat.le_of_ble_eq_true rfl) rfl ?_
        exact sw_iret O (xx_dt dd_X5_packFrom 25 rfl) rfl (xx_bool (hbo _ _)) (by rw [hQ]; exact ⟨by unfold f_packStep; simp only [if_neg q1, if_pos q3], by unfold g_packStep; simp only [if_neg q1, if_pos q3]⟩)
    · exact absurd q2 (fun e => e (nI_lt (a := i) (b := 10) (by omega) (by omega)))
def f_packBase (σ : XS9) (ch u : Nat) (x : Int32) (C : Nat) : Int32 := 1
def g_packBase (σ : XS9) (ch u : Nat) (x : Int32) (C : Nat) : XS9 := σ
theorem ct_X5_packBase {l : Launch} {h : XH} (hl : l.stackTraces = false) {σ : XS9} {ch u : Nat} {x : Int32} {C : Nat} (hC : σ 1006 1 = nI C) (hC10 : C ≤ 10)  : XEx l m_X5_packFrom 0 0 0 [.ref 1006, .int (nI 10), .int x, .int (nI ch), .int (nI u)] (setC σ h) (some (.int (f_packBase σ ch u x C))) (setC (g_packBase σ ch u x C) h) := by
  refine XMet.of hl rfl rfl (Nat.le_of_ble_eq_true rfl) (fun Y O hh hQ => ?_)
  show SW Y 0 0 (setC σ h) 0 [.ref 1006, .int (nI 10), .int x, .int (nI ch), .int (nI u), xx_d, xx_d] []
  refine sw_iload_n O (xx_dt dd_X5_packFrom 0 rfl) rfl ?_
  refine sw_aload_n O (xx_dt dd_X5_packFrom 1 rfl) rfl ?_
  refine sw_get (v := .int (nI C)) O (xx_dt dd_X5_packFrom 2 rfl) cl_X5 fl_X5_24 (ly_1006 σ h) (by decide) (congrArg Value.int hC) ?_
  refine sw_icmp_ge (tgt := 14) O (xx_dt dd_X5_packFrom 3 rfl) (by decide) (fun q1 => ?_) (fun q1 => ?_)
  · refine sw_iconst (x := 1) O (xx_dt dd_X5_packFrom 7 rfl) (by decide) ?_
    exact sw_iret O (xx_dt dd_X5_packFrom 8 rfl) rfl rfl (by rw [hQ]; exact ⟨by unfold f_packBase; rfl, by unfold g_packBase; rfl⟩)
  · exact absurd q1 (fun e => e ((nI_leI (a := C) (b := 10) (by omega) (by omega)).mpr hC10))
def fg_pack (ch : Nat) (x : Int32) (C : Nat) : Nat → Nat → (XS9 → Nat → Int32) × (XS9 → Nat → XS9)
  | 0, _ => (fun σ u => f_packBase σ ch u x C, fun σ u => g_packBase σ ch u x C)
  | f + 1, i => (fun σ u => f_packStep σ (fg_pack ch x C f (i + 1)).1 (fg_pack ch x C f (i + 1)).2 i ch u x C, fun σ u => g_packStep σ (fg_pack ch x C f (i + 1)).1 (fg_pack ch x C f (i + 1)).2 i ch u x C)
theorem xitR_all {S R : Type} {step : Nat → S → S ⊕ R} {P : R → Prop} (h : ∀ i s r, step i s = .inr r → P r) : ∀ (f i : Nat) (s : S) (r : R), xitR step f i s = .inr r → P r
  | 0, _, _, _, e => by cases e
  | f + 1, i, s, r, e => by
    unfold xitR at e
    cases e2 : step i s with
    | inl s' => rw [e2] at e; exact xitR_all h f (i + 1) s' r e
    | inr r' => rw [e2] at e; exact h i s r (e2.trans e)
theorem bo_pack {ch : Nat} {x : Int32} {C : Nat} : ∀ (f i : Nat) (σ : XS9) (u : Nat), (fg_pack ch x C f i).1 σ u = 0 ∨ (fg_pack ch x C f i).1 σ u = 1
  | 0, i, σ, u => .inr rfl
  | f + 1, i, σ, u => by
    show f_packStep σ (fg_pack ch x C f (i + 1)).1 (fg_pack ch x C f (i + 1)).2 i ch u x C = 0 ∨ f_packStep σ (fg_pack ch x C f (i + 1)).1 (fg_pack ch x C f (i + 1)).2 i ch u x C = 1
    unfold f_packStep
    split
    · exact .inr rfl
    · split
      · exact bo_pack f (i + 1) σ u
      · split
        · exact .inl rfl
        · rename_i r e
          unfold x_packStep_43 at e
          refine xitR_all (P := fun r : XS9 × Int32 => r.2 = 0 ∨ r.2 = 1) (fun i s r e => ?_) _ _ _ _ e
          revert e
          (try dsimp only)
          (repeat' split) <;> intro e <;> first | (have e9 := Sum.inr.inj e; rw [← e9]; first | exact .inl rfl | exact .inr rfl) | (cases e; done)
theorem fr_packStep {σ : XS9} {f_rec : XS9 → Nat → Int32} {g_rec2 : XS9 → Nat → XS9} (fr_rec2 : ∀ {σ : XS9} {u : Nat} {q : Nat}, q ≠ 1153 → g_rec2 σ u q = σ q) {i ch u : Nat} {x : Int32} {C q : Nat} (h : q ≠ 1153) : g_packStep σ f_rec g_rec2 i ch u x C q = σ q := by
  have H : ∀ s0, Sum.elim (fun s : XS9 => s q) (fun s : XS9 × Int32 => s.1 q) (x_packStep_43 σ f_rec g_rec2 i ch u x C s0) = s0 q := fun s0 => by
    unfold x_packStep_43
    exact xitR_keep (fun s : XS9 => s q) (fun s : XS9 × Int32 => s.1 q) (fun i s s' e => by
      revert e
      (try dsimp only)
      (repeat' split) <;> intro e <;> first | (have e9 := Sum.inl.inj e; refine (congrFun e9.symm q).trans ?_; first | rfl | (rw [u2_ne h, fr_rec2 h, u2_ne h])) | (cases e; done)) (fun i s r e => by
      revert e
      (try dsimp only)
      (repeat' split) <;> intro e <;> first | (have e9 := Sum.inr.inj e; refine (congrFun (congrArg Prod.fst e9.symm) q).trans ?_; first | rfl | (show g_rec2 _ _ q = _; rw [fr_rec2 h, u2_ne h])) | (cases e; done)) _ _ _
  unfold g_packStep
  split
  · rfl
  · split
    · exact fr_rec2 h
    · rw [← H σ]
      cases x_packStep_43 σ f_rec g_rec2 i ch u x C σ <;> rfl
theorem fr_pack {ch : Nat} {x : Int32} {C : Nat} : ∀ (f i : Nat) {σ : XS9} {u q : Nat}, q ≠ 1153 → (fg_pack ch x C f i).2 σ u q = σ q
  | 0, i, σ, u, q, h => rfl
  | f + 1, i, σ, u, q, h => fr_packStep (fun h' => fr_pack f (i + 1) h') h
theorem ct_pack {l : Launch} {h : XH} (hl : l.stackTraces = false) {ch C : Nat} {x : Int32} (hch : ch ≤ 6) (hC10 : C ≤ 10) : ∀ (f i : Nat), i + f = 10 → ∀ (σ : XS9) (u : Nat), u ≤ 6 → σ 1006 1 = nI C → XEx l m_X5_packFrom f 0 0 [.ref 1006, .int (nI i), .int x, .int (nI ch), .int (nI u)] (setC σ h) (some (.int ((fg_pack ch x C f i).1 σ u))) (setC ((fg_pack ch x C f i).2 σ u) h)
  | 0, i, e, σ, u, hu, hC => by
    obtain rfl : i = 10 := by omega
    exact ct_X5_packBase hl hC hC10
  | f + 1, i, e, σ, u, hu, hC => ct_X5_packStep hl (fun h' => fr_pack f (i + 1) h') (bo_pack f (i + 1)) (by omega) hch hu hC hC10 (d0 := f) (fun σ u hu hC => ct_pack hl hch hC10 f (i + 1) (by omega) σ u hu hC)
def f_packFrom (σ : XS9) (ch : Nat) (x : Int32) (C : Nat) : Int32 := (fg_pack ch x C 10 0).1 σ 0
def g_packFrom (σ : XS9) (ch : Nat) (x : Int32) (C : Nat) : XS9 := (fg_pack ch x C 10 0).2 σ 0
theorem fr_packFrom {σ : XS9} {ch : Nat} {x : Int32} {C q : Nat} (h : q ≠ 1153) : g_packFrom σ ch x C q = σ q := fr_pack 10 0 h
def f_packAgain (σ : XS9) (x : Int32) (ch C : Nat) : Int32 := f_packFrom (g_fill σ 1153 6 0) ch x C
def g_packAgain (σ : XS9) (x : Int32) (ch C : Nat) : XS9 := g_packFrom (g_fill σ 1153 6 0) ch x C
theorem ct_X5_packAgain {l : Launch} {h : XH} (hl : l.stackTraces = false) {σ : XS9} {C : Nat} (hC : σ 1006 1 = nI C) (hC10 : C ≤ 10) {x : Int32} {ch : Nat} (hch : ch ≤ 6) : XEx l m_X5_packAgain 11 0 0 [.ref 1006, .int x, .int (nI ch)] (setC σ h) (some (.int (f_packAgain σ x ch C))) (setC (g_packAgain σ x ch C) h) := by
  refine XMet.of hl rfl rfl (Nat.le_of_ble_eq_true rfl) (fun Y O hh hQ => ?_)
  show SW Y 0 0 (setC σ h) 0 [.ref 1006, .int x, .int (nI ch)] []
  refine sw_aload_n O (xx_dt dd_X5_packAgain 0 rfl) rfl ?_
  refine sw_get (v := .ref 1153) O (xx_dt dd_X5_packAgain 1 rfl) cl_X5 fl_X5_21 (ly_1006 σ h) (by decide) rfl ?_
  refine sw_iconst (x := 0) O (xx_dt dd_X5_packAgain 2 rfl) (by decide) ?_
  refine sw_callSx (as := [.ref 1153, .int 0]) (st := []) (st2 := []) O (ct_J7_fill_53178 hl ia_1153 (by omega)) ce_J7_fill_53178 ml_X5_45 st_J7_fill_53178 (xx_dt dd_X5_packAgain 3 rfl) (by first | decide | omega) rfl rfl (Nat.le_of_ble_eq_true rfl) rfl ?_
  refine sw_aload_n O (xx_dt dd_X5_packAgain 4 rfl) rfl ?_
  refine sw_iconst (x := 0) O (xx_dt dd_X5_packAgain 5 rfl) (by decide) ?_
  refine sw_iload_n O (xx_dt dd_X5_packAgain 6 rfl) rfl ?_
  refine sw_iload_n O (xx_dt dd_X5_packAgain 7 rfl) rfl ?_
  refine sw_iconst (x := 0) O (xx_dt dd_X5_packAgain 8 rfl) (by decide) ?_
  refine sw_callSx (as := [.ref 1006, .int 0, .int x, .int (nI ch), .int 0]) (st := []) (st2 := [.int (f_packFrom (g_fill σ 1153 6 0) ch x C)]) O (ct_pack hl (ch := ch) (x := x) (by omega) (C := C) (by omega) 10 0 rfl (g_fill σ 1153 6 0) 0 (by omega) ((congrFun (fr_fill (by omega)) 1).trans hC)) ce_X5_packFrom ml_X5_51 st_X5_packFrom (xx_dt dd_X5_packAgain 9 rfl) (by first | decide | omega) rfl rfl (Nat.le_of_ble_eq_true rfl) rfl ?_
  exact sw_iret O (xx_dt dd_X5_packAgain 10 rfl) rfl (xx_bool (bo_pack 10 0 _ _)) (by rw [hQ]; exact ⟨by unfold f_packAgain; rfl, by unfold g_packAgain; rfl⟩)
theorem fr_packAgain {σ : XS9} {x : Int32} {ch C q : Nat} (h : q ≠ 1153) : g_packAgain σ x ch C q = σ q := by
  unfold g_packAgain
  rw [fr_packFrom h, fr_fill h]
def f_pack (σ : XS9) (x : Int32) (ch C : Nat) (rg : Nat → Nat) : Int32 := f_packAgain (g_findDisturbed σ C rg) x ch C
def g_pack (σ : XS9) (x : Int32) (ch C : Nat) (rg : Nat → Nat) : XS9 := g_packAgain (g_findDisturbed σ C rg) x ch C
theorem ct_X5_pack {l : Launch} {h : XH} (hl : l.stackTraces = false) {σ : XS9} {C : Nat} (hC : σ 1006 1 = nI C) (hC10 : C ≤ 10) {rg : Nat → Nat} (hrg : ∀ i, i < C → σ 1151 i = nI (rg i) ∧ rg i < 5) {x : Int32} {ch : Nat} (hch : ch ≤ 6) : XEx l m_X5_pack 12 0 0 [.ref 1006, .ref 1001, .int x, .int (nI ch)] (setC σ h) (some (.int (f_pack σ x ch C rg))) (setC (g_pack σ x ch C rg) h) := by
  refine XMet.of hl rfl rfl (Nat.le_of_ble_eq_true rfl) (fun Y O hh hQ => ?_)
  show SW Y 0 0 (setC σ h) 0 [.ref 1006, .ref 1001, .int x, .int (nI ch)] []
  refine sw_aload_n O (xx_dt dd_X5_pack 0 rfl) rfl ?_
  refine sw_aload_n O (xx_dt dd_X5_pack 1 rfl) rfl ?_
  refine sw_callVx (as := [.ref 1001]) (st := []) (st2 := []) O (ct_X5_findDisturbed hl (σ := σ) (C := C) hC (by omega) (rg := rg) hrg) ce_X5_findDisturbed ml_X5_28 iv_X5_findDisturbed cl_X5 rfl (ly_1006 σ h) (xx_dt dd_X5_pack 2 rfl) (by first | decide | omega) rfl rfl (Nat.le_of_ble_eq_true rfl) rfl ?_
  refine sw_aload_n O (xx_dt dd_X5_pack 3 rfl) rfl ?_
  refine sw_iload_n O (xx_dt dd_X5_pack 4 rfl) rfl ?_
  refine sw_iload_n O (xx_dt dd_X5_pack 5 rfl) rfl ?_
  refine sw_callVx (as := [.int x, .int (nI ch)]) (st := []) (st2 := [.int (f_packAgain (g_findDisturbed σ C rg) x ch C)]) O (ct_X5_packAgain hl (σ := g_findDisturbed σ C rg) (C := C) ((congrFun (fr_findDisturbed (by omega)) 1).trans hC) (by omega) (x := x) (ch := ch) (by omega)) ce_X5_packAgain ml_X5_32 iv_X5_packAgain cl_X5 rfl (ly_1006 (g_findDisturbed σ C rg) h) (xx_dt dd_X5_pack 6 rfl) (by first | decide | omega) rfl rfl (Nat.le_of_ble_eq_true rfl) rfl ?_
  exact sw_iret O (xx_dt dd_X5_pack 7 rfl) rfl (xx_bool (bo_pack 10 0 _ _)) (by rw [hQ]; exact ⟨by unfold f_pack; rfl, by unfold g_pack; rfl⟩)
def x_cheapest_27 (σ : XS9) (ch C : Nat) (rg : Nat → Nat) (s0 : XS9 × Int32 × Int32) : XS9 × Int32 × Int32 := xit (fun i27 s27 => (if s27.2.2 ≤ (f_asksOf s27.1 (nI i27) C) then (s27.1, s27.2.1, s27.2.2) else (if (f_packAgain s27.1 ((nI (2 ^ C - 1)) - (nI i27)) ch C) = 0 then (g_packAgain s27.1 ((nI (2 ^ C - 1)) - (nI i27)) ch C, s27.2.1, s27.2.2) else (g_packAgain s27.1 ((nI (2 ^ C - 1)) - (nI i27)) ch C, nI i27, f_asksOf s27.1 (nI i27) C)))) (2 ^ C - 1) 0 s0
def f_cheapest (σ : XS9) (ch C : Nat) (rg : Nat → Nat) : Int32 := (x_cheapest_27 σ ch C rg (g_findDisturbed σ C rg, nI (2 ^ C - 1), f_asksOf (g_findDisturbed σ C rg) (nI (2 ^ C - 1)) C)).2.1
def g_cheapest (σ : XS9) (ch C : Nat) (rg : Nat → Nat) : XS9 := (x_cheapest_27 σ ch C rg (g_findDisturbed σ C rg, nI (2 ^ C - 1), f_asksOf (g_findDisturbed σ C rg) (nI (2 ^ C - 1)) C)).1
theorem ct_X5_cheapest {l : Launch} {h : XH} (hl : l.stackTraces = false) {σ : XS9} {C : Nat} (hC : σ 1006 1 = nI C) (hC10 : C ≤ 10) {rg : Nat → Nat} (hrg : ∀ i, i < C → σ 1151 i = nI (rg i) ∧ rg i < 5) {ch : Nat} (hch : ch ≤ 6) : XEx l m_X5_cheapest 12 0 0 [.ref 1006, .ref 1001, .int (nI ch)] (setC σ h) (some (.int (f_cheapest σ ch C rg))) (setC (g_cheapest σ ch C rg) h) := by
  refine XMet.of hl rfl rfl (Nat.le_of_ble_eq_true rfl) (fun Y O hh hQ => ?_)
  show SW Y 0 0 (setC σ h) 0 [.ref 1006, .ref 1001, .int (nI ch), xx_d, xx_d, xx_d, xx_d, xx_d] []
  refine sw_aload_n O (xx_dt dd_X5_cheapest 0 rfl) rfl ?_
  refine sw_aload_n O (xx_dt dd_X5_cheapest 1 rfl) rfl ?_
  refine sw_callVx (as := [.ref 1001]) (st := []) (st2 := []) O (ct_X5_findDisturbed hl (σ := σ) (C := C) hC (by omega) (rg := rg) hrg) ce_X5_findDisturbed ml_X5_28 iv_X5_findDisturbed cl_X5 rfl (ly_1006 σ h) (xx_dt dd_X5_cheapest 2 rfl) (by first | decide | omega) rfl rfl (Nat.le_of_ble_eq_true rfl) rfl ?_
  refine sw_iconst (x := 1) O (xx_dt dd_X5_cheapest 3 rfl) (by decide) ?_
  refine sw_aload_n O (xx_dt dd_X5_cheapest 4 rfl) rfl ?_
  refine sw_get (v := .int (nI C)) O (xx_dt dd_X5_cheapest 5 rfl) cl_X5 fl_X5_24 (ly_1006 (g_findDisturbed σ C rg) h) (by decide) (congrArg Value.int ((congrFun (fr_findDisturbed (by omega)) 1).trans hC)) ?_
  refine sw_ishl O (xx_dt dd_X5_cheapest 6 rfl) ?_
  refine sw_iconst (x := 1) O (xx_dt dd_X5_cheapest 7 rfl) (by decide) ?_
  refine sw_isub O (xx_dt dd_X5_cheapest 8 rfl) ?_
  have hx12 := pow10 hC10
  rw [all_nat hC10]
  refine sw_istore_n (ls2 := [.ref 1006, .ref 1001, .int (nI ch), .int (nI (2 ^ C - 1)), xx_d, xx_d, xx_d, xx_d]) O (xx_dt dd_X5_cheapest 9 rfl) (by decide) rfl ?_
  refine sw_iload_n O (xx_dt dd_X5_cheapest 10 rfl) rfl ?_
  refine sw_istore (ls2 := [.ref 1006, .ref 1001, .int (nI ch), .int (nI (2 ^ C - 1)), .int (nI (2 ^ C - 1)), xx_d, xx_d, xx_d]) O (xx_dt dd_X5_cheapest 11 rfl) (by decide) rfl ?_
  refine sw_aload_n O (xx_dt dd_X5_cheapest 12 rfl) rfl ?_
  refine sw_iload_n O (xx_dt dd_X5_cheapest 13 rfl) rfl ?_
  refine sw_callVx (as := [.int (nI (2 ^ C - 1))]) (st := []) (st2 := [.int (f_asksOf (g_findDisturbed σ C rg) (nI (2 ^ C - 1)) C)]) O (ct_X5_asksOf hl (σ := g_findDisturbed σ C rg) (C := C) ((congrFun (fr_findDisturbed (by omega)) 1).trans hC) (by omega) (x := nI (2 ^ C - 1))) ce_X5_asksOf ml_X5_36 iv_X5_asksOf cl_X5 rfl (ly_1006 (g_findDisturbed σ C rg) h) (xx_dt dd_X5_cheapest 14 rfl) (by first | decide | omega) rfl rfl (Nat.le_of_ble_eq_true rfl) rfl ?_
  refine sw_istore (ls2 := [.ref 1006, .ref 1001, .int (nI ch), .int (nI (2 ^ C - 1)), .int (nI (2 ^ C - 1)), .int (f_asksOf (g_findDisturbed σ C rg) (nI (2 ^ C - 1)) C), xx_d, xx_d]) O (xx_dt dd_X5_cheapest 15 rfl) (by decide) rfl ?_
  refine sw_iconst (x := 0) O (xx_dt dd_X5_cheapest 16 rfl) (by decide) ?_
  refine sw_istore (ls2 := [.ref 1006, .ref 1001, .int (nI ch), .int (nI (2 ^ C - 1)), .int (nI (2 ^ C - 1)), .int (f_asksOf (g_findDisturbed σ C rg) (nI (2 ^ C - 1)) C), .int 0, xx_d]) O (xx_dt dd_X5_cheapest 17 rfl) (by decide) rfl ?_
  refine sw_for (fun i27 s27 => (if s27.2.2 ≤ (f_asksOf s27.1 (nI i27) C) then (s27.1, s27.2.1, s27.2.2) else (if (f_packAgain s27.1 ((nI (2 ^ C - 1)) - (nI i27)) ch C) = 0 then (g_packAgain s27.1 ((nI (2 ^ C - 1)) - (nI i27)) ch C, s27.2.1, s27.2.2) else (g_packAgain s27.1 ((nI (2 ^ C - 1)) - (nI i27)) ch C, nI i27, f_asksOf s27.1 (nI i27) C)))) (fun _ s27 => s27.1 1006 1 = nI C) (hp := fun s27 => setC s27.1 h) (hd := 27) (lc := fun i27 s27 => [.ref 1006, .ref 1001, .int (nI ch), .int (nI (2 ^ C - 1)), .int s27.2.1, .int s27.2.2, .int (nI i27), xx_d]) (N := (2 ^ C - 1)) (fun i27 s27 hi27 hP27 => ⟨(by (try dsimp only); (repeat' split) <;> first | exact hP27 | (simp (disch := omega) only [u2_ne, uR_ne, fr_fill, fr_useWaiver, fr_undoContradictions, fr_lowerEligible, fr_moveHeld, fr_raisePrices, fr_begin, fr_closeRound, fr_moveTaken, fr_findDisturbed, fr_addRegion, fr_addBidder, fr_take, fr_giveBack, fr_keepIfBetter, fr_findWinners, fr_leaveOut, fr_raiseEach, fr_raiseOutside, fr_find, fr_giveByTurn, fr_packFrom, fr_packAgain]; exact hP27)), fun kk27 => ?_⟩) (2 ^ C - 1) 0 (g_findDisturbed σ C rg, nI (2 ^ C - 1), f_asksOf (g_findDisturbed σ C rg) (nI (2 ^ C - 1)) C) (by omega) (((congrFun (fr_findDisturbed (by omega)) 1).trans hC)) (fun hP27 => ?_)
  · refine sw_iload O (xx_dt dd_X5_cheapest 18 rfl) rfl ?_
    refine sw_iload_n O (xx_dt dd_X5_cheapest 19 rfl) rfl ?_
    refine sw_icmp_ge (tgt := 74) O (xx_dt dd_X5_cheapest 20 rfl) (by decide) (fun q1 => ?_) (fun q1 => ?_)
    · exact absurd q1 (nI_ge (b := (2 ^ C - 1)) hi27 (by omega))
    · refine sw_aload_n O (xx_dt dd_X5_cheapest 21 rfl) rfl ?_
      refine sw_iload O (xx_dt dd_X5_cheapest 22 rfl) rfl ?_
      refine sw_callVx (as := [.int (nI i27)]) (st := []) (st2 := [.int (f_asksOf s27.1 (nI i27) C)]) O (ct_X5_asksOf hl (σ := s27.1) (C := C) hP27 (by omega) (x := nI i27)) ce_X5_asksOf ml_X5_36 iv_X5_asksOf cl_X5 rfl (ly_1006 s27.1 h) (xx_dt dd_X5_cheapest 23 rfl) (by first | decide | omega) rfl rfl (Nat.le_of_ble_eq_true rfl) rfl ?_
      refine sw_istore (ls2 := [.ref 1006, .ref 1001, .int (nI ch), .int (nI (2 ^ C - 1)), .int s27.2.1, .int s27.2.2, .int (nI i27), .int (f_asksOf s27.1 (nI i27) C)]) O (xx_dt dd_X5_cheapest 24 rfl) (by decide) rfl ?_
      refine sw_iload O (xx_dt dd_X5_cheapest 25 rfl) rfl ?_
      refine sw_iload O (xx_dt dd_X5_cheapest 26 rfl) rfl ?_
      refine sw_icmp_ge (tgt := 68) O (xx_dt dd_X5_cheapest 27 rfl) (by decide) (fun q2 => ?_) (fun q2 => ?_)
      · refine sw_iinc (y := nI (i27 + 1)) (ls2 := [.ref 1006, .ref 1001, .int (nI ch), .int (nI (2 ^ C - 1)), .int s27.2.1, .int s27.2.2, .int (nI (i27 + 1)), .int (f_asksOf s27.1 (nI i27) C)]) O (xx_dt dd_X5_cheapest 39 rfl) rfl (nI_1 _) (by decide) rfl ?_
        refine sw_goto (tgt := 27) O (xx_dt dd_X5_cheapest 40 rfl) (by decide) ?_
        refine sw_dum (ls2 := [.ref 1006, .ref 1001, .int (nI ch), .int (nI (2 ^ C - 1)), .int s27.2.1, .int s27.2.2, .int (nI (i27 + 1)), xx_d]) ⟨.inr rfl, .inr rfl, .inr rfl, .inr rfl, .inr rfl, .inr rfl, .inr rfl, .inl rfl, trivial⟩ ?_
        simp only [if_pos q2] at kk27
        exact kk27
      · refine sw_aload_n O (xx_dt dd_X5_cheapest 28 rfl) rfl ?_
        refine sw_iload_n O (xx_dt dd_X5_cheapest 29 rfl) rfl ?_
        refine sw_iload O (xx_dt dd_X5_cheapest 30 rfl) rfl ?_
        refine sw_isub O (xx_dt dd_X5_cheapest 31 rfl) ?_
        refine sw_iload_n O (xx_dt dd_X5_cheapest 32 rfl) rfl ?_
        refine sw_callVx (as := [.int ((nI (2 ^ C - 1)) - (nI i27)), .int (nI ch)]) (st := []) (st2 := [.int (f_packAgain s27.1 ((nI (2 ^ C - 1)) - (nI i27)) ch C)]) O (ct_X5_packAgain hl (σ := s27.1) (C := C) hP27 (by omega) (x := (nI (2 ^ C - 1)) - (nI i27)) (ch := ch) (by omega)) ce_X5_packAgain ml_X5_32 iv_X5_packAgain cl_X5 rfl (ly_1006 s27.1 h) (xx_dt dd_X5_cheapest 33 rfl) (by first | decide | omega) rfl rfl (Nat.le_of_ble_eq_true rfl) rfl ?_
        refine sw_if_eq (tgt := 68) O (xx_dt dd_X5_cheapest 34 rfl) (by decide) (fun q3 => ?_) (fun q3 => ?_)
        · refine sw_iinc (y := nI (i27 + 1)) (ls2 := [.ref 1006, .ref 1001, .int (nI ch), .int (nI (2 ^ C - 1)), .int s27.2.1, .int s27.2.2, .int (nI (i27 + 1)), .int (f_asksOf s27.1 (nI i27) C)]) O (xx_dt dd_X5_cheapest 39 rfl) rfl (nI_1 _) (by decide) rfl ?_
          refine sw_goto (tgt := 27) O (xx_dt dd_X5_cheapest 40 rfl) (by decide) ?_
          refine sw_dum (ls2 := [.ref 1006, .ref 1001, .int (nI ch), .int (nI (2 ^ C - 1)), .int s27.2.1, .int s27.2.2, .int (nI (i27 + 1)), xx_d]) ⟨.inr rfl, .inr rfl, .inr rfl, .inr rfl, .inr rfl, .inr rfl, .inr rfl, .inl rfl, trivial⟩ ?_
          simp only [if_neg q2, if_pos q3] at kk27
          exact kk27
        · refine sw_iload O (xx_dt dd_X5_cheapest 35 rfl) rfl ?_
          refine sw_istore (ls2 := [.ref 1006, .ref 1001, .int (nI ch), .int (nI (2 ^ C - 1)), .int (nI i27), .int s27.2.2, .int (nI i27), .int (f_asksOf s27.1 (nI i27) C)]) O (xx_dt dd_X5_cheapest 36 rfl) (by decide) rfl ?_
          refine sw_iload O (xx_dt dd_X5_cheapest 37 rfl) rfl ?_
          refine sw_istore (ls2 := [.ref 1006, .ref 1001, .int (nI ch), .int (nI (2 ^ C - 1)), .int (nI i27), .int (f_asksOf s27.1 (nI i27) C), .int (nI i27), .int (f_asksOf s27.1 (nI i27) C)]) O (xx_dt dd_X5_cheapest 38 rfl) (by decide) rfl ?_
          refine sw_iinc (y := nI (i27 + 1)) (ls2 := [.ref 1006, .ref 1001, .int (nI ch), .int (nI (2 ^ C - 1)), .int (nI i27), .int (f_asksOf s27.1 (nI i27) C), .int (nI (i27 + 1)), .int (f_asksOf s27.1 (nI i27) C)]) O (xx_dt dd_X5_cheapest 39 rfl) rfl (nI_1 _) (by decide) rfl ?_
          refine sw_goto (tgt := 27) O (xx_dt dd_X5_cheapest 40 rfl) (by decide) ?_
          refine sw_dum (ls2 := [.ref 1006, .ref 1001, .int (nI ch), .int (nI (2 ^ C - 1)), .int (nI i27), .int (f_asksOf s27.1 (nI i27) C), .int (nI (i27 + 1)), xx_d]) ⟨.inr rfl, .inr rfl, .inr rfl, .inr rfl, .inr rfl, .inr rfl, .inr rfl, .inl rfl, trivial⟩ ?_
          simp only [if_neg q2, if_neg q3] at kk27
          exact kk27
  · show SW Y _ _ (setC ((x_cheapest_27 σ ch C rg (g_findDisturbed σ C rg, nI (2 ^ C - 1), f_asksOf (g_findDisturbed σ C rg) (nI (2 ^ C - 1)) C)).1) h) 27 [.ref 1006, .ref 1001, .int (nI ch), .int (nI (2 ^ C - 1)), .int ((x_cheapest_27 σ ch C rg (g_findDisturbed σ C rg, nI (2 ^ C - 1), f_asksOf (g_findDisturbed σ C rg) (nI (2 ^ C - 1)) C)).2.1), .int ((x_cheapest_27 σ ch C rg (g_findDisturbed σ C rg, nI (2 ^ C - 1), f_asksOf (g_findDisturbed σ C rg) (nI (2 ^ C - 1)) C)).2.2), .int (nI ((2 ^ C - 1))), xx_d] []
    refine sw_iload O (xx_dt dd_X5_cheapest 18 rfl) rfl ?_
    refine sw_iload_n O (xx_dt dd_X5_cheapest 19 rfl) rfl ?_
    refine sw_icmp_ge (tgt := 74) O (xx_dt dd_X5_cheapest 20 rfl) (by decide) (fun q1 => ?_) (fun q1 => ?_)
    · refine sw_iload O (xx_dt dd_X5_cheapest 41 rfl) rfl ?_
      exact sw_iret O (xx_dt dd_X5_cheapest 42 rfl) rfl rfl (by rw [hQ]; exact ⟨by unfold f_cheapest; rfl, by unfold g_cheapest; rfl⟩)
    · exact absurd (Int32.le_refl _) q1
theorem fr_cheapest {σ : XS9} {ch C : Nat} {rg : Nat → Nat} {q : Nat} (h : q ≠ 1152 ∧ q ≠ 1153) : g_cheapest σ ch C rg q = σ q := by
  have H : ∀ s0, (x_cheapest_27 σ ch C rg s0).1 q = s0.1 q := fun s0 => xit_keep (fun s : XS9 × Int32 × Int32 => s.1 q) (fun i s => by (try dsimp only); (repeat' split) <;> (try dsimp only) <;> first | rfl | exact fr_packAgain h.2) _ _ _
  unfold g_cheapest
  exact (H _).trans (fr_findDisturbed h.1)
theorem fr_packM {σ : XS9} {x : Int32} {ch C : Nat} {rg : Nat → Nat} {q : Nat} (h : q ≠ 1152 ∧ q ≠ 1153) : g_pack σ x ch C rg q = σ q := by
  unfold g_pack
  rw [fr_packAgain h.2, fr_findDisturbed h.1]
end
