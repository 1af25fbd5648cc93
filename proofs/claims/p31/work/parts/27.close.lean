/-! ===== the end of the clock ===== -/
def x_endClock_7 (σ : XS9) (R B K : Nat) (gr : Nat → Nat) (s0 : XS9) : XS9 := xit (fun i7 s7 => (if (s7 (2000 + 2) i7) = 0 then s7 else g_addM s7 i7 (s7 (2000 + 2) i7) (f_lastValue s7 2000 (s7 (2000 + 2) i7) K) R B gr (fun j => cn (s7 1020 j)))) B 0 s0
def g_endClock (σ : XS9) (R B K : Nat) (gr : Nat → Nat) : XS9 := g_find (x_endClock_7 σ R B K gr (u2 σ 1000 7 2))
theorem ct_X7_endClock {l : Launch} {h : XH} (hl : l.stackTraces = false) {σ : XS9} {R : Nat} (hR : σ 1001 4 = nI R) (hR5 : R ≤ 5) {B : Nat} (hB : σ 1001 9 = nI B) (hB6 : B ≤ 6) {gr : Nat → Nat} (hgr : ∀ i, i < 6 → σ 1017 i = nI (gr i) ∧ gr i < 4) {K : Nat} (hK : σ 2000 9 = nI (K + 1)) (hK60 : K < 60) (hxc : XCT σ) : XEx l m_X7_endClock 10 0 0 [.ref 1000] (setC σ h) (none) (setC (g_endClock σ R B K gr) h) := by
  refine XMet.of hl rfl rfl (Nat.le_of_ble_eq_true rfl) (fun Y O hh hQ => ?_)
  show SW Y 0 0 (setC σ h) 0 [.ref 1000, xx_d, xx_d] []
  refine sw_aload_n O (xx_dt dd_X7_endClock 0 rfl) rfl ?_
  refine sw_iconst (x := 2) O (xx_dt dd_X7_endClock 1 rfl) (by decide) ?_
  refine sw_put (h2 := setC (u2 σ 1000 7 2) h) O (xx_dt dd_X7_endClock 2 rfl) cl_X7 fl_X7_54 (ly_1000 σ h) (by decide) (by decide) rfl (fun _ => ⟨rfl, rfl⟩) pu_1000_7 ?_
  refine sw_iconst (x := 0) O (xx_dt dd_X7_endClock 3 rfl) (by decide) ?_
  refine sw_istore_n (ls2 := [.ref 1000, .int 0, xx_d]) O (xx_dt dd_X7_endClock 4 rfl) (by decide) rfl ?_
  refine sw_for (fun i7 s7 => (if (s7 (2000 + 2) i7) = 0 then s7 else g_addM s7 i7 (s7 (2000 + 2) i7) (f_lastValue s7 2000 (s7 (2000 + 2) i7) K) R B gr (fun j => cn (s7 1020 j)))) (fun _ s7 => s7 1001 4 = nI R ∧ s7 1001 9 = nI B ∧ s7 2000 9 = nI (K + 1) ∧ s7 1017 = σ 1017 ∧ XCT s7) (hp := fun s7 => setC s7 h) (hd := 7) (lc := fun i7 s7 => [.ref 1000, .int (nI i7), xx_d]) (N := B) (fun i7 s7 hi7 hP7 => ⟨(by (try dsimp only); (repeat' split) <;> (refine ⟨?_, ?_, ?_, ?_, ?_⟩ <;> (first | exact hP7.1 | exact hP7.2.1 | exact hP7.2.2.1 | exact hP7.2.2.2.1 | exact hP7.2.2.2.2 | exact XCT.add hP7.2.2.2.2 (by omega) (fun i9 hi9 => (hgr i9 hi9).2) | exact (by rw [fr_addM ⟨by omega, by omega, fun i9 hi9 => (hgr i9 hi9).2⟩ (hP7.2.2.2.2 _ (by omega)).2]; first | exact hP7.1 | exact hP7.2.1 | exact hP7.2.2.1 | exact hP7.2.2.2.1) | exact hi7 | exact .inl rfl | exact .inr rfl | (simp (disch := omega) only [u2_ne, uR_ne, fr_fill, fr_useWaiver, fr_undoContradictions, fr_lowerEligible, fr_moveHeld, fr_raisePrices, fr_begin, fr_closeRound, fr_moveTaken, fr_findDisturbed, fr_addRegion, fr_addBidder, fr_take, fr_giveBack, fr_keepIfBetter, fr_findWinners, fr_leaveOut, fr_raiseEach, fr_raiseOutside, fr_find]; first | exact hP7.1 | exact hP7.2.1 | exact hP7.2.2.1 | exact hP7.2.2.2.1 | exact hP7.2.2.2.2 | exact XCT.add hP7.2.2.2.2 (by omega) (fun i9 hi9 => (hgr i9 hi9).2) | exact (by rw [fr_addM ⟨by omega, by omega, fun i9 hi9 => (hgr i9 hi9).2⟩ (hP7.2.2.2.2 _ (by omega)).2]; first | exact hP7.1 | exact hP7.2.1 | exact hP7.2.2.1 | exact hP7.2.2.2.1))))), fun kk7 => ?_⟩) B 0 (u2 σ 1000 7 2) (by omega) (⟨hR, hB, hK, rfl, hxc.of rfl⟩) (fun hP7 => ?_)
  · refine sw_iload_n O (xx_dt dd_X7_endClock 5 rfl) rfl ?_
    refine sw_aload_n O (xx_dt dd_X7_endClock 6 rfl) rfl ?_
    refine sw_get (v := .ref 1001) O (xx_dt dd_X7_endClock 7 rfl) cl_X7 fl_X7_12 (ly_1000 s7 h) (by decide) rfl ?_
    refine sw_get (v := .int (nI B)) O (xx_dt dd_X7_endClock 8 rfl) cl_X6 fl_X7_100 (ly_1001 s7 h) (by decide) (congrArg Value.int hP7.2.1) ?_
    refine sw_icmp_ge (tgt := 59) O (xx_dt dd_X7_endClock 9 rfl) (by decide) (fun q1 => ?_) (fun q1 => ?_)
    · exact absurd q1 (nI_ge (b := B) hi7 (by omega))
    · refine sw_aload_n O (xx_dt dd_X7_endClock 10 rfl) rfl ?_
      refine sw_get (v := .ref 2000) O (xx_dt dd_X7_endClock 11 rfl) cl_X7 fl_X7_19 (ly_1000 s7 h) (by decide) rfl ?_
      refine sw_get (v := .ref (2000 + 2)) O (xx_dt dd_X7_endClock 12 rfl) cl_X1 fl_X7_249 (lk_0 s7 h (.inl rfl)) (by decide) rfl ?_
      refine sw_iload_n O (xx_dt dd_X7_endClock 13 rfl) rfl ?_
      refine sw_iaload (v := .int (s7 (2000 + 2) i7)) O (xx_dt dd_X7_endClock 14 rfl) (lk_2 s7 h (.inl rfl)) (pk_in i7 _ (by omega)) (by rw [nI_clamp (by omega)]; try exact rfl) ?_
      refine sw_istore_n (ls2 := [.ref 1000, .int (nI i7), .int (s7 (2000 + 2) i7)]) O (xx_dt dd_X7_endClock 15 rfl) (by decide) rfl ?_
      refine sw_iload_n O (xx_dt dd_X7_endClock 16 rfl) rfl ?_
      refine sw_if_eq (tgt := 53) O (xx_dt dd_X7_endClock 17 rfl) (by decide) (fun q2 => ?_) (fun q2 => ?_)
      · refine sw_iinc (y := nI (i7 + 1)) (ls2 := [.ref 1000, .int (nI (i7 + 1)), .int (s7 (2000 + 2) i7)]) O (xx_dt dd_X7_endClock 29 rfl) rfl (nI_1 _) (by decide) rfl ?_
        refine sw_goto (tgt := 7) O (xx_dt dd_X7_endClock 30 rfl) (by decide) ?_
        refine sw_dum (ls2 := [.ref 1000, .int (nI (i7 + 1)), xx_d]) ⟨.inr rfl, .inr rfl, .inl rfl, trivial⟩ ?_
        simp only [if_pos q2] at kk7
        exact kk7
      · refine sw_aload_n O (xx_dt dd_X7_endClock 18 rfl) rfl ?_
        refine sw_get (v := .ref 1003) O (xx_dt dd_X7_endClock 19 rfl) cl_X7 fl_X7_29 (ly_1000 s7 h) (by decide) rfl ?_
        refine sw_aload_n O (xx_dt dd_X7_endClock 20 rfl) rfl ?_
        refine sw_get (v := .ref 1001) O (xx_dt dd_X7_endClock 21 rfl) cl_X7 fl_X7_12 (ly_1000 s7 h) (by decide) rfl ?_
        refine sw_iload_n O (xx_dt dd_X7_endClock 22 rfl) rfl ?_
        refine sw_iload_n O (xx_dt dd_X7_endClock 23 rfl) rfl ?_
        refine sw_aload_n O (xx_dt dd_X7_endClock 24 rfl) rfl ?_
        refine sw_get (v := .ref 2000) O (xx_dt dd_X7_endClock 25 rfl) cl_X7 fl_X7_19 (ly_1000 s7 h) (by decide) rfl ?_
        refine sw_iload_n O (xx_dt dd_X7_endClock 26 rfl) rfl ?_
        refine sw_callVx (as := [.int (s7 (2000 + 2) i7)]) (st := [.int (s7 (2000 + 2) i7), .int (nI i7), .ref 1001, .ref 1003]) (st2 := [.int (f_lastValue s7 2000 (s7 (2000 + 2) i7) K), .int (s7 (2000 + 2) i7), .int (nI i7), .ref 1001, .ref 1003]) O (ct_X1_lastValue hl (σ := s7) (b := 2000) (.inl rfl) (c := s7 (2000 + 2) i7) (K := K) hP7.2.2.1 (by omega)) ce_X1_lastValue ml_X7_384 iv_X1_lastValue cl_X1 rfl (lk_0 s7 h (.inl rfl)) (xx_dt dd_X7_endClock 27 rfl) (by first | decide | omega) rfl rfl (Nat.le_of_ble_eq_true rfl) rfl ?_
        refine sw_callVx (as := [.ref 1001, .int (nI i7), .int (s7 (2000 + 2) i7), .int (f_lastValue s7 2000 (s7 (2000 + 2) i7) K)]) (st := []) (st2 := []) O (ct_X2_add hl (σ := s7) (R := R) hP7.1 (by omega) (B := B) hP7.2.1 (by omega) (gr := gr) (fun j9 hj9 => by rw [show s7 1017 = σ 1017 from hP7.2.2.2.1]; exact hgr j9 hj9) (cnt := fun j => cn (s7 1020 j)) hP7.2.2.2.2 (i := i7) (x := s7 (2000 + 2) i7) (y := f_lastValue s7 2000 (s7 (2000 + 2) i7) K) (by omega)) ce_X2_add ml_X7_182 iv_X2_add cl_X2 rfl (ly_1003 s7 h) (xx_dt dd_X7_endClock 28 rfl) (by first | decide | omega) rfl rfl (Nat.le_of_ble_eq_true rfl) rfl ?_
        refine sw_iinc (y := nI (i7 + 1)) (ls2 := [.ref 1000, .int (nI (i7 + 1)), .int (s7 (2000 + 2) i7)]) O (xx_dt dd_X7_endClock 29 rfl) rfl (nI_1 _) (by decide) rfl ?_
        refine sw_goto (tgt := 7) O (xx_dt dd_X7_endClock 30 rfl) (by decide) ?_
        refine sw_dum (ls2 := [.ref 1000, .int (nI (i7 + 1)), xx_d]) ⟨.inr rfl, .inr rfl, .inl rfl, trivial⟩ ?_
        simp only [if_neg q2] at kk7
        exact kk7
  · show SW Y _ _ (setC (x_endClock_7 σ R B K gr (u2 σ 1000 7 2)) h) 7 [.ref 1000, .int (nI B), xx_d] []
    have hP7 : (x_endClock_7 σ R B K gr (u2 σ 1000 7 2)) 1001 4 = nI R ∧ (x_endClock_7 σ R B K gr (u2 σ 1000 7 2)) 1001 9 = nI B ∧ (x_endClock_7 σ R B K gr (u2 σ 1000 7 2)) 2000 9 = nI (K + 1) ∧ (x_endClock_7 σ R B K gr (u2 σ 1000 7 2)) 1017 = σ 1017 ∧ XCT (x_endClock_7 σ R B K gr (u2 σ 1000 7 2)) := hP7
    refine sw_iload_n O (xx_dt dd_X7_endClock 5 rfl) rfl ?_
    refine sw_aload_n O (xx_dt dd_X7_endClock 6 rfl) rfl ?_
    refine sw_get (v := .ref 1001) O (xx_dt dd_X7_endClock 7 rfl) cl_X7 fl_X7_12 (ly_1000 (x_endClock_7 σ R B K gr (u2 σ 1000 7 2)) h) (by decide) rfl ?_
    refine sw_get (v := .int (nI B)) O (xx_dt dd_X7_endClock 8 rfl) cl_X6 fl_X7_100 (ly_1001 (x_endClock_7 σ R B K gr (u2 σ 1000 7 2)) h) (by decide) (congrArg Value.int hP7.2.1) ?_
    refine sw_icmp_ge (tgt := 59) O (xx_dt dd_X7_endClock 9 rfl) (by decide) (fun q1 => ?_) (fun q1 => ?_)
    · refine sw_aload_n O (xx_dt dd_X7_endClock 31 rfl) rfl ?_
      refine sw_get (v := .ref 1004) O (xx_dt dd_X7_endClock 32 rfl) cl_X7 fl_X7_36 (ly_1000 (x_endClock_7 σ R B K gr (u2 σ 1000 7 2)) h) (by decide) rfl ?_
      refine sw_aload_n O (xx_dt dd_X7_endClock 33 rfl) rfl ?_
      refine sw_get (v := .ref 1003) O (xx_dt dd_X7_endClock 34 rfl) cl_X7 fl_X7_29 (ly_1000 (x_endClock_7 σ R B K gr (u2 σ 1000 7 2)) h) (by decide) rfl ?_
      refine sw_callVx (as := [.ref 1003]) (st := []) (st2 := []) O (ct_X4_find hl (σ := (x_endClock_7 σ R B K gr (u2 σ 1000 7 2)))) ce_X4_find ml_X7_186 iv_X4_find cl_X4 rfl (ly_1004 (x_endClock_7 σ R B K gr (u2 σ 1000 7 2)) h) (xx_dt dd_X7_endClock 35 rfl) (by first | decide | omega) rfl rfl (Nat.le_of_ble_eq_true rfl) rfl ?_
      exact sw_ret O (xx_dt dd_X7_endClock 36 rfl) rfl (by rw [hQ]; exact ⟨rfl, by unfold g_endClock; rfl⟩)
    · exact absurd (Int32.le_refl _) q1
theorem endClock_loop {σ : XS9} {R B K : Nat} {gr : Nat → Nat} (hB6 : B ≤ 6) (hg : ∀ i, i < 6 → gr i < 4) {s0 : XS9} (hc : XCT s0) : XCT (x_endClock_7 σ R B K gr s0) ∧ ∀ q, (q < 1020 ∨ 1124 < q) → x_endClock_7 σ R B K gr s0 q = s0 q := by
  unfold x_endClock_7
  refine xit_inv (fun s => XCT s ∧ ∀ q, (q < 1020 ∨ 1124 < q) → s q = s0 q) (N := B) (fun i s hi hP => ?_) B 0 s0 (by omega) ⟨hc, fun _ _ => rfl⟩
  (try dsimp only)
  split
  · exact hP
  · exact ⟨XCT.add hP.1 (by omega) hg, fun q hq => (fr_addM ⟨by omega, hq, hg⟩ (hP.1 _ (by omega)).2).trans (hP.2 q hq)⟩
theorem fr_endClock {σ : XS9} {R B K : Nat} {gr : Nat → Nat} (hB6 : B ≤ 6) (hg : ∀ i, i < 6 → gr i < 4) (hc : XCT σ) : XCT (g_endClock σ R B K gr) ∧ ∀ q, (q ≠ 1000 ∧ (q < 1020 ∨ 1124 < q) ∧ q ≠ 1131 ∧ q ≠ 1132 ∧ q ≠ 1133) → g_endClock σ R B K gr q = σ q := by
  have H := endClock_loop (σ := σ) (R := R) (K := K) hB6 hg (s0 := u2 σ 1000 7 2) (hc.of rfl)
  unfold g_endClock
  refine ⟨H.1.of (fr_find (by omega)), fun q h => ?_⟩
  rw [fr_find (by omega), H.2 q h.2.1, u2_ne h.1]
def XK (σ : XS9) : Prop := σ 2000 9 = nI (cn (σ 2000 9)) ∧ cn (σ 2000 9) ≤ 60
def IC (σ : XS9) (R B : Nat) (s : XS9) : Prop := s 1001 4 = nI R ∧ s 1001 9 = nI B ∧ s 1017 = σ 1017 ∧ XCT s ∧ XK s
theorem rounds_closeRound' {σ : XS9} {b B R K : Nat} {x : Int32} (hK : K ≤ 60) (hk : σ b 9 = nI K) : g_closeRound σ b x B R K b 9 = nI (min K 59 + 1) := by
  by_cases h : K < 60
  · rw [rounds_closeRound h]
    congr 1
    omega
  · obtain rfl : K = 60 := by omega
    unfold g_closeRound
    rw [if_neg (by decide)]
    exact hk
theorem IC.close {σ : XS9} {R B : Nat} {s : XS9} {x : Int32} (h : IC σ R B s) : IC σ R B (g_closeRound s 2000 x B R (cn (s 2000 9))) := by
  have h60 := h.2.2.2.2.2
  refine ⟨(congrFun (fr_closeRound (by omega)) 4).trans h.1, (congrFun (fr_closeRound (by omega)) 9).trans h.2.1, (fr_closeRound (by omega)).trans h.2.2.1, h.2.2.2.1.of (fr_closeRound (by omega)), ?_⟩
  unfold XK
  rw [rounds_closeRound' h60 h.2.2.2.2.1, cn_nI (by omega)]
  exact ⟨rfl, by omega⟩
theorem IC.endC {σ : XS9} {R B K : Nat} {gr : Nat → Nat} {s : XS9} (hB6 : B ≤ 6) (hg : ∀ i, i < 6 → gr i < 4) (h : IC σ R B s) : IC σ R B (g_endClock s R B K gr) := by
  have H := fr_endClock (R := R) (K := K) hB6 hg h.2.2.2.1
  refine ⟨(congrFun (H.2 _ (by omega)) 4).trans h.1, (congrFun (H.2 _ (by omega)) 9).trans h.2.1, (H.2 _ (by omega)).trans h.2.2.1, H.1, ?_⟩
  unfold XK
  rw [H.2 2000 (by omega)]
  exact h.2.2.2.2
theorem close_pres {σ : XS9} {R B : Nat} {gr : Nat → Nat} {s14 : XS9} (hB6 : B ≤ 6) (hg : ∀ i, i < 6 → gr i < 4) (h : IC σ R B s14) :
    (∀ s', (if (s14 1000 7) = 1 then (if (f_closeRound s14 2000 (s14 1000 8) B R (cn (s14 2000 9))) = 0 then .inl (g_closeRound s14 2000 (s14 1000 8) B R (cn (s14 2000 9))) else .inl (g_endClock (g_closeRound s14 2000 (s14 1000 8) B R (cn (s14 2000 9))) R B (min (cn (s14 2000 9)) 59) gr)) else .inr s14 : XS9 ⊕ XS9) = .inl s' → IC σ R B s') ∧
    ∀ s', (if (s14 1000 7) = 1 then (if (f_closeRound s14 2000 (s14 1000 8) B R (cn (s14 2000 9))) = 0 then .inl (g_closeRound s14 2000 (s14 1000 8) B R (cn (s14 2000 9))) else .inl (g_endClock (g_closeRound s14 2000 (s14 1000 8) B R (cn (s14 2000 9))) R B (min (cn (s14 2000 9)) 59) gr)) else .inr s14 : XS9 ⊕ XS9) = .inr s' → IC σ R B s' := by
  refine ⟨fun s' e => ?_, fun s' e => ?_⟩
  · by_cases c1 : s14 1000 7 = 1
    · rw [if_pos c1] at e
      by_cases c2 : f_closeRound s14 2000 (s14 1000 8) B R (cn (s14 2000 9)) = 0
      · rw [if_pos c2] at e
        rw [← Sum.inl.inj e]
        exact h.close
      · rw [if_neg c2] at e
        rw [← Sum.inl.inj e]
        exact h.close.endC hB6 hg
    · rw [if_neg c1] at e
      exact absurd e (by intro e; cases e)
  · by_cases c1 : s14 1000 7 = 1
    · rw [if_pos c1] at e
      by_cases c2 : f_closeRound s14 2000 (s14 1000 8) B R (cn (s14 2000 9)) = 0
      · rw [if_pos c2] at e
        exact absurd e (by intro e; cases e)
      · rw [if_neg c2] at e
        exact absurd e (by intro e; cases e)
    · rw [if_neg c1] at e
      rw [← Sum.inr.inj e]
      exact h
def x_close_14 (σ : XS9) (x : Int32) (R B : Nat) (gr : Nat → Nat) (s0 : XS9) : XS9 := xitB (fun i14 s14 => (if (s14 1000 7) = 1 then (if (f_closeRound s14 2000 (s14 1000 8) B R (cn (s14 2000 9))) = 0 then .inl (g_closeRound s14 2000 (s14 1000 8) B R (cn (s14 2000 9))) else .inl (g_endClock (g_closeRound s14 2000 (s14 1000 8) B R (cn (s14 2000 9))) R B (min (cn (s14 2000 9)) 59) gr)) else .inr s14)) (cn x) 0 s0
def o_close (σ : XS9) (x : Int32) (R B : Nat) (gr : Nat → Nat) : Int32 ⊕ String := (if n_bt x 1 9 then (if σ 1000 7 = 1 then .inl ((x_close_14 σ x R B gr σ) 1000 7) else .inr eISE) else .inr eIAE)
def g_close (σ : XS9) (x : Int32) (R B : Nat) (gr : Nat → Nat) : XS9 := (if n_bt x 1 9 then (if σ 1000 7 = 1 then (x_close_14 σ x R B gr σ) else σ) else σ)
theorem ct_X7_close {l : Launch} {h : XH} (hl : l.stackTraces = false) {σ : XS9} {R : Nat} (hR : σ 1001 4 = nI R) (hR5 : R ≤ 5) {B : Nat} (hB : σ 1001 9 = nI B) (hB6 : B ≤ 6) {gr : Nat → Nat} (hgr : ∀ i, i < 6 → σ 1017 i = nI (gr i) ∧ gr i < 4) (hxc : XCT σ) (hxk : XK σ) {x : Int32} : XEo l m_X7_close 11 1 6 [.ref 1000, .int x] (setC σ h) ((xoi (o_close σ x R B gr))) (setC (g_close σ x R B gr) h) := by
  refine XMet.of hl rfl rfl (Nat.le_of_ble_eq_true rfl) (fun Y O hh hQ => ?_)
  show SW Y 1 6 (setC σ h) 0 [.ref 1000, .int x, xx_d] []
  refine sw_iload_n O (xx_dt dd_X7_close 0 rfl) rfl ?_
  refine sw_iconst (x := 1) O (xx_dt dd_X7_close 1 rfl) (by decide) ?_
  refine sw_bipush (x := 9) O (xx_dt dd_X7_close 2 rfl) (by decide) ?_
  by_cases q1 : n_bt x 1 9
  · refine sw_callSx (as := [.int x, .int 1, .int 9]) (st := []) (st2 := []) (k' := 0) (n' := 0) O (ct_X7_needBetween_ok hl  q1) ce_X7_needBetween ml_X7_61 st_X7_needBetween (xx_dt dd_X7_close 3 rfl) (by decide) rfl rfl (Nat.le_of_ble_eq_true rfl) rfl ?_
    refine sw_lsE (ls2 := [.ref 1000, .int (nI (cn x)), xx_d]) (by rw [← (bt_nat 9 q1 (by decide) (by decide) (by decide)).1]) ?_
    have hvq1 := (bt_nat 9 q1 (by decide) (by decide) (by decide)).2
    refine sw_aload_n O (xx_dt dd_X7_close 4 rfl) rfl ?_
    refine sw_iconst (x := 1) O (xx_dt dd_X7_close 5 rfl) (by decide) ?_
    by_cases q2 : σ 1000 7 = 1
    · refine sw_callVx (as := [.int 1]) (st := []) (st2 := []) (k' := 0) (n' := 0) O (ct_X7_needStage_ok hl (σ := σ) q2) ce_X7_needStage ml_X7_65 iv_X7_needStage cl_X7 rfl (ly_1000 σ h) (xx_dt dd_X7_close 6 rfl) (by decide) rfl rfl (Nat.le_of_ble_eq_true rfl) rfl ?_
      refine sw_iconst (x := 0) O (xx_dt dd_X7_close 7 rfl) (by decide) ?_
      refine sw_istore_n (ls2 := [.ref 1000, .int (nI (cn x)), .int 0]) O (xx_dt dd_X7_close 8 rfl) (by decide) rfl ?_
      refine sw_forB (fun i14 s14 => (if (s14 1000 7) = 1 then (if (f_closeRound s14 2000 (s14 1000 8) B R (cn (s14 2000 9))) = 0 then .inl (g_closeRound s14 2000 (s14 1000 8) B R (cn (s14 2000 9))) else .inl (g_endClock (g_closeRound s14 2000 (s14 1000 8) B R (cn (s14 2000 9))) R B (min (cn (s14 2000 9)) 59) gr)) else .inr s14)) (fun _ s14 => IC σ R B s14) (fun s14 => IC σ R B s14) (hp := fun s14 => setC s14 h) (hd := 14) (lc := fun i14 s14 => [.ref 1000, .int (nI (cn x)), .int (nI i14)]) (ex := 55) (lx := fun s14 => [.ref 1000, .int (nI (cn x)), xx_d]) (N := (cn x)) (fun i14 s14 hi14 hP14 => ⟨(close_pres hB6 (fun i9 hi9 => (hgr i9 hi9).2) hP14), fun kk14 kb14 => ?_⟩) (fun s14 hP14 => ⟨hP14, fun kx14 => ?_⟩) (cn x) 0 σ (by omega) (⟨hR, hB, rfl, hxc, hxk⟩) (fun hP14 => ?_)
      · refine sw_iload_n O (xx_dt dd_X7_close 9 rfl) rfl ?_
        refine sw_iload_n O (xx_dt dd_X7_close 10 rfl) rfl ?_
        refine sw_icmp_ge (tgt := 55) O (xx_dt dd_X7_close 11 rfl) (by decide) (fun q3 => ?_) (fun q3 => ?_)
        · exact absurd q3 (nI_ge (b := (cn x)) hi14 (by omega))
        · have hk60 := hP14.2.2.2.2.2
          refine sw_aload_n O (xx_dt dd_X7_close 12 rfl) rfl ?_
          refine sw_get (v := .int (s14 1000 7)) O (xx_dt dd_X7_close 13 rfl) cl_X7 fl_X7_54 (ly_1000 s14 h) (by decide) rfl ?_
          refine sw_iconst (x := 1) O (xx_dt dd_X7_close 14 rfl) (by decide) ?_
          refine sw_icmp_ne (tgt := 55) O (xx_dt dd_X7_close 15 rfl) (by decide) (fun q4 => ?_) (fun q4 => ?_)
          · refine sw_dum (ls2 := [.ref 1000, .int (nI (cn x)), xx_d]) ⟨.inr rfl, .inr rfl, .inl rfl, trivial⟩ ?_
            exact kb14 s14 (by simp only [if_neg q4])
          · refine sw_aload_n O (xx_dt dd_X7_close 16 rfl) rfl ?_
            refine sw_get (v := .ref 2000) O (xx_dt dd_X7_close 17 rfl) cl_X7 fl_X7_19 (ly_1000 s14 h) (by decide) rfl ?_
            refine sw_aload_n O (xx_dt dd_X7_close 18 rfl) rfl ?_
            refine sw_get (v := .ref 1001) O (xx_dt dd_X7_close 19 rfl) cl_X7 fl_X7_12 (ly_1000 s14 h) (by decide) rfl ?_
            refine sw_aload_n O (xx_dt dd_X7_close 20 rfl) rfl ?_
            refine sw_get (v := .int (s14 1000 8)) O (xx_dt dd_X7_close 21 rfl) cl_X7 fl_X7_58 (ly_1000 s14 h) (by decide) rfl ?_
            refine sw_callVx (as := [.ref 1001, .int (s14 1000 8)]) (st := []) (st2 := [.int (f_closeRound s14 2000 (s14 1000 8) B R (cn (s14 2000 9)))]) O (ct_X1_closeRound hl (σ := s14) (b := 2000) (.inl rfl) (B := B) hP14.2.1 (by omega) (R := R) hP14.1 (by omega) (K := cn (s14 2000 9)) hP14.2.2.2.2.1 (by omega) (x := s14 1000 8)) ce_X1_closeRound ml_X7_161 iv_X1_closeRound cl_X1 rfl (lk_0 s14 h (.inl rfl)) (xx_dt dd_X7_close 22 rfl) (by first | decide | omega) rfl rfl (Nat.le_of_ble_eq_true rfl) rfl ?_
            refine sw_if_eq (tgt := 49) O (xx_dt dd_X7_close 23 rfl) (by decide) (fun q5 => ?_) (fun q5 => ?_)
            · refine sw_iinc (y := nI (i14 + 1)) (ls2 := [.ref 1000, .int (nI (cn x)), .int (nI (i14 + 1))]) O (xx_dt dd_X7_close 26 rfl) rfl (nI_1 _) (by decide) rfl ?_
              refine sw_goto (tgt := 14) O (xx_dt dd_X7_close 27 rfl) (by decide) ?_
              exact kk14 (g_closeRound s14 2000 (s14 1000 8) B R (cn (s14 2000 9))) (by simp only [if_pos q4, if_pos q5])
            · refine sw_aload_n O (xx_dt dd_X7_close 24 rfl) rfl ?_
              refine sw_callVx (as := []) (st := []) (st2 := []) O (ct_X7_endClock hl (σ := g_closeRound s14 2000 (s14 1000 8) B R (cn (s14 2000 9))) (R := R) ((congrFun (fr_closeRound (by omega)) 4).trans hP14.1) (by omega) (B := B) ((congrFun (fr_closeRound (by omega)) 9).trans hP14.2.1) (by omega) (gr := gr) (fun j9 hj9 => by rw [show (g_closeRound s14 2000 (s14 1000 8) B R (cn (s14 2000 9))) 1017 = σ 1017 from ((fr_closeRound (by omega)).trans hP14.2.2.1)]; exact hgr j9 hj9) (K := min (cn (s14 2000 9)) 59) (rounds_closeRound' (by omega) hP14.2.2.2.2.1) (by omega) (hP14.2.2.2.1.of (fr_closeRound (by omega)))) ce_X7_endClock ml_X7_165 iv_X7_endClock cl_X7 rfl (ly_1000 (g_closeRound s14 2000 (s14 1000 8) B R (cn (s14 2000 9))) h) (xx_dt dd_X7_close 25 rfl) (by first | decide | omega) rfl rfl (Nat.le_of_ble_eq_true rfl) rfl ?_
              refine sw_iinc (y := nI (i14 + 1)) (ls2 := [.ref 1000, .int (nI (cn x)), .int (nI (i14 + 1))]) O (xx_dt dd_X7_close 26 rfl) rfl (nI_1 _) (by decide) rfl ?_
              refine sw_goto (tgt := 14) O (xx_dt dd_X7_close 27 rfl) (by decide) ?_
              exact kk14 (g_endClock (g_closeRound s14 2000 (s14 1000 8) B R (cn (s14 2000 9))) R B (min (cn (s14 2000 9)) 59) gr) (by simp only [if_pos q4, if_neg q5])
      · show SW Y _ _ (setC s14 h) 14 [.ref 1000, .int (nI (cn x)), .int (nI ((cn x)))] []
        have hP14 : IC σ R B s14 := hP14
        refine sw_iload_n O (xx_dt dd_X7_close 9 rfl) rfl ?_
        refine sw_iload_n O (xx_dt dd_X7_close 10 rfl) rfl ?_
        refine sw_icmp_ge (tgt := 55) O (xx_dt dd_X7_close 11 rfl) (by decide) (fun q3 => ?_) (fun q3 => ?_)
        · refine sw_dum (ls2 := [.ref 1000, .int (nI (cn x)), xx_d]) ⟨.inr rfl, .inr rfl, .inl rfl, trivial⟩ ?_
          exact kx14
        · exact absurd (Int32.le_refl _) q3
      · show SW Y _ _ (setC (x_close_14 σ x R B gr σ) h) 55 [.ref 1000, .int (nI (cn x)), xx_d] []
        refine sw_aload_n O (xx_dt dd_X7_close 28 rfl) rfl ?_
        refine sw_get (v := .int ((x_close_14 σ x R B gr σ) 1000 7)) O (xx_dt dd_X7_close 29 rfl) cl_X7 fl_X7_54 (ly_1000 (x_close_14 σ x R B gr σ) h) (by decide) rfl ?_
        exact sw_iret O (xx_dt dd_X7_close 30 rfl) rfl rfl (by rw [hQ]; exact ⟨by unfold o_close; simp only [if_pos q1, if_pos q2]; rfl, by unfold g_close; simp only [if_pos q1, if_pos q2]⟩)
    · exact sw_callVt (as := [.int 1]) (st := []) (k := 0) (n := 0) (k' := 1) (n' := 6) O (ct_X7_needStage_no hl (σ := σ) q2) ce_X7_needStage ml_X7_65 iv_X7_needStage cl_X7 rfl (ly_1000 σ h) (xx_dt dd_X7_close 6 rfl) (by decide) rfl rfl (Nat.le_of_ble_eq_true rfl)  (by rw [hQ]; exact ⟨by unfold o_close; simp only [if_pos q1, if_neg q2]; rfl, by unfold g_close; simp only [if_pos q1, if_neg q2]⟩)
  · exact sw_callSt (as := [.int x, .int 1, .int 9]) (st := []) (k := 0) (n := 0) (k' := 1) (n' := 6) O (ct_X7_needBetween_no hl  q1) ce_X7_needBetween ml_X7_61 st_X7_needBetween (xx_dt dd_X7_close 3 rfl) (by decide) rfl rfl (Nat.le_of_ble_eq_true rfl)  (by rw [hQ]; exact ⟨by unfold o_close; simp only [if_neg q1]; rfl, by unfold g_close; simp only [if_neg q1]⟩)
def o_offer (σ : XS9) (x y z : Int32) (R B : Nat) (gr cnt : Nat → Nat) : Int32 ⊕ String := (if n_lt x B then (if (f_isCode σ y R) = 0 then .inr eIAE else (if 0 ≤ z then (if σ 1000 7 = 2 then (if 6 ≤ (nI (cnt (cn x))) then .inr eISE else (if (f_mayOffer σ (cn x) y z R) = 0 then .inr eISE else .inl (nI (cnt (cn x))))) else .inr eISE) else .inr eIAE)) else .inr eIOB)
def g_offer (σ : XS9) (x y z : Int32) (R B : Nat) (gr cnt : Nat → Nat) : XS9 := (if n_lt x B then (if (f_isCode σ y R) = 0 then σ else (if 0 ≤ z then (if σ 1000 7 = 2 then (if 6 ≤ (nI (cnt (cn x))) then σ else (if (f_mayOffer σ (cn x) y z R) = 0 then σ else g_find (g_addM σ (cn x) y z R B gr cnt))) else σ) else σ)) else σ)
theorem ct_X7_offer {l : Launch} {h : XH} (hl : l.stackTraces = false) {σ : XS9} {R : Nat} (hR : σ 1001 4 = nI R) (hR5 : R ≤ 5) {B : Nat} (hB : σ 1001 9 = nI B) (hB6 : B ≤ 6) {gr : Nat → Nat} (hgr : ∀ i, i < 6 → σ 1017 i = nI (gr i) ∧ gr i < 4) {cnt : Nat → Nat} (hct : ∀ i, i < 6 → σ 1020 i = nI (cnt i) ∧ cnt i ≤ 6) {x y z : Int32} : XEo l m_X7_offer 10 1 6 [.ref 1000, .int x, .int y, .int z] (setC σ h) ((xoi (o_offer σ x y z R B gr cnt))) (setC (g_offer σ x y z R B gr cnt) h) := by
  refine XMet.of hl rfl rfl (Nat.le_of_ble_eq_true rfl) (fun Y O hh hQ => ?_)
  show SW Y 1 6 (setC σ h) 0 [.ref 1000, .int x, .int y, .int z, xx_d] []
  refine sw_aload_n O (xx_dt dd_X7_offer 0 rfl) rfl ?_
  refine sw_iload_n O (xx_dt dd_X7_offer 1 rfl) rfl ?_
  by_cases q1 : n_lt x B
  · refine sw_callVx (as := [.int x]) (st := []) (st2 := []) (k' := 0) (n' := 0) O (ct_X7_needBidder_ok hl (σ := σ) (B := B) hB (by omega) q1) ce_X7_needBidder ml_X7_124 iv_X7_needBidder cl_X7 rfl (ly_1000 σ h) (xx_dt dd_X7_offer 2 rfl) (by decide) rfl rfl (Nat.le_of_ble_eq_true rfl) rfl ?_
    refine sw_lsE (ls2 := [.ref 1000, .int (nI (cn x)), .int y, .int z, xx_d]) (by rw [← q1.1]) ?_
    have hvq1 := q1.2
    refine sw_aload_n O (xx_dt dd_X7_offer 3 rfl) rfl ?_
    refine sw_get (v := .ref 1001) O (xx_dt dd_X7_offer 4 rfl) cl_X7 fl_X7_12 (ly_1000 σ h) (by decide) rfl ?_
    refine sw_iload_n O (xx_dt dd_X7_offer 5 rfl) rfl ?_
    refine sw_callVx (as := [.int y]) (st := []) (st2 := [.int (f_isCode σ y R)]) O (ct_X6_isCode hl (σ := σ) (c := y) (R := R) hR (by omega)) ce_X6_isCode ml_X7_168 iv_X6_isCode cl_X6 rfl (ly_1001 σ h) (xx_dt dd_X7_offer 6 rfl) (by first | decide | omega) rfl rfl (Nat.le_of_ble_eq_true rfl) rfl ?_
    refine sw_if_eq (tgt := 20) O (xx_dt dd_X7_offer 7 rfl) (by decide) (fun q2 => ?_) (fun q2 => ?_)
    · exact sw_throw (k := 0) (n := 0) O ex_IAE th_X7_offer_20 (xx_dt dd_X7_offer 10 rfl) (xx_dt dd_X7_offer 11 rfl) (xx_dt dd_X7_offer 12 rfl) (xx_dt dd_X7_offer 13 rfl) (xx_dt dd_X7_offer 14 rfl) (by decide) (by decide) (by rw [hQ]; exact ⟨by unfold o_offer; simp only [if_pos q1, if_pos q2]; rfl, by unfold g_offer; simp only [if_pos q1, if_pos q2]⟩)
    · refine sw_iload_n O (xx_dt dd_X7_offer 8 rfl) rfl ?_
      refine sw_if_ge (tgt := 30) O (xx_dt dd_X7_offer 9 rfl) (by decide) (fun q3 => ?_) (fun q3 => ?_)
      · refine sw_aload_n O (xx_dt dd_X7_offer 15 rfl) rfl ?_
        refine sw_iconst (x := 2) O (xx_dt dd_X7_offer 16 rfl) (by decide) ?_
        by_cases q4 : σ 1000 7 = 2
        · refine sw_callVx (as := [.int 2]) (st := []) (st2 := []) (k' := 0) (n' := 0) O (ct_X7_needStage_ok hl (σ := σ) q4) ce_X7_needStage ml_X7_65 iv_X7_needStage cl_X7 rfl (ly_1000 σ h) (xx_dt dd_X7_offer 17 rfl) (by decide) rfl rfl (Nat.le_of_ble_eq_true rfl) rfl ?_
          refine sw_aload_n O (xx_dt dd_X7_offer 18 rfl) rfl ?_
          refine sw_get (v := .ref 1003) O (xx_dt dd_X7_offer 19 rfl) cl_X7 fl_X7_29 (ly_1000 σ h) (by decide) rfl ?_
          refine sw_get (v := .ref 1020) O (xx_dt dd_X7_offer 20 rfl) cl_X2 fl_X7_173 (ly_1003 σ h) (by decide) rfl ?_
          refine sw_iload_n O (xx_dt dd_X7_offer 21 rfl) rfl ?_
          have hz43 := (hct (cn x) (by omega)).2
          refine sw_iaload (v := .int (nI (cnt (cn x)))) O (xx_dt dd_X7_offer 22 rfl) (ly_1020 σ h) (pk_in (cn x) _ (by omega)) (by rw [nI_clamp (by omega)]; exact (congrArg Value.int (hct (cn x) (by omega)).1)) ?_
          refine sw_bipush (x := 6) O (xx_dt dd_X7_offer 23 rfl) (by decide) ?_
          refine sw_icmp_ge (tgt := 62) O (xx_dt dd_X7_offer 24 rfl) (by decide) (fun q5 => ?_) (fun q5 => ?_)
          · exact sw_throw (k := 0) (n := 0) O ex_ISE th_X7_offer_62 (xx_dt dd_X7_offer 32 rfl) (xx_dt dd_X7_offer 33 rfl) (xx_dt dd_X7_offer 34 rfl) (xx_dt dd_X7_offer 35 rfl) (xx_dt dd_X7_offer 36 rfl) (by decide) (by decide) (by rw [hQ]; exact ⟨by unfold o_offer; simp only [if_pos q1, if_neg q2, if_pos q3, if_pos q4, if_pos q5]; rfl, by unfold g_offer; simp only [if_pos q1, if_neg q2, if_pos q3, if_pos q4, if_pos q5]⟩)
          · refine sw_aload_n O (xx_dt dd_X7_offer 25 rfl) rfl ?_
            refine sw_get (v := .ref 1001) O (xx_dt dd_X7_offer 26 rfl) cl_X7 fl_X7_12 (ly_1000 σ h) (by decide) rfl ?_
            refine sw_iload_n O (xx_dt dd_X7_offer 27 rfl) rfl ?_
            refine sw_iload_n O (xx_dt dd_X7_offer 28 rfl) rfl ?_
            refine sw_iload_n O (xx_dt dd_X7_offer 29 rfl) rfl ?_
            refine sw_callVx (as := [.int (nI (cn x)), .int y, .int z]) (st := []) (st2 := [.int (f_mayOffer σ (cn x) y z R)]) O (ct_X6_mayOffer hl (σ := σ) (c := y) (x := z) (i := cn x) (by omega) (R := R) hR (by omega)) ce_X6_mayOffer ml_X7_176 iv_X6_mayOffer cl_X6 rfl (ly_1001 σ h) (xx_dt dd_X7_offer 30 rfl) (by first | decide | omega) rfl rfl (Nat.le_of_ble_eq_true rfl) rfl ?_
            refine sw_if_ne (tgt := 72) O (xx_dt dd_X7_offer 31 rfl) (by decide) (fun q6 => ?_) (fun q6 => ?_)
            · refine sw_aload_n O (xx_dt dd_X7_offer 37 rfl) rfl ?_
              refine sw_get (v := .ref 1003) O (xx_dt dd_X7_offer 38 rfl) cl_X7 fl_X7_29 (ly_1000 σ h) (by decide) rfl ?_
              refine sw_get (v := .ref 1020) O (xx_dt dd_X7_offer 39 rfl) cl_X2 fl_X7_173 (ly_1003 σ h) (by decide) rfl ?_
              refine sw_iload_n O (xx_dt dd_X7_offer 40 rfl) rfl ?_
              have hz80 := (hct (cn x) (by omega)).2
              refine sw_iaload (v := .int (nI (cnt (cn x)))) O (xx_dt dd_X7_offer 41 rfl) (ly_1020 σ h) (pk_in (cn x) _ (by omega)) (by rw [nI_clamp (by omega)]; exact (congrArg Value.int (hct (cn x) (by omega)).1)) ?_
              refine sw_istore (ls2 := [.ref 1000, .int (nI (cn x)), .int y, .int z, .int (nI (cnt (cn x)))]) O (xx_dt dd_X7_offer 42 rfl) (by decide) rfl ?_
              refine sw_aload_n O (xx_dt dd_X7_offer 43 rfl) rfl ?_
              refine sw_get (v := .ref 1003) O (xx_dt dd_X7_offer 44 rfl) cl_X7 fl_X7_29 (ly_1000 σ h) (by decide) rfl ?_
              refine sw_aload_n O (xx_dt dd_X7_offer 45 rfl) rfl ?_
              refine sw_get (v := .ref 1001) O (xx_dt dd_X7_offer 46 rfl) cl_X7 fl_X7_12 (ly_1000 σ h) (by decide) rfl ?_
              refine sw_iload_n O (xx_dt dd_X7_offer 47 rfl) rfl ?_
              refine sw_iload_n O (xx_dt dd_X7_offer 48 rfl) rfl ?_
              refine sw_iload_n O (xx_dt dd_X7_offer 49 rfl) rfl ?_
              refine sw_callVx (as := [.ref 1001, .int (nI (cn x)), .int y, .int z]) (st := []) (st2 := []) O (ct_X2_add hl (σ := σ) (R := R) hR (by omega) (B := B) hB (by omega) (gr := gr) hgr (cnt := cnt) hct (i := cn x) (x := y) (y := z) (by omega)) ce_X2_add ml_X7_182 iv_X2_add cl_X2 rfl (ly_1003 σ h) (xx_dt dd_X7_offer 50 rfl) (by first | decide | omega) rfl rfl (Nat.le_of_ble_eq_true rfl) rfl ?_
              refine sw_aload_n O (xx_dt dd_X7_offer 51 rfl) rfl ?_
              refine sw_get (v := .ref 1004) O (xx_dt dd_X7_offer 52 rfl) cl_X7 fl_X7_36 (ly_1000 (g_addM σ (cn x) y z R B gr cnt) h) (by decide) rfl ?_
              refine sw_aload_n O (xx_dt dd_X7_offer 53 rfl) rfl ?_
              refine sw_get (v := .ref 1003) O (xx_dt dd_X7_offer 54 rfl) cl_X7 fl_X7_29 (ly_1000 (g_addM σ (cn x) y z R B gr cnt) h) (by decide) rfl ?_
              refine sw_callVx (as := [.ref 1003]) (st := []) (st2 := []) O (ct_X4_find hl (σ := g_addM σ (cn x) y z R B gr cnt)) ce_X4_find ml_X7_186 iv_X4_find cl_X4 rfl (ly_1004 (g_addM σ (cn x) y z R B gr cnt) h) (xx_dt dd_X7_offer 55 rfl) (by first | decide | omega) rfl rfl (Nat.le_of_ble_eq_true rfl) rfl ?_
              refine sw_iload O (xx_dt dd_X7_offer 56 rfl) rfl ?_
              exact sw_iret O (xx_dt dd_X7_offer 57 rfl) rfl rfl (by rw [hQ]; exact ⟨by unfold o_offer; simp only [if_pos q1, if_neg q2, if_pos q3, if_pos q4, if_neg q5, if_neg q6]; rfl, by unfold g_offer; simp only [if_pos q1, if_neg q2, if_pos q3, if_pos q4, if_neg q5, if_neg q6]⟩)
            · exact sw_throw (k := 0) (n := 0) O ex_ISE th_X7_offer_62 (xx_dt dd_X7_offer 32 rfl) (xx_dt dd_X7_offer 33 rfl) (xx_dt dd_X7_offer 34 rfl) (xx_dt dd_X7_offer 35 rfl) (xx_dt dd_X7_offer 36 rfl) (by decide) (by decide) (by rw [hQ]; exact ⟨by unfold o_offer; simp only [if_pos q1, if_neg q2, if_pos q3, if_pos q4, if_neg q5, if_pos q6]; rfl, by unfold g_offer; simp only [if_pos q1, if_neg q2, if_pos q3, if_pos q4, if_neg q5, if_pos q6]⟩)
        · exact sw_callVt (as := [.int 2]) (st := []) (k := 0) (n := 0) (k' := 1) (n' := 6) O (ct_X7_needStage_no hl (σ := σ) q4) ce_X7_needStage ml_X7_65 iv_X7_needStage cl_X7 rfl (ly_1000 σ h) (xx_dt dd_X7_offer 17 rfl) (by decide) rfl rfl (Nat.le_of_ble_eq_true rfl)  (by rw [hQ]; exact ⟨by unfold o_offer; simp only [if_pos q1, if_neg q2, if_pos q3, if_neg q4]; rfl, by unfold g_offer; simp only [if_pos q1, if_neg q2, if_pos q3, if_neg q4]⟩)
      · exact sw_throw (k := 0) (n := 0) O ex_IAE th_X7_offer_20 (xx_dt dd_X7_offer 10 rfl) (xx_dt dd_X7_offer 11 rfl) (xx_dt dd_X7_offer 12 rfl) (xx_dt dd_X7_offer 13 rfl) (xx_dt dd_X7_offer 14 rfl) (by decide) (by decide) (by rw [hQ]; exact ⟨by unfold o_offer; simp only [if_pos q1, if_neg q2, if_neg q3]; rfl, by unfold g_offer; simp only [if_pos q1, if_neg q2, if_neg q3]⟩)
  · exact sw_callVt (as := [.int x]) (st := []) (k := 0) (n := 0) (k' := 1) (n' := 6) O (ct_X7_needBidder_no hl (σ := σ) (B := B) hB (by omega) q1) ce_X7_needBidder ml_X7_124 iv_X7_needBidder cl_X7 rfl (ly_1000 σ h) (xx_dt dd_X7_offer 2 rfl) (by decide) rfl rfl (Nat.le_of_ble_eq_true rfl)  (by rw [hQ]; exact ⟨by unfold o_offer; simp only [if_neg q1]; rfl, by unfold g_offer; simp only [if_neg q1]⟩)
