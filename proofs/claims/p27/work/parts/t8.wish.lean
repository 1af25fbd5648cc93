/-! ===== the clock: its opening, wishes, waivers ===== -/
section
variable {τ τ2 σ σ2 : XS9} {R B g w n : Nat}
theorem put_all {a : Nat} {v : Nat → Int32} {j : Nat} : ∀ (f i : Nat) (s : XS9), (j < i → s a j = v j) → j < i + f → xit (fun i5 (s5 : XS9) => u2 s5 a i5 (v i5)) f i s a j = v j
  | 0, i, s, h1, h2 => h1 (by omega)
  | f + 1, i, s, h1, h2 => put_all f (i + 1) (u2 s a i (v i)) (fun h3 => by
      by_cases e : j = i
      · subst e
        exact u2_at
      · show u2 s a i (v i) a j = v j
        rw [u2_oi e]
        exact h1 (by omega)) (by omega)
theorem Kinit_p {j : Nat} (hj : j < R) : g_Kinit σ 7000 R B 7001 j = σ (5010 + j) 2 := by
  unfold g_Kinit x_Kinit_132
  refine (congrFun (xit_keep (fun s : XS9 => s 7001) (fun i s => by
    (try dsimp only)
    rw [u2_ne (by decide), u2_ne (by decide)]) B 0 _) j).trans ?_
  unfold x_Kinit_95
  exact put_all R 0 _ (fun h => absurd h (by omega)) (by omega)
theorem Kinit_ew {j : Nat} : ∀ (f i : Nat) (s : XS9), (j < i → s 7003 j = σ (5020 + j) 1 ∧ s 7004 j = 2) → j < i + f → xit (fun i132 (s132 : XS9) => u2 (u2 s132 7003 i132 (σ (5020 + i132) 1)) 7004 i132 2) f i s 7003 j = σ (5020 + j) 1 ∧ xit (fun i132 (s132 : XS9) => u2 (u2 s132 7003 i132 (σ (5020 + i132) 1)) 7004 i132 2) f i s 7004 j = 2
  | 0, i, s, h1, h2 => h1 (by omega)
  | f + 1, i, s, h1, h2 => Kinit_ew f (i + 1) (u2 (u2 s 7003 i (σ (5020 + i) 1)) 7004 i 2) (fun h3 => by
      by_cases e : j = i
      · subst e
        rw [u2_ne (show 7003 ≠ 7004 by decide), u2_at, u2_at]
        exact ⟨rfl, rfl⟩
      · rw [u2_ne (show 7003 ≠ 7004 by decide), u2_oi e, u2_oi e, u2_ne (show 7004 ≠ 7003 by decide)]
        exact h1 (by omega)) (by omega)
theorem Kinit_e {j : Nat} (hj : j < B) : g_Kinit σ 7000 R B 7003 j = σ (5020 + j) 1 ∧ g_Kinit σ 7000 R B 7004 j = 2 := by
  unfold g_Kinit x_Kinit_132
  exact Kinit_ew B 0 _ (fun h => absurd h (by omega)) (by omega)
theorem Kinit_o {q : Nat} (h : q ≠ 7001 ∧ q ≠ 7003 ∧ q ≠ 7004) : g_Kinit σ 7000 R B q = g_clk0 σ 7000 q := by
  unfold g_Kinit x_Kinit_132
  refine (xit_keep (fun s : XS9 => s q) (fun i s => by
    (try dsimp only)
    rw [u2_ne h.2.2, u2_ne h.2.1]) B 0 _).trans ?_
  unfold x_Kinit_95
  exact xit_keep (fun s : XS9 => s q) (fun i s => by
    (try dsimp only)
    rw [u2_ne h.1]) R 0 _
theorem clk0_z {q i : Nat} (h : q = 7002 ∨ q = 7005 ∨ q = 7500 ∨ q = 7700) : g_clk0 σ 7000 q i = 0 := by
  have e : g_clk0 σ 7000 q = fun _ => 0 := by
    unfold g_clk0
    (try dsimp only)
    rw [if_neg (by omega), if_pos (by omega)]
  rw [e]
theorem RC.opn (h : RC τ σ) (r : JR τ) (a : RA τ σ) (z : RZ τ) (hR : mR τ = R) (hB : mB τ = B) : RC (g_Mopen τ R B) (g_open σ R B) := by
  have R5 := r.hR.2
  have B6 := r.hB.2
  unfold g_Mopen g_open
  by_cases c1 : σ 1000 7 = 0
  · have c2 : τ 5000 1 = 0 := h.st.symm.trans c1
    rw [if_pos c2, if_pos c1]
    by_cases c3 : R = 0
    · rw [if_pos c3, if_pos (show nI R = 0 by rw [c3]; rfl)]
      exact h.kept r MK.s00 VK.rfl'
    · rw [if_neg c3, if_neg (fun e => c3 (nI_zero (by omega) e))]
      by_cases c4 : B = 0
      · rw [if_pos c4, if_pos (show nI B = 0 by rw [c4]; rfl)]
        exact h.kept r MK.s00 VK.rfl'
      · rw [if_neg c4, if_neg (fun e => c4 (nI_zero (by omega) e))]
        have o := h.off c2
        obtain ⟨t, et⟩ : ∃ t, t = u2 (u2 τ 5000 0 0) 5000 1 1 := ⟨_, rfl⟩
        rw [← et]
        have lo : ∀ q, q < 7000 → u2 (g_Kinit t 7000 R B) 7000 25 1 q = t q := fun q hq => by rw [u2_ne (by omega), fr_Kinit (by omega)]
        have up : ∀ q, q ≠ 7000 → u2 (g_Kinit t 7000 R B) 7000 25 1 q = g_Kinit t 7000 R B q := fun q hq => u2_ne hq
        have hd : ∀ i, i < 20 ∨ 20 < i → i ≠ 25 → u2 (g_Kinit t 7000 R B) 7000 25 1 7000 i = 0 := fun i hi h5 => by
          rw [u2_oi h5, Kinit_o (by decide)]
          show (if i = 20 then (1 : Int32) else if i = 25 then t 7000 25 else 0) = 0
          rw [if_neg (by omega), if_neg h5]
        have tq : ∀ q, q ≠ 5000 → t q = τ q := fun q hq => by rw [et, u2_ne hq, u2_ne hq]
        have k0 : τ 5003 900 = 0 := (r.hp0 c2).2.2
        have eK : mK (u2 (g_Kinit t 7000 R B) 7000 25 1) = 0 := by
          show cn (u2 _ _ _ _ 5003 900) = 0
          rw [lo _ (by decide), tq _ (by decide), k0]
          rfl
        have eR : mR (u2 (g_Kinit t 7000 R B) 7000 25 1) = R := by
          show cn (u2 _ _ _ _ 5001 900) = R
          rw [lo _ (by decide), tq _ (by decide)]
          exact hR
        have eB : mB (u2 (g_Kinit t 7000 R B) 7000 25 1) = B := by
          show cn (u2 _ _ _ _ 5002 900) = B
          rw [lo _ (by decide), tq _ (by decide)]
          exact hB
        have eg : mg (u2 (g_Kinit t 7000 R B) 7000 25 1) = 0 := by
          show cn (u2 _ _ _ _ 7000 23) = 0
          rw [hd _ (by decide) (by decide)]
          rfl
        have ew : mw (u2 (g_Kinit t 7000 R B) 7000 25 1) = 0 := by
          show cn (u2 _ _ _ _ 7000 24) = 0
          rw [hd _ (by decide) (by decide)]
          rfl
        have en : mn (u2 (g_Kinit t 7000 R B) 7000 25 1) = 0 := by
          show cn (u2 _ _ _ _ 7000 21) = 0
          rw [hd _ (by decide) (by decide)]
          rfl
        have cr : ∀ q, q ≠ 1000 → u2 σ 1000 7 1 q = σ q := fun q hq => u2_ne hq
        have e1 : u2 (g_Kinit t 7000 R B) 7000 25 1 5000 1 = 1 := by rw [lo _ (by decide), et, u2_at]
        refine ⟨by rw [u2_at, e1], by rw [u2_at]; exact ⟨rfl, by decide⟩, ?_, ?_, fun e => ?_, fun e => absurd (e1.symm.trans e) (by decide), ⟨fun z => absurd (u2_at.symm.trans z) (by decide), fun z => absurd (e1.symm.trans z) (by decide)⟩, ⟨fun k hk => ?_, fun k hk j hj => ?_, fun k hk r hr => ?_, fun k hk j hj => ?_, fun k hk j hj => ?_⟩⟩
        · rw [u2_oi (by decide), lo _ (by decide), et, u2_oi (by decide), u2_oi (by decide)]
          exact h.stp
        · rw [cr _ (by decide), lo _ (by decide), tq _ (by decide)]
          exact h.k
        · rw [eR, eB, eg, ew, en]
          have a12 : ∀ r, r < 5 → σ 2001 r = τ (5010 + r) 2 := fun r hr => (o.p r hr).trans (a.2.1 r hr).2.2.1
          refine ⟨?_, fun r hr => ?_, fun r h1 h2 => ?_, fun j hj => ?_, fun j h1 h2 => ?_, fun j hj => ?_, (fun j h1 h2 => by show u2 σ 1000 7 1 2003 j = 0; rw [cr _ (by decide)]; exact (o.h j h2).2.1), fun j hj => ?_, fun j hj => ?_, fun j hj => ?_, fun j hj => ?_, fun k hk => absurd hk (by omega), fun k hk => absurd hk (by omega)⟩
          · show u2 σ 1000 7 1 2000 9 = nI 0
            rw [cr _ (by decide), h.k, k0]
            rfl
          · show u2 σ 1000 7 1 2001 r = u2 (g_Kinit t 7000 R B) 7000 25 1 7001 r
            rw [cr _ (by decide), up _ (by decide), a12 r (by omega), Kinit_p hr, tq _ (by omega)]
          · show u2 σ 1000 7 1 2001 r = 0
            rw [cr _ (by decide), a12 r h2]
            exact (z r (by rw [show cn (τ 5001 900) = R from hR]; exact h1) h2).2.2
          · show u2 σ 1000 7 1 2002 j = u2 (g_Kinit t 7000 R B) 7000 25 1 7002 j ∧ bd 7775 (u2 (g_Kinit t 7000 R B) 7000 25 1 7002 j)
            rw [cr _ (by decide), up _ (by decide), (o.h j (by omega)).1, Kinit_o (by decide), clk0_z (by decide)]
            exact ⟨rfl, bd.zero⟩
          · show u2 σ 1000 7 1 2002 j = 0
            rw [cr _ (by decide)]
            exact (o.h j h2).1
          · show u2 σ 1000 7 1 2003 j = u2 (g_Kinit t 7000 R B) 7000 25 1 7500 j ∧ bd 7775 (u2 (g_Kinit t 7000 R B) 7000 25 1 7500 j)
            rw [cr _ (by decide), up _ (by decide), (o.h j (by omega)).2.1, Kinit_o (by decide), clk0_z (by decide)]
            exact ⟨rfl, bd.zero⟩
          · show u2 σ 1000 7 1 2004 j = u2 (g_Kinit t 7000 R B) 7000 25 1 7003 j
            rw [cr _ (by decide), up _ (by decide), o.e j (by omega), (Kinit_e hj).1, tq _ (by omega)]
            exact (a.2.2.1 j (by omega)).2.1
          · show u2 σ 1000 7 1 2005 j = u2 (g_Kinit t 7000 R B) 7000 25 1 7004 j ∧ bd 2 (u2 (g_Kinit t 7000 R B) 7000 25 1 7004 j)
            rw [cr _ (by decide), up _ (by decide), o.w j (by omega), (Kinit_e hj).2]
            exact ⟨rfl, rfl, by decide⟩
          · show u2 σ 1000 7 1 2006 j = u2 (g_Kinit t 7000 R B) 7000 25 1 7005 j
            rw [cr _ (by decide), up _ (by decide), (o.h j (by omega)).2.2, Kinit_o (by decide), clk0_z (by decide)]
          · show f_hasWaived (u2 σ 1000 7 1) 2000 j = 0 ↔ u2 (g_Kinit t 7000 R B) 7000 25 1 7700 j = 0
            rw [up _ (by decide), Kinit_o (by decide), clk0_z (by decide), waived0 (by rw [cr _ (by decide)]; exact o.m)]
        all_goals (rw [eK] at hk; exact absurd hk (by omega))
  · rw [if_neg c1, if_neg (fun e => c1 (h.st.trans e))]
    exact h.kept r MK.s00 VK.rfl'
/-! wishes -/
theorem xsum_from {t : Nat → Int32} {y : Int32} {N : Nat} : xit (fun i s => s + t i) N 0 y = y + xsum t N := by
  induction N with
  | zero => exact (Int32.add_zero y).symm
  | succ k ih => rw [xit_last, ih, xsum_s, Int32.add_assoc]
theorem allies_eq {i j : Nat} (hj : bd 3 (σ 1017 i)) (e1 : σ 1017 i = τ (5020 + i) 3) (e2 : σ 1017 j = τ (5020 + j) 3) {x : Int32} : (if f_areAllies σ i j = 0 then (0 : Int32) else x) = (if nI j = nI i then 0 else (if τ (5020 + i) 3 ≤ 0 then 0 else (if τ (5020 + j) 3 = τ (5020 + i) 3 then x else 0))) := by
  unfold f_areAllies
  have z0 : τ (5020 + i) 3 ≤ 0 ↔ σ 1017 i = 0 := by
    rw [← e1, hj.1, nI_le0 (by have := hj.2; omega)]
    exact ⟨fun e => by rw [e]; rfl, fun e => nI_zero (by have := hj.2; omega) e⟩
  by_cases c1 : nI i = nI j
  · rw [if_pos c1, if_pos rfl, if_pos c1.symm]
  · rw [if_neg c1, if_neg (show ¬ nI j = nI i from fun e => c1 e.symm)]
    by_cases c2 : σ 1017 i = 0
    · rw [if_pos c2, if_pos rfl, if_pos (z0.mpr c2)]
    · rw [if_neg c2, if_neg (show ¬ τ (5020 + i) 3 ≤ 0 from fun e => c2 (z0.mp e))]
      by_cases c3 : σ 1017 i = σ 1017 j
      · rw [if_pos c3, if_neg (by decide), if_pos (by rw [← e1, ← e2, c3])]
      · rw [if_neg c3, if_pos rfl, if_neg (show ¬ τ (5020 + j) 3 = τ (5020 + i) 3 from fun e => c3 (by rw [e1, e2, e]))]
theorem may_eq {i r : Nat} {y : Int32} (hi : i < B) (hr : r < 5) (hB6 : B ≤ 6) (hR5 : R ≤ 5) (hy : bd 5 y) (Q : KQ 2000 7000 R B g w n σ τ) (T : TQ R σ τ) (hg : ∀ j, j < 6 → σ 1017 j = τ (5020 + j) 3 ∧ bd 3 (σ 1017 j)) (hc : σ 1001 10 = τ 5000 2) : f_mayWish σ 2000 i r y B = f_McanWish τ i r y R B g := by
  obtain ⟨w1, w2⟩ := Q.wi i hi
  have w1 : σ (2000 + 3) i = τ (7000 + 500 + g) i := w1
  have al : y + f_wishedByAllies σ 2000 i r B = x_McanWish_45 τ i r y R B g y := by
    have e1 : f_wishedByAllies σ 2000 i r B = xsum (fun j => if f_areAllies σ i j = 0 then (0 : Int32) else f_of (τ (7000 + 500 + g) j) r) B := by
      unfold f_wishedByAllies x_wishedByAllies_6 xsum
      refine xit_cg (N := B) (fun j s hj => ?_) B 0 0 (Nat.zero_add _)
      obtain ⟨v1, v2⟩ := Q.wi j hj
      have v1 : σ (2000 + 3) j = τ (7000 + 500 + g) j := v1
      (try dsimp only)
      rw [v1, many_of v2 hr]
      by_cases c : f_areAllies σ i j = 0
      · rw [if_pos c, if_pos c, Int32.add_zero]
      · rw [if_neg c, if_neg c]
    have e2 : x_McanWish_45 τ i r y R B g y = xit (fun j s => s + (if f_areAllies σ i j = 0 then (0 : Int32) else f_of (τ (7000 + 500 + g) j) r)) B 0 y := by
      unfold x_McanWish_45
      refine xit_cg (N := B) (fun j s hj => ?_) B 0 y (Nat.zero_add _)
      (try dsimp only)
      rw [allies_eq (hg i (by omega)).2 (hg i (by omega)).1 (hg j (by omega)).1]
      by_cases c1 : nI j = nI i
      · rw [if_pos c1, if_pos c1]
      · rw [if_neg c1, if_neg c1]
        by_cases c2 : τ (5020 + i) 3 ≤ 0
        · rw [if_pos c2, if_pos c2]
        · rw [if_neg c2, if_neg c2]
          by_cases c3 : τ (5020 + j) 3 = τ (5020 + i) 3
          · rw [if_pos c3, if_pos c3]
          · rw [if_neg c3, if_neg c3]
    rw [e1, e2]
    exact xsum_from.symm
  have pt : f_total (f_replaced (σ (2000 + 3) i) r y) 5 (σ 1011) = f_Mpoints τ (f_with (τ (7000 + 500 + g) i) r y) R := by
    rw [w1, rep_with w2 hr]
    exact points_eq (w2.withd hr hy) hR5 T.pt T.ptz
  unfold f_mayWish f_McanWish
  rw [pt, al, w1, many_of w2 hr, (T.rg r hr).1, Q.el i hi, hc]
  by_cases c1 : f_of (τ (7000 + 500 + g) i) r < y
  · rw [if_pos c1, if_pos c1]
    by_cases c2 : τ (5010 + r) 0 < y
    · rw [if_pos c2, if_pos c2]
    · rw [if_neg c2, if_neg c2]
      by_cases c3 : τ (7000 + 3) i < f_Mpoints τ (f_with (τ (7000 + 500 + g) i) r y) R
      · rw [if_pos c3]
        by_cases c4 : τ 5000 2 < x_McanWish_45 τ i r y R B g y
        · rw [if_pos c4]
        · rw [if_neg c4, if_pos c3]
      · rw [if_neg c3]
        by_cases c4 : τ 5000 2 < x_McanWish_45 τ i r y R B g y
        · rw [if_pos c4, if_pos c4]
        · rw [if_neg c4, if_neg c4, if_neg c3]
  · rw [if_neg c1, if_neg c1]
theorem RC.wish {x y v : Int32} (h : RC τ σ) (r : JR τ) (a : RA τ σ) (z : RZ τ) (j : JC σ) (hR : mR τ = R) (hB : mB τ = B) (hg : mg τ = g) : RC (g_Mwish τ x y v R B g) (g_wish σ x y v R B) := by
  have R5 := r.hR.2
  have B6 := r.hB.2
  have G := r.hg.2
  unfold g_Mwish g_wish
  by_cases c1 : n_lt x B
  · by_cases c2 : n_lt y R
    · by_cases c3 : n_bt v 0 5
      · by_cases c4 : σ 1000 7 = 1
        · have c5 : τ 5000 1 = 1 := h.st.symm.trans c4
          rw [if_pos c1, if_pos c2, if_pos c3, if_pos c5, if_pos c1, if_pos c2, if_pos c3, if_pos c4]
          have Q := h.on1 c5
          rw [hR, hB, hg] at Q
          have T := told a z j
          rw [hR] at T
          have hx := c1.2
          have hy := c2.2
          have hv : bd 5 v := bd.bt (m := 5) c3 (by decide) rfl (by decide)
          have m0 : ∀ q, q ≠ 5000 → u2 τ 5000 0 0 q = τ q := fun q hq => u2_ne hq
          have Q0 : KQ 2000 7000 R B g (mw τ) (mn τ) σ (u2 τ 5000 0 0) := Q.of r.hn.2.1 (by omega) r.hw.2 (fun _ _ _ => rfl) (fun q h1 h2 => m0 q (by omega))
          have T0 : TQ R σ (u2 τ 5000 0 0) := ⟨by rw [u2_oi (by decide)]; exact T.rl, fun r hr => by rw [m0 _ (by omega)]; exact T.rg r hr, fun r hr => by rw [m0 _ (by omega)]; exact T.pt r hr, fun r h1 h2 => by rw [m0 _ (by omega)]; exact T.ptz r h1 h2⟩
          have em : f_mayWish σ 2000 (cn x) (cn y) (nI (cn v)) B = f_McanWish (u2 τ 5000 0 0) (cn x) (cn y) v R B g := by
            rw [← hv.1]
            exact may_eq hx (by omega) (by omega) (by omega) hv Q0 T0 (fun j9 h9 => by
              rw [m0 _ (by omega)]
              exact ⟨(a.2.2.1 j9 h9).2.2.2, (j.hgr j9 h9).1, Nat.le_of_lt_succ (j.hgr j9 h9).2⟩) (by
              rw [u2_oi (by decide)]
              exact a.1.2.1)
          rw [em]
          by_cases c6 : f_McanWish (u2 τ 5000 0 0) (cn x) (cn y) v R B g = 0
          · rw [if_pos c6, if_pos c6]
            exact h.kept r MK.s00 VK.rfl'
          · rw [if_neg c6, if_neg c6, ← hv.1]
            obtain ⟨w1, w2⟩ := Q.wi (cn x) hx
            have w1 : σ 2003 (cn x) = τ (7000 + 500 + g) (cn x) := w1
            have eW : f_replaced (σ (2000 + 3) (cn x)) (cn y) v = f_with (τ (7000 + 500 + g) (cn x)) (cn y) v := by
              rw [show σ (2000 + 3) (cn x) = τ (7000 + 500 + g) (cn x) from w1]
              exact rep_with w2 (by omega)
            rw [eW]
            have bW := w2.withd (r := cn y) (by omega) hv
            generalize f_with (τ (7000 + 500 + g) (cn x)) (cn y) v = W at bW ⊢
            have mr : ∀ q, q ≠ 5000 → q ≠ 7000 + 500 + g → u2 (u2 τ 5000 0 0) (7000 + 500 + g) (cn x) W q = τ q := fun q h1 h2 => by rw [u2_ne h2, u2_ne h1]
            have m5 : ∀ i, i ≠ 0 → u2 (u2 τ 5000 0 0) (7000 + 500 + g) (cn x) W 5000 i = τ 5000 i := fun i hi => by rw [u2_ne (by omega), u2_oi hi]
            have cr : ∀ q, q ≠ 2003 → u2 σ (2000 + 3) (cn x) W q = σ q := fun q hq => u2_ne hq
            have eR : mR (u2 (u2 τ 5000 0 0) (7000 + 500 + g) (cn x) W) = R := by
              show cn (u2 _ _ _ _ 5001 900) = R
              rw [mr _ (by decide) (by omega)]
              exact hR
            have eB : mB (u2 (u2 τ 5000 0 0) (7000 + 500 + g) (cn x) W) = B := by
              show cn (u2 _ _ _ _ 5002 900) = B
              rw [mr _ (by decide) (by omega)]
              exact hB
            have eK : mK (u2 (u2 τ 5000 0 0) (7000 + 500 + g) (cn x) W) = mK τ := by
              show cn (u2 _ _ _ _ 5003 900) = _
              rw [mr _ (by decide) (by omega)]
            have eg : mg (u2 (u2 τ 5000 0 0) (7000 + 500 + g) (cn x) W) = g := by
              show cn (u2 _ _ _ _ 7000 23) = g
              rw [mr _ (by decide) (by omega)]
              exact hg
            have ew : mw (u2 (u2 τ 5000 0 0) (7000 + 500 + g) (cn x) W) = mw τ := by
              show cn (u2 _ _ _ _ 7000 24) = _
              rw [mr _ (by decide) (by omega)]
            have en : mn (u2 (u2 τ 5000 0 0) (7000 + 500 + g) (cn x) W) = mn τ := by
              show cn (u2 _ _ _ _ 7000 21) = _
              rw [mr _ (by decide) (by omega)]
            have K60 := r.hK.2
            have N60 := r.hn.2.1
            have W2 := r.hw.2
            refine ⟨by rw [cr _ (by decide), m5 _ (by decide)]; exact h.st, by rw [cr _ (by decide)]; exact h.sb, by rw [cr _ (by decide), m5 _ (by decide)]; exact h.stp, by rw [cr _ (by decide), mr _ (by decide) (by omega)]; exact h.k, fun e => ?_, fun e => ?_, (by rw [mr 7000 (by decide) (by omega), m5 _ (by decide)]; exact h.fl), ⟨fun k hk => ?_, fun k hk j hj => ?_, fun k hk r hr => ?_, fun k hk j hj => ?_, fun k hk j hj => ?_⟩⟩
            · rw [eR, eB, eg, ew, en]
              refine ⟨?_, fun r hr => ?_, fun r h1 h2 => ?_, fun j hj => ?_, fun j h1 h2 => ?_, fun j hj => ?_, (fun j h1 h2 => by rw [u2_oi (by omega)]; exact Q.wz j h1 h2), fun j hj => ?_, fun j hj => ?_, fun j hj => ?_, fun j hj => ?_, fun k hk => ?_, fun k hk => ?_⟩
              · rw [cr _ (by decide)]; exact Q.c
              · rw [cr _ (by decide), mr _ (by decide) (by omega)]; exact Q.p r hr
              · rw [cr _ (by decide)]; exact Q.pz r h1 h2
              · rw [cr _ (by decide), mr _ (by decide) (by omega)]; exact Q.he j hj
              · rw [cr _ (by decide)]; exact Q.hz j h1 h2
              · by_cases e9 : j = cn x
                · rw [e9, u2_at, u2_at]
                  exact ⟨rfl, bW⟩
                · rw [u2_oi e9, u2_oi e9, u2_ne (show 7000 + 500 + g ≠ 5000 by omega)]
                  exact Q.wi j hj
              · rw [cr _ (by decide), mr _ (by decide) (by omega)]; exact Q.el j hj
              · rw [cr _ (by decide), mr _ (by decide) (by omega)]; exact Q.wv j hj
              · rw [cr _ (by decide), mr _ (by decide) (by omega)]; exact Q.co j hj
              · rw [show f_hasWaived (u2 σ (2000 + 3) (cn x) W) 2000 j = f_hasWaived σ 2000 j from by unfold f_hasWaived; rw [cr _ (by decide)], mr _ (by omega) (by omega)]
                exact Q.ma j hj
              · rw [cr _ (by omega), mr _ (by omega) (by omega)]; exact Q.lp k hk
              · rw [cr _ (by omega), mr _ (by omega) (by omega)]; exact Q.lh k hk
            · rw [m5 _ (by decide)] at e
              exact absurd (c5.symm.trans e) (by decide)
            · rw [eK] at hk
              rw [cr _ (by omega), mr _ (by omega) (by omega)]; exact h.lg.t k hk
            · rw [eK] at hk
              rw [eB, ← hB] at hj
              rw [cr _ (by omega), mr _ (by omega) (by omega)]; exact h.lg.m k hk j hj
            · rw [eK] at hk
              rw [eR, ← hR] at hr
              rw [cr _ (by omega), mr _ (by omega) (by omega)]; exact h.lg.p k hk r hr
            · rw [eK] at hk
              rw [eB, ← hB] at hj
              rw [cr _ (by omega), mr _ (by omega) (by omega)]; exact h.lg.w k hk j hj
            · rw [eK] at hk
              rw [eB, ← hB] at hj
              rw [cr _ (by omega), mr _ (by omega) (by omega)]; exact h.lg.h k hk j hj
        · rw [if_pos c1, if_pos c2, if_pos c3, if_neg (fun e => c4 (h.st.trans e)), if_pos c1, if_pos c2, if_pos c3, if_neg c4]
          exact h.kept r MK.s00 VK.rfl'
      · rw [if_pos c1, if_pos c2, if_neg c3, if_pos c1, if_pos c2, if_neg c3]
        exact h.kept r MK.s00 VK.rfl'
    · rw [if_pos c1, if_neg c2, if_pos c1, if_neg c2]
      exact h.kept r MK.s00 VK.rfl'
  · rw [if_neg c1, if_neg c1]
    exact h.kept r MK.s00 VK.rfl'
end
