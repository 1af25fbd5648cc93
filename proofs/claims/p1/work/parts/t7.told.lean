section
/-! ===== the clock: regions, bidders, the opening ===== -/
section
variable {τ τ2 σ σ2 : XS9} {R B : Nat}
theorem fillz {a n : Nat} {x : Int32} {s : XS9} {j : Nat} (hj : j < n) : g_fill s a n x a j = x := by
  unfold g_fill x_fill_5
  exact fill_at n 0 s (fun h => absurd h (by omega)) (by omega)
theorem begin_ok {s : XS9} : (∀ r, r < 5 → g_begin s 2000 2001 r = s 1012 r) ∧ (∀ j, j < 6 → g_begin s 2000 2004 j = s 1015 j) ∧ (∀ j, j < 6 → g_begin s 2000 2002 j = 0 ∧ g_begin s 2000 2003 j = 0 ∧ g_begin s 2000 2006 j = 0) ∧ (∀ j, j < 6 → g_begin s 2000 2005 j = 2) ∧ g_begin s 2000 2000 12 = 0 ∧ g_begin s 2000 2000 9 = 0 := by
  unfold g_begin
  refine ⟨fun r hr => ?_, fun j hj => ?_, fun j hj => ⟨?_, ?_, ?_⟩, fun j hj => ?_, u2_at, ?_⟩
  · rw [u2_ne (by decide), u2_ne (by decide), fr_fill (by decide), fr_fill (by decide), fr_fill (by decide), fr_fill (by decide), uR_ne (by decide), uR_eq, cpy_lo hr]
  · rw [u2_ne (by decide), u2_ne (by decide), fr_fill (by decide), fr_fill (by decide), fr_fill (by decide), fr_fill (by decide), uR_eq, cpy_lo hj]
  · rw [u2_ne (by decide), u2_ne (by decide), fr_fill (by decide), fr_fill (by decide), fr_fill (by decide)]
    exact fillz hj
  · rw [u2_ne (by decide), u2_ne (by decide), fr_fill (by decide), fr_fill (by decide)]
    exact fillz hj
  · rw [u2_ne (by decide), u2_ne (by decide)]
    exact fillz hj
  · rw [u2_ne (by decide), u2_ne (by decide), fr_fill (by decide)]
    exact fillz hj
  · rw [u2_oi (by decide), u2_at]
/-- the clock begun anew, before the opening -/
theorem RC.begun {s : XS9} (h : RC τ σ) (r : JR τ) (e0 : τ 5000 1 = 0) (eB : mB τ2 ≤ 6) (m1 : τ2 5000 1 = τ 5000 1) (m4 : τ2 5000 4 = τ 5000 4) (m3 : τ2 5003 900 = τ 5003 900) (c7 : s 1000 7 = σ 1000 7) (c8 : s 1000 8 = σ 1000 8) (m25 : τ2 7000 25 = τ 7000 25) : RC τ2 (g_begin s 2000) := by
  obtain ⟨b1, b2, b3, b4, b5, b6⟩ := begin_ok (s := s)
  have k0 : τ 5003 900 = 0 := (r.hp0 e0).2.2
  have eK : mK τ2 = 0 := by
    show cn (τ2 5003 900) = 0
    rw [m3, k0]
    rfl
  have r0 : g_begin s 2000 1000 = s 1000 := fr_begin (by omega)
  have r12 : g_begin s 2000 1012 = s 1012 := fr_begin (by omega)
  have r15 : g_begin s 2000 1015 = s 1015 := fr_begin (by omega)
  refine ⟨?_, ?_, ?_, ?_, fun e => ?_, fun e => ?_, (by rw [m25, m1]; exact h.fl), ⟨fun k hk => ?_, fun k hk j hj => ?_, fun k hk r hr => ?_, fun k hk j hj => ?_, fun k hk j hj => ?_⟩⟩
  · rw [r0, c7, m1]; exact h.st
  · rw [r0, c7]; exact h.sb
  · rw [r0, c8, m4]; exact h.stp
  · rw [b6, m3, k0]
  · exact absurd (m1.trans e0) e
  · refine ⟨fun r hr => ?_, fun j hj => ?_, b3, fun j hj => b4 j (by omega), b5⟩
    · rw [b1 r hr, r12]
    · rw [b2 j hj, r15]
  all_goals (rw [eK] at hk; exact absurd hk (by omega))
theorem RC.region {x y v : Int32} (h : RC τ σ) (r : JR τ) (hR5 : R ≤ 5) : RC (g_Mregion τ x y v R) (g_region σ x y v R) := by
  unfold g_Mregion g_region
  by_cases c1 : n_bt x 1 5
  · by_cases c2 : n_bt y 1 9
    · by_cases c3 : n_bt v 1 999
      · by_cases c4 : σ 1000 7 = 0
        · have c6 : τ 5000 1 = 0 := h.st.symm.trans c4
          by_cases c5 : nI R < 5
          · rw [if_pos c1, if_pos c2, if_pos c3, if_pos c6, if_neg ((nI5 hR5).mp c5), if_pos c1, if_pos c2, if_pos c3, if_pos c4, if_pos c5]
            have hR : R < 5 := (nI_ltI (a := R) (b := 5) (by omega) (by omega)).mp c5
            refine h.begun r c6 ?_ ?_ ?_ ?_ ?_ ?_ ?_
            · show cn (u2 _ _ _ _ 5002 900) ≤ 6
              rw [u2_ne (by decide), uR_ne (by omega), u2_ne (by decide)]
              exact r.hB.2
            · rw [u2_ne (by decide), uR_ne (by omega), u2_oi (by decide)]
            · rw [u2_ne (by decide), uR_ne (by omega), u2_oi (by decide)]
            · rw [u2_ne (by decide), uR_ne (by omega), u2_ne (by decide)]
            · rw [fr_addRegion (by decide)]
            · rw [fr_addRegion (by decide)]
            · rw [u2_ne (by decide), uR_ne (by omega), u2_ne (by decide)]
          · rw [if_pos c1, if_pos c2, if_pos c3, if_pos c6, if_pos (Classical.not_not.mp (fun e => c5 ((nI5 hR5).mpr e))), if_pos c1, if_pos c2, if_pos c3, if_pos c4, if_neg c5]
            exact h.kept r MK.s00 VK.rfl'
        · rw [if_pos c1, if_pos c2, if_pos c3, if_neg (fun e => c4 (h.st.trans e)), if_pos c1, if_pos c2, if_pos c3, if_neg c4]
          exact h.kept r MK.s00 VK.rfl'
      · rw [if_pos c1, if_pos c2, if_neg c3, if_pos c1, if_pos c2, if_neg c3]
        exact h.kept r MK.s00 VK.rfl'
    · rw [if_pos c1, if_neg c2, if_pos c1, if_neg c2]
      exact h.kept r MK.s00 VK.rfl'
  · rw [if_neg c1, if_neg c1]
    exact h.kept r MK.s00 VK.rfl'
theorem RC.bidder {x y v u : Int32} (h : RC τ σ) (r : JR τ) (hB6 : B ≤ 6) : RC (g_Mbidder τ x y v u B) (g_bidder σ x y v u B) := by
  unfold g_Mbidder g_bidder
  by_cases c1 : n_bt x 0 99999
  · by_cases c2 : n_bt y 1 200
    · by_cases c3 : n_bt v 0 30
      · by_cases c7 : n_bt u 0 3
        · by_cases c4 : σ 1000 7 = 0
          · have c6 : τ 5000 1 = 0 := h.st.symm.trans c4
            by_cases c5 : nI B < 6
            · rw [if_pos c1, if_pos c2, if_pos c3, if_pos c7, if_pos c6, if_neg ((nI6 hB6).mp c5), if_pos c1, if_pos c2, if_pos c3, if_pos c7, if_pos c4, if_pos c5]
              have hB : B < 6 := (nI_ltI (a := B) (b := 6) (by omega) (by omega)).mp c5
              refine h.begun r c6 ?_ ?_ ?_ ?_ ?_ ?_ ?_
              · show cn (u2 _ _ _ _ 5002 900) ≤ 6
                rw [u2_at, cn_nI (by omega)]
                omega
              · rw [u2_ne (by decide), u2_ne (by omega), uR_ne (by omega), u2_oi (by decide)]
              · rw [u2_ne (by decide), u2_ne (by omega), uR_ne (by omega), u2_oi (by decide)]
              · rw [u2_ne (by decide), u2_ne (by omega), uR_ne (by omega), u2_ne (by decide)]
              · rw [fr_addBidder (by decide)]
              · rw [fr_addBidder (by decide)]
              · rw [u2_ne (by decide), u2_ne (by omega), uR_ne (by omega), u2_ne (by decide)]
            · rw [if_pos c1, if_pos c2, if_pos c3, if_pos c7, if_pos c6, if_pos (Classical.not_not.mp (fun e => c5 ((nI6 hB6).mpr e))), if_pos c1, if_pos c2, if_pos c3, if_pos c7, if_pos c4, if_neg c5]
              exact h.kept r MK.s00 VK.rfl'
          · rw [if_pos c1, if_pos c2, if_pos c3, if_pos c7, if_neg (fun e => c4 (h.st.trans e)), if_pos c1, if_pos c2, if_pos c3, if_pos c7, if_neg c4]
            exact h.kept r MK.s00 VK.rfl'
        · rw [if_pos c1, if_pos c2, if_pos c3, if_neg c7, if_pos c1, if_pos c2, if_pos c3, if_neg c7]
          exact h.kept r MK.s00 VK.rfl'
      · rw [if_pos c1, if_pos c2, if_neg c3, if_pos c1, if_pos c2, if_neg c3]
        exact h.kept r MK.s00 VK.rfl'
    · rw [if_pos c1, if_neg c2, if_pos c1, if_neg c2]
      exact h.kept r MK.s00 VK.rfl'
  · rw [if_neg c1, if_neg c1]
    exact h.kept r MK.s00 VK.rfl'
/-! regions that are not there have nothing -/
def RZ (τ : XS9) : Prop := ∀ r, cn (τ 5001 900) ≤ r → r < 5 → τ (5010 + r) 0 = 0 ∧ τ (5010 + r) 1 = 0 ∧ τ (5010 + r) 2 = 0
theorem RZ.kept (h : RZ τ) (m : MA τ τ2) : RZ τ2 := fun r h1 h2 => by
  have M : ∀ q i, kb q i → τ2 q i = τ q i := m
  rw [M _ _ (by unfold kb; omega)] at h1
  rw [M _ _ (by unfold kb; omega), M _ _ (by unfold kb; omega), M _ _ (by unfold kb; omega)]
  exact h r h1 h2
theorem RZ.of (h : RZ τ) (e1 : τ2 5001 900 = τ 5001 900) (e : ∀ r i, r < 5 → i < 3 → τ2 (5010 + r) i = τ (5010 + r) i) : RZ τ2 := fun r h1 h2 => by
  rw [e1] at h1
  rw [e r 0 h2 (by decide), e r 1 h2 (by decide), e r 2 h2 (by decide)]
  exact h r h1 h2
theorem RZ.s00 (h : RZ τ) {x : Int32} : RZ (u2 (u2 τ 5000 0 0) 5000 0 x) := h.kept MA.s00
theorem RZ.init : RZ s0M := fun r _ h2 => ⟨s0M_50 (by omega), s0M_50 (by omega), s0M_50 (by omega)⟩
theorem RZ.region {x y v : Int32} (h : RZ τ) (hR5 : R ≤ 5) (eR : cn (τ 5001 900) = R) : RZ (g_Mregion τ x y v R) := by
  unfold g_Mregion
  (repeat' split) <;> first | with_reducible exact h.s00 | skip
  rename_i hn
  have hR : R < 5 := by
    have : R ≠ 5 := fun e => hn (by rw [e]; rfl)
    omega
  intro r h1 h2
  rw [u2_at, cn_nI (by omega)] at h1
  rw [u2_ne (by omega), uR_ne (by omega), u2_ne (by omega)]
  exact h r (by omega) h2
theorem RZ.bidder {x y v u : Int32} (h : RZ τ) (hB6 : B ≤ 6) : RZ (g_Mbidder τ x y v u B) := by
  unfold g_Mbidder
  (repeat' split) <;> first | with_reducible exact h.s00 | skip
  rename_i hn
  have hB : B < 6 := by
    have : B ≠ 6 := fun e => hn (by rw [e]; rfl)
    omega
  exact h.of (by rw [u2_ne (by decide), u2_ne (by omega), uR_ne (by omega), u2_ne (by decide)]) (fun r i hr hi => by rw [u2_ne (by omega), u2_ne (by omega), uR_ne (by omega), u2_ne (by omega)])
theorem RZ.rules {x y : Int32} (h : RZ τ) : RZ (g_Mrules τ x y) := by
  unfold g_Mrules
  (repeat' split) <;> first | with_reducible exact h.s00 | exact h.of (by rw [u2_ne (by decide), u2_ne (by decide), u2_ne (by decide)]) (fun r i hr hi => by rw [u2_ne (by omega), u2_ne (by omega), u2_ne (by omega)]) | exact h.s00
theorem RZ.knock (h : RZ τ) : RZ (g_Mknock τ) := by
  unfold g_Mknock
  exact h.of (by rw [u2_ne (by decide), u2_ne (by decide)]) (fun r i hr hi => by rw [u2_ne (by omega), u2_ne (by omega)])
theorem RZ.slot {q : Nat} {x : Int32} (h : RZ τ) : RZ (u2 τ q 3 x) := h.of (u2_sl (by decide)) (fun r i hr hi => u2_sl (by omega))
theorem RZ.border {x y : Int32} (h : RZ τ) (hR5 : R ≤ 5) : RZ (g_Mborder τ x y R) := by
  unfold g_Mborder
  split
  · split
    · split
      · exact h.s00
      · split
        · exact (h.kept MA.s0).slot.slot
        · exact h.s00
    · exact h.s00
  · exact h.s00
theorem RZ.station {x y : Int32} {C : Nat} (h : RZ τ) : RZ (g_Mstation τ x y R C) := by
  unfold g_Mstation g_addI
  (repeat' split) <;> first | with_reducible exact h.s00 | exact h.of (by rw [u2_ne (by decide), u2_ne (by decide), u2_ne (by decide), u2_ne (by decide), u2_ne (by decide)]) (fun r i hr hi => by rw [u2_ne (by omega), u2_ne (by omega), u2_ne (by omega), u2_ne (by omega), u2_ne (by omega)]) | exact h.s00
theorem RZ.ask {x y : Int32} {C : Nat} (h : RZ τ) : RZ (g_Mask τ x y C) := by
  unfold g_Mask g_setS
  (repeat' split) <;> first | with_reducible exact h.s00 | exact h.of (by rw [u2_ne (by decide), u2_ne (by decide), u2_ne (by decide)]) (fun r i hr hi => by rw [u2_ne (by omega), u2_ne (by omega), u2_ne (by omega)]) | exact h.s00
/-- what the clock was told -/
theorem told (a : RA τ σ) (z : RZ τ) (j : JC σ) : TQ (mR τ) σ τ := ⟨a.1.2.2, fun r hr => ⟨(a.2.1 r hr).1, by rw [← (a.2.1 r hr).1]; exact j.hsp r hr⟩, fun r hr => (a.2.1 r hr).2.1, fun r h1 h2 => (z r h1 h2).2.1⟩
end
end
section
/-! ===== the clock: its opening, wishes, waivers ===== -/
section
variable {τ τ2 σ σ2 : XS9} {R B g w n : Nat}
theorem put_all {a : Nat} {v : Nat → Int32} {j : Nat} : ∀ (f i : Nat) (s : XS9), (j < i → s a j = v j) → j < i + f → xit (fun i5 (s5 : XS9) => u2 s5 a i5 (v i5)) f i s a j = v j
  | 0, i, s, h1, h2 => h1 (by omega)
  | f + 1, i, s, h1, h2 => put_all f (i + 1) (u2 s a i (v i)) (fun h3 => by
      by_cases e : j = i
      · subst e
        exact u2_at
      · show u2 s a i (v i) a j = v j
        rw [u2_oi e]
        exact h1 (by omega)) (by omega)
theorem Kinit_p {j : Nat} (hj : j < R) : g_Kinit σ 7000 R B 7001 j = σ (5010 + j) 2 := by
  unfold g_Kinit x_Kinit_132
  refine (congrFun (xit_keep (fun s : XS9 => s 7001) (fun i s => by
    (try dsimp only)
    rw [u2_ne (by decide), u2_ne (by decide)]) B 0 _) j).trans ?_
  unfold x_Kinit_95
  exact put_all R 0 _ (fun h => absurd h (by omega)) (by omega)
theorem Kinit_ew {j : Nat} : ∀ (f i : Nat) (s : XS9), (j < i → s 7003 j = σ (5020 + j) 1 ∧ s 7004 j = 2) → j < i + f → xit (fun i132 (s132 : XS9) => u2 (u2 s132 7003 i132 (σ (5020 + i132) 1)) 7004 i132 2) f i s 7003 j = σ (5020 + j) 1 ∧ xit (fun i132 (s132 : XS9) => u2 (u2 s132 7003 i132 (σ (5020 + i132) 1)) 7004 i132 2) f i s 7004 j = 2
  | 0, i, s, h1, h2 => h1 (by omega)
  | f + 1, i, s, h1, h2 => Kinit_ew f (i + 1) (u2 (u2 s 7003 i (σ (5020 + i) 1)) 7004 i 2) (fun h3 => by
      by_cases e : j = i
      · subst e
        rw [u2_ne (show 7003 ≠ 7004 by decide), u2_at, u2_at]
        exact ⟨rfl, rfl⟩
      · rw [u2_ne (show 7003 ≠ 7004 by decide), u2_oi e, u2_oi e, u2_ne (show 7004 ≠ 7003 by decide)]
        exact h1 (by omega)) (by omega)
theorem Kinit_e {j : Nat} (hj : j < B) : g_Kinit σ 7000 R B 7003 j = σ (5020 + j) 1 ∧ g_Kinit σ 7000 R B 7004 j = 2 := by
  unfold g_Kinit x_Kinit_132
  exact Kinit_ew B 0 _ (fun h => absurd h (by omega)) (by omega)
theorem Kinit_o {q : Nat} (h : q ≠ 7001 ∧ q ≠ 7003 ∧ q ≠ 7004) : g_Kinit σ 7000 R B q = g_clk0 σ 7000 q := by
  unfold g_Kinit x_Kinit_132
  refine (xit_keep (fun s : XS9 => s q) (fun i s => by
    (try dsimp only)
    rw [u2_ne h.2.2, u2_ne h.2.1]) B 0 _).trans ?_
  unfold x_Kinit_95
  exact xit_keep (fun s : XS9 => s q) (fun i s => by
    (try dsimp only)
    rw [u2_ne h.1]) R 0 _
theorem clk0_z {q i : Nat} (h : q = 7002 ∨ q = 7005 ∨ q = 7500 ∨ q = 7700) : g_clk0 σ 7000 q i = 0 := by
  have e : g_clk0 σ 7000 q = fun _ => 0 := by
    unfold g_clk0
    (try dsimp only)
    rw [if_neg (by omega), if_pos (by omega)]
  rw [e]
theorem RC.opn (h : RC τ σ) (r : JR τ) (a : RA τ σ) (z : RZ τ) (hR : mR τ = R) (hB : mB τ = B) : RC (g_Mopen τ R B) (g_open σ R B) := by
  have R5 := r.hR.2
  have B6 := r.hB.2
  unfold g_Mopen g_open
  by_cases c1 : σ 1000 7 = 0
  · have c2 : τ 5000 1 = 0 := h.st.symm.trans c1
    rw [if_pos c2, if_pos c1]
    by_cases c3 : R = 0
    · rw [if_pos c3, if_pos (show nI R = 0 by rw [c3]; rfl)]
      exact h.kept r MK.s00 VK.rfl'
    · rw [if_neg c3, if_neg (fun e => c3 (nI_zero (by omega) e))]
      by_cases c4 : B = 0
      · rw [if_pos c4, if_pos (show nI B = 0 by rw [c4]; rfl)]
        exact h.kept r MK.s00 VK.rfl'
      · rw [if_neg c4, if_neg (fun e => c4 (nI_zero (by omega) e))]
        have o := h.off c2
        obtain ⟨t, et⟩ : ∃ t, t = u2 (u2 τ 5000 0 0) 5000 1 1 := ⟨_, rfl⟩
        rw [← et]
        have lo : ∀ q, q < 7000 → u2 (g_Kinit t 7000 R B) 7000 25 1 q = t q := fun q hq => by rw [u2_ne (by omega), fr_Kinit (by omega)]
        have up : ∀ q, q ≠ 7000 → u2 (g_Kinit t 7000 R B) 7000 25 1 q = g_Kinit t 7000 R B q := fun q hq => u2_ne hq
        have hd : ∀ i, i < 20 ∨ 20 < i → i ≠ 25 → u2 (g_Kinit t 7000 R B) 7000 25 1 7000 i = 0 := fun i hi h5 => by
          rw [u2_oi h5, Kinit_o (by decide)]
          show (if i = 20 then (1 : Int32) else if i = 25 then t 7000 25 else 0) = 0
          rw [if_neg (by omega), if_neg h5]
        have tq : ∀ q, q ≠ 5000 → t q = τ q := fun q hq => by rw [et, u2_ne hq, u2_ne hq]
        have k0 : τ 5003 900 = 0 := (r.hp0 c2).2.2
        have eK : mK (u2 (g_Kinit t 7000 R B) 7000 25 1) = 0 := by
          show cn (u2 _ _ _ _ 5003 900) = 0
          rw [lo _ (by decide), tq _ (by decide), k0]
          rfl
        have eR : mR (u2 (g_Kinit t 7000 R B) 7000 25 1) = R := by
          show cn (u2 _ _ _ _ 5001 900) = R
          rw [lo _ (by decide), tq _ (by decide)]
          exact hR
        have eB : mB (u2 (g_Kinit t 7000 R B) 7000 25 1) = B := by
          show cn (u2 _ _ _ _ 5002 900) = B
          rw [lo _ (by decide), tq _ (by decide)]
          exact hB
        have eg : mg (u2 (g_Kinit t 7000 R B) 7000 25 1) = 0 := by
          show cn (u2 _ _ _ _ 7000 23) = 0
          rw [hd _ (by decide) (by decide)]
          rfl
        have ew : mw (u2 (g_Kinit t 7000 R B) 7000 25 1) = 0 := by
          show cn (u2 _ _ _ _ 7000 24) = 0
          rw [hd _ (by decide) (by decide)]
          rfl
        have en : mn (u2 (g_Kinit t 7000 R B) 7000 25 1) = 0 := by
          show cn (u2 _ _ _ _ 7000 21) = 0
          rw [hd _ (by decide) (by decide)]
          rfl
        have cr : ∀ q, q ≠ 1000 → u2 σ 1000 7 1 q = σ q := fun q hq => u2_ne hq
        have e1 : u2 (g_Kinit t 7000 R B) 7000 25 1 5000 1 = 1 := by rw [lo _ (by decide), et, u2_at]
        refine ⟨by rw [u2_at, e1], by rw [u2_at]; exact ⟨rfl, by decide⟩, ?_, ?_, fun e => ?_, fun e => absurd (e1.symm.trans e) (by decide), ⟨fun z => absurd (u2_at.symm.trans z) (by decide), fun z => absurd (e1.symm.trans z) (by decide)⟩, ⟨fun k hk => ?_, fun k hk j hj => ?_, fun k hk r hr => ?_, fun k hk j hj => ?_, fun k hk j hj => ?_⟩⟩
        · rw [u2_oi (by decide), lo _ (by decide), et, u2_oi (by decide), u2_oi (by decide)]
          exact h.stp
        · rw [cr _ (by decide), lo _ (by decide), tq _ (by decide)]
          exact h.k
        · rw [eR, eB, eg, ew, en]
          have a12 : ∀ r, r < 5 → σ 2001 r = τ (5010 + r) 2 := fun r hr => (o.p r hr).trans (a.2.1 r hr).2.2.1
          refine ⟨?_, fun r hr => ?_, fun r h1 h2 => ?_, fun j hj => ?_, fun j h1 h2 => ?_, fun j hj => ?_, (fun j h1 h2 => by show u2 σ 1000 7 1 2003 j = 0; rw [cr _ (by decide)]; exact (o.h j h2).2.1), fun j hj => ?_, fun j hj => ?_, fun j hj => ?_, fun j hj => ?_, fun k hk => absurd hk (by omega), fun k hk => absurd hk (by omega)⟩
          · show u2 σ 1000 7 1 2000 9 = nI 0
            rw [cr _ (by decide), h.k, k0]
            rfl
          · show u2 σ 1000 7 1 2001 r = u2 (g_Kinit t 7000 R B) 7000 25 1 7001 r
            rw [cr _ (by decide), up _ (by decide), a12 r (by omega), Kinit_p hr, tq _ (by omega)]
          · show u2 σ 1000 7 1 2001 r = 0
            rw [cr _ (by decide), a12 r h2]
            exact (z r (by rw [show cn (τ 5001 900) = R from hR]; exact h1) h2).2.2
          · show u2 σ 1000 7 1 2002 j = u2 (g_Kinit t 7000 R B) 7000 25 1 7002 j ∧ bd 7775 (u2 (g_Kinit t 7000 R B) 7000 25 1 7002 j)
            rw [cr _ (by decide), up _ (by decide), (o.h j (by omega)).1, Kinit_o (by decide), clk0_z (by decide)]
            exact ⟨rfl, bd.zero⟩
          · show u2 σ 1000 7 1 2002 j = 0
            rw [cr _ (by decide)]
            exact (o.h j h2).1
          · show u2 σ 1000 7 1 2003 j = u2 (g_Kinit t 7000 R B) 7000 25 1 7500 j ∧ bd 7775 (u2 (g_Kinit t 7000 R B) 7000 25 1 7500 j)
            rw [cr _ (by decide), up _ (by decide), (o.h j (by omega)).2.1, Kinit_o (by decide), clk0_z (by decide)]
            exact ⟨rfl, bd.zero⟩
          · show u2 σ 1000 7 1 2004 j = u2 (g_Kinit t 7000 R B) 7000 25 1 7003 j
            rw [cr _ (by decide), up _ (by decide), o.e j (by omega), (Kinit_e hj).1, tq _ (by omega)]
            exact (a.2.2.1 j (by omega)).2.1
          · show u2 σ 1000 7 1 2005 j = u2 (g_Kinit t 7000 R B) 7000 25 1 7004 j ∧ bd 2 (u2 (g_Kinit t 7000 R B) 7000 25 1 7004 j)
            rw [cr _ (by decide), up _ (by decide), o.w j (by omega), (Kinit_e hj).2]
            exact ⟨rfl, rfl, by decide⟩
          · show u2 σ 1000 7 1 2006 j = u2 (g_Kinit t 7000 R B) 7000 25 1 7005 j
            rw [cr _ (by decide), up _ (by decide), (o.h j (by omega)).2.2, Kinit_o (by decide), clk0_z (by decide)]
          · show f_hasWaived (u2 σ 1000 7 1) 2000 j = 0 ↔ u2 (g_Kinit t 7000 R B) 7000 25 1 7700 j = 0
            rw [up _ (by decide), Kinit_o (by decide), clk0_z (by decide), waived0 (by rw [cr _ (by decide)]; exact o.m)]
        all_goals (rw [eK] at hk; exact absurd hk (by omega))
  · rw [if_neg c1, if_neg (fun e => c1 (h.st.trans e))]
    exact h.kept r MK.s00 VK.rfl'
/-! wishes -/
theorem xsum_from {t : Nat → Int32} {y : Int32} {N : Nat} : xit (fun i s => s + t i) N 0 y = y + xsum t N := by
  induction N with
  | zero => exact (Int32.add_zero y).symm
  | succ k ih => rw [xit_last, ih, xsum_s, Int32.add_assoc]
theorem allies_eq {i j : Nat} (hj : bd 3 (σ 1017 i)) (e1 : σ 1017 i = τ (5020 + i) 3) (e2 : σ 1017 j = τ (5020 + j) 3) {x : Int32} : (if f_areAllies σ i j = 0 then (0 : Int32) else x) = (if nI j = nI i then 0 else (if τ (5020 + i) 3 ≤ 0 then 0 else (if τ (5020 + j) 3 = τ (5020 + i) 3 then x else 0))) := by
  unfold f_areAllies
  have z0 : τ (5020 + i) 3 ≤ 0 ↔ σ 1017 i = 0 := by
    rw [← e1, hj.1, nI_le0 (by have := hj.2; omega)]
    exact ⟨fun e => by rw [e]; rfl, fun e => nI_zero (by have := hj.2; omega) e⟩
  by_cases c1 : nI i = nI j
  · rw [if_pos c1, if_pos rfl, if_pos c1.symm]
  · rw [if_neg c1, if_neg (show ¬ nI j = nI i from fun e => c1 e.symm)]
    by_cases c2 : σ 1017 i = 0
    · rw [if_pos c2, if_pos rfl, if_pos (z0.mpr c2)]
    · rw [if_neg c2, if_neg (show ¬ τ (5020 + i) 3 ≤ 0 from fun e => c2 (z0.mp e))]
      by_cases c3 : σ 1017 i = σ 1017 j
      · rw [if_pos c3, if_neg (by decide), if_pos (by rw [← e1, ← e2, c3])]
      · rw [if_neg c3, if_pos rfl, if_neg (show ¬ τ (5020 + j) 3 = τ (5020 + i) 3 from fun e => c3 (by rw [e1, e2, e]))]
theorem may_eq {i r : Nat} {y : Int32} (hi : i < B) (hr : r < 5) (hB6 : B ≤ 6) (hR5 : R ≤ 5) (hy : bd 5 y) (Q : KQ 2000 7000 R B g w n σ τ) (T : TQ R σ τ) (hg : ∀ j, j < 6 → σ 1017 j = τ (5020 + j) 3 ∧ bd 3 (σ 1017 j)) (hc : σ 1001 10 = τ 5000 2) : f_mayWish σ 2000 i r y B = f_McanWish τ i r y R B g := by
  obtain ⟨w1, w2⟩ := Q.wi i hi
  have w1 : σ (2000 + 3) i = τ (7000 + 500 + g) i := w1
  have al : y + f_wishedByAllies σ 2000 i r B = x_McanWish_45 τ i r y R B g y := by
    have e1 : f_wishedByAllies σ 2000 i r B = xsum (fun j => if f_areAllies σ i j = 0 then (0 : Int32) else f_of (τ (7000 + 500 + g) j) r) B := by
      unfold f_wishedByAllies x_wishedByAllies_6 xsum
      refine xit_cg (N := B) (fun j s hj => ?_) B 0 0 (Nat.zero_add _)
      obtain ⟨v1, v2⟩ := Q.wi j hj
      have v1 : σ (2000 + 3) j = τ (7000 + 500 + g) j := v1
      (try dsimp only)
      rw [v1, many_of v2 hr]
      by_cases c : f_areAllies σ i j = 0
      · rw [if_pos c, if_pos c, Int32.add_zero]
      · rw [if_neg c, if_neg c]
    have e2 : x_McanWish_45 τ i r y R B g y = xit (fun j s => s + (if f_areAllies σ i j = 0 then (0 : Int32) else f_of (τ (7000 + 500 + g) j) r)) B 0 y := by
      unfold x_McanWish_45
      refine xit_cg (N := B) (fun j s hj => ?_) B 0 y (Nat.zero_add _)
      (try dsimp only)
      rw [allies_eq (hg i (by omega)).2 (hg i (by omega)).1 (hg j (by omega)).1]
      by_cases c1 : nI j = nI i
      · rw [if_pos c1, if_pos c1]
      · rw [if_neg c1, if_neg c1]
        by_cases c2 : τ (5020 + i) 3 ≤ 0
        · rw [if_pos c2, if_pos c2]
        · rw [if_neg c2, if_neg c2]
          by_cases c3 : τ (5020 + j) 3 = τ (5020 + i) 3
          · rw [if_pos c3, if_pos c3]
          · rw [if_neg c3, if_neg c3]
    rw [e1, e2]
    exact xsum_from.symm
  have pt : f_total (f_replaced (σ (2000 + 3) i) r y) 5 (σ 1011) = f_Mpoints τ (f_with (τ (7000 + 500 + g) i) r y) R := by
    rw [w1, rep_with w2 hr]
    exact points_eq (w2.withd hr hy) hR5 T.pt T.ptz
  unfold f_mayWish f_McanWish
  rw [pt, al, w1, many_of w2 hr, (T.rg r hr).1, Q.el i hi, hc]
  by_cases c1 : f_of (τ (7000 + 500 + g) i) r < y
  · rw [if_pos c1, if_pos c1]
    by_cases c2 : τ (5010 + r) 0 < y
    · rw [if_pos c2, if_pos c2]
    · rw [if_neg c2, if_neg c2]
      by_cases c3 : τ (7000 + 3) i < f_Mpoints τ (f_with (τ (7000 + 500 + g) i) r y) R
      · rw [if_pos c3]
        by_cases c4 : τ 5000 2 < x_McanWish_45 τ i r y R B g y
        · rw [if_pos c4]
        · rw [if_neg c4, if_pos c3]
      · rw [if_neg c3]
        by_cases c4 : τ 5000 2 < x_McanWish_45 τ i r y R B g y
        · rw [if_pos c4, if_pos c4]
        · rw [if_neg c4, if_neg c4, if_neg c3]
  · rw [if_neg c1, if_neg c1]
theorem RC.wish {x y v : Int32} (h : RC τ σ) (r : JR τ) (a : RA τ σ) (z : RZ τ) (j : JC σ) (hR : mR τ = R) (hB : mB τ = B) (hg : mg τ = g) : RC (g_Mwish τ x y v R B g) (g_wish σ x y v R B) := by
  have R5 := r.hR.2
  have B6 := r.hB.2
  have G := r.hg.2
  unfold g_Mwish g_wish
  by_cases c1 : n_lt x B
  · by_cases c2 : n_lt y R
    · by_cases c3 : n_bt v 0 5
      · by_cases c4 : σ 1000 7 = 1
        · have c5 : τ 5000 1 = 1 := h.st.symm.trans c4
          rw [if_pos c1, if_pos c2, if_pos c3, if_pos c5, if_pos c1, if_pos c2, if_pos c3, if_pos c4]
          have Q := h.on1 c5
          rw [hR, hB, hg] at Q
          have T := told a z j
          rw [hR] at T
          have hx := c1.2
          have hy := c2.2
          have hv : bd 5 v := bd.bt (m := 5) c3 (by decide) rfl (by decide)
          have m0 : ∀ q, q ≠ 5000 → u2 τ 5000 0 0 q = τ q := fun q hq => u2_ne hq
          have Q0 : KQ 2000 7000 R B g (mw τ) (mn τ) σ (u2 τ 5000 0 0) := Q.of r.hn.2.1 (by omega) r.hw.2 (fun _ _ _ => rfl) (fun q h1 h2 => m0 q (by omega))
          have T0 : TQ R σ (u2 τ 5000 0 0) := ⟨by rw [u2_oi (by decide)]; exact T.rl, fun r hr => by rw [m0 _ (by omega)]; exact T.rg r hr, fun r hr => by rw [m0 _ (by omega)]; exact T.pt r hr, fun r h1 h2 => by rw [m0 _ (by omega)]; exact T.ptz r h1 h2⟩
          have em : f_mayWish σ 2000 (cn x) (cn y) (nI (cn v)) B = f_McanWish (u2 τ 5000 0 0) (cn x) (cn y) v R B g := by
            rw [← hv.1]
            exact may_eq hx (by omega) (by omega) (by omega) hv Q0 T0 (fun j9 h9 => by
              rw [m0 _ (by omega)]
              exact ⟨(a.2.2.1 j9 h9).2.2.2, (j.hgr j9 h9).1, Nat.le_of_lt_succ (j.hgr j9 h9).2⟩) (by
              rw [u2_oi (by decide)]
              exact a.1.2.1)
          rw [em]
          by_cases c6 : f_McanWish (u2 τ 5000 0 0) (cn x) (cn y) v R B g = 0
          · rw [if_pos c6, if_pos c6]
            exact h.kept r MK.s00 VK.rfl'
          · rw [if_neg c6, if_neg c6, ← hv.1]
            obtain ⟨w1, w2⟩ := Q.wi (cn x) hx
            have w1 : σ 2003 (cn x) = τ (7000 + 500 + g) (cn x) := w1
            have eW : f_replaced (σ (2000 + 3) (cn x)) (cn y) v = f_with (τ (7000 + 500 + g) (cn x)) (cn y) v := by
              rw [show σ (2000 + 3) (cn x) = τ (7000 + 500 + g) (cn x) from w1]
              exact rep_with w2 (by omega)
            rw [eW]
            have bW := w2.withd (r := cn y) (by omega) hv
            generalize f_with (τ (7000 + 500 + g) (cn x)) (cn y) v = W at bW ⊢
            have mr : ∀ q, q ≠ 5000 → q ≠ 7000 + 500 + g → u2 (u2 τ 5000 0 0) (7000 + 500 + g) (cn x) W q = τ q := fun q h1 h2 => by rw [u2_ne h2, u2_ne h1]
            have m5 : ∀ i, i ≠ 0 → u2 (u2 τ 5000 0 0) (7000 + 500 + g) (cn x) W 5000 i = τ 5000 i := fun i hi => by rw [u2_ne (by omega), u2_oi hi]
            have cr : ∀ q, q ≠ 2003 → u2 σ (2000 + 3) (cn x) W q = σ q := fun q hq => u2_ne hq
            have eR : mR (u2 (u2 τ 5000 0 0) (7000 + 500 + g) (cn x) W) = R := by
              show cn (u2 _ _ _ _ 5001 900) = R
              rw [mr _ (by decide) (by omega)]
              exact hR
            have eB : mB (u2 (u2 τ 5000 0 0) (7000 + 500 + g) (cn x) W) = B := by
              show cn (u2 _ _ _ _ 5002 900) = B
              rw [mr _ (by decide) (by omega)]
              exact hB
            have eK : mK (u2 (u2 τ 5000 0 0) (7000 + 500 + g) (cn x) W) = mK τ := by
              show cn (u2 _ _ _ _ 5003 900) = _
              rw [mr _ (by decide) (by omega)]
            have eg : mg (u2 (u2 τ 5000 0 0) (7000 + 500 + g) (cn x) W) = g := by
              show cn (u2 _ _ _ _ 7000 23) = g
              rw [mr _ (by decide) (by omega)]
              exact hg
            have ew : mw (u2 (u2 τ 5000 0 0) (7000 + 500 + g) (cn x) W) = mw τ := by
              show cn (u2 _ _ _ _ 7000 24) = _
              rw [mr _ (by decide) (by omega)]
            have en : mn (u2 (u2 τ 5000 0 0) (7000 + 500 + g) (cn x) W) = mn τ := by
              show cn (u2 _ _ _ _ 7000 21) = _
              rw [mr _ (by decide) (by omega)]
            have K60 := r.hK.2
            have N60 := r.hn.2.1
            have W2 := r.hw.2
            refine ⟨by rw [cr _ (by decide), m5 _ (by decide)]; exact h.st, by rw [cr _ (by decide)]; exact h.sb, by rw [cr _ (by decide), m5 _ (by decide)]; exact h.stp, by rw [cr _ (by decide), mr _ (by decide) (by omega)]; exact h.k, fun e => ?_, fun e => ?_, (by rw [mr 7000 (by decide) (by omega), m5 _ (by decide)]; exact h.fl), ⟨fun k hk => ?_, fun k hk j hj => ?_, fun k hk r hr => ?_, fun k hk j hj => ?_, fun k hk j hj => ?_⟩⟩
            · rw [eR, eB, eg, ew, en]
              refine ⟨?_, fun r hr => ?_, fun r h1 h2 => ?_, fun j hj => ?_, fun j h1 h2 => ?_, fun j hj => ?_, (fun j h1 h2 => by rw [u2_oi (by omega)]; exact Q.wz j h1 h2), fun j hj => ?_, fun j hj => ?_, fun j hj => ?_, fun j hj => ?_, fun k hk => ?_, fun k hk => ?_⟩
              · rw [cr _ (by decide)]; exact Q.c
              · rw [cr _ (by decide), mr _ (by decide) (by omega)]; exact Q.p r hr
              · rw [cr _ (by decide)]; exact Q.pz r h1 h2
              · rw [cr _ (by decide), mr _ (by decide) (by omega)]; exact Q.he j hj
              · rw [cr _ (by decide)]; exact Q.hz j h1 h2
              · by_cases e9 : j = cn x
                · rw [e9, u2_at, u2_at]
                  exact ⟨rfl, bW⟩
                · rw [u2_oi e9, u2_oi e9, u2_ne (show 7000 + 500 + g ≠ 5000 by omega)]
                  exact Q.wi j hj
              · rw [cr _ (by decide), mr _ (by decide) (by omega)]; exact Q.el j hj
              · rw [cr _ (by decide), mr _ (by decide) (by omega)]; exact Q.wv j hj
              · rw [cr _ (by decide), mr _ (by decide) (by omega)]; exact Q.co j hj
              · rw [show f_hasWaived (u2 σ (2000 + 3) (cn x) W) 2000 j = f_hasWaived σ 2000 j from by unfold f_hasWaived; rw [cr _ (by decide)], mr _ (by omega) (by omega)]
                exact Q.ma j hj
              · rw [cr _ (by omega), mr _ (by omega) (by omega)]; exact Q.lp k hk
              · rw [cr _ (by omega), mr _ (by omega) (by omega)]; exact Q.lh k hk
            · rw [m5 _ (by decide)] at e
              exact absurd (c5.symm.trans e) (by decide)
            · rw [eK] at hk
              rw [cr _ (by omega), mr _ (by omega) (by omega)]; exact h.lg.t k hk
            · rw [eK] at hk
              rw [eB, ← hB] at hj
              rw [cr _ (by omega), mr _ (by omega) (by omega)]; exact h.lg.m k hk j hj
            · rw [eK] at hk
              rw [eR, ← hR] at hr
              rw [cr _ (by omega), mr _ (by omega) (by omega)]; exact h.lg.p k hk r hr
            · rw [eK] at hk
              rw [eB, ← hB] at hj
              rw [cr _ (by omega), mr _ (by omega) (by omega)]; exact h.lg.w k hk j hj
            · rw [eK] at hk
              rw [eB, ← hB] at hj
              rw [cr _ (by omega), mr _ (by omega) (by omega)]; exact h.lg.h k hk j hj
        · rw [if_pos c1, if_pos c2, if_pos c3, if_neg (fun e => c4 (h.st.trans e)), if_pos c1, if_pos c2, if_pos c3, if_neg c4]
          exact h.kept r MK.s00 VK.rfl'
      · rw [if_pos c1, if_pos c2, if_neg c3, if_pos c1, if_pos c2, if_neg c3]
        exact h.kept r MK.s00 VK.rfl'
    · rw [if_pos c1, if_neg c2, if_pos c1, if_neg c2]
      exact h.kept r MK.s00 VK.rfl'
  · rw [if_neg c1, if_neg c1]
    exact h.kept r MK.s00 VK.rfl'
end
end
section
/-! ===== the clock: waivers, and the close of rounds ===== -/
section
variable {τ τ2 σ σ2 : XS9} {R B g w n : Nat}
theorem hasW {s : XS9} {b j : Nat} (hj : j < 32) : f_hasWaived s b j = 0 ↔ bt (s b 12) j = false := by
  unfold f_hasWaived
  rw [← b_tst2 hj]
  split
  · rename_i e
    exact ⟨fun _ => e, fun _ => rfl⟩
  · rename_i e
    exact ⟨fun z => absurd z (by decide), fun z => absurd z e⟩
theorem hasW_or {s s2 : XS9} {b i j : Nat} (hi : i < 32) (hj : j < 32) (e : s2 b 12 = (s b 12) ||| (1 <<< ((nI i) &&& 31))) : f_hasWaived s2 b j = 0 ↔ (j ≠ i ∧ f_hasWaived s b j = 0) := by
  rw [hasW hj, hasW hj, e, b_or, b_bit hi hj]
  by_cases q : j = i
  · rw [decide_eq_true q, Bool.or_true]
    exact ⟨fun z => absurd z (by decide), fun z => absurd q z.1⟩
  · rw [decide_eq_false q, Bool.or_false]
    exact ⟨fun z => ⟨q, z⟩, fun z => z.2⟩
theorem RC.waive {x : Int32} (h : RC τ σ) (r : JR τ) (hB : mB τ = B) (hg : mg τ = g) (hw : mw τ = w) : RC (g_Mwaive τ x B g w) (g_waive σ x B) := by
  have B6 := r.hB.2
  have W2 := r.hw.2
  have K60 := r.hK.2
  have N60 := r.hn.2.1
  have G2 := r.hg.2
  unfold g_Mwaive g_waive
  by_cases c1 : n_lt x B
  · by_cases c4 : σ 1000 7 = 1
    · have c5 : τ 5000 1 = 1 := h.st.symm.trans c4
      rw [if_pos c1, if_pos c5, if_pos c1, if_pos c4]
      have Q := h.on1 c5
      rw [hB, hw] at Q
      have hx := c1.2
      obtain ⟨v1, v2⟩ := Q.wv (cn x) hx
      have v1 : σ (2000 + 5) (cn x) = τ (7000 + 4) (cn x) := v1
      have v2 : bd 2 (τ (7000 + 4) (cn x)) := v2
      have ma := Q.ma (cn x) hx
      have ma : f_hasWaived σ 2000 (cn x) = 0 ↔ τ (7000 + 700 + w) (cn x) = 0 := ma
      have z0 : σ (2000 + 5) (cn x) ≤ 0 ↔ τ (7000 + 4) (cn x) = 0 := by
        rw [v1, v2.1, nI_le0 (by have := v2.2; omega)]
        exact ⟨fun e => by rw [e]; rfl, fun e => nI_zero (by have := v2.2; omega) e⟩
      by_cases c6 : τ (7000 + 4) (cn x) = 0
      · rw [if_pos c6, if_pos (z0.mpr c6)]
        exact h.kept r MK.s00 VK.rfl'
      · rw [if_neg c6, if_neg (fun e => c6 (z0.mp e))]
        by_cases c7 : τ (7000 + 700 + w) (cn x) = 0
        · rw [if_pos c7, if_pos (ma.mpr c7)]
          unfold g_useWaiver
          rw [v1]
          have bV : bd 2 (τ (7000 + 4) (cn x) - 1) := by
            have q2 := v2.2
            have q1 : 0 < cn (τ (7000 + 4) (cn x)) := Nat.pos_of_ne_zero fun e => c6 (by rw [v2.1, e]; rfl)
            rw [v2.1, nI_prd1 q1]
            exact bd.nat (by omega) (by decide)
          generalize τ (7000 + 4) (cn x) - 1 = V at bV ⊢
          obtain ⟨M, eM⟩ : ∃ M, M = (σ 2000 12 ||| (1 <<< ((nI (cn x)) &&& 31))) := ⟨_, rfl⟩
          rw [← eM]
          have mr : ∀ q, q ≠ 5000 → q ≠ 7004 → q ≠ 7000 + 700 + w → u2 (u2 (u2 τ 5000 0 0) (7000 + 4) (cn x) V) (7000 + 700 + w) (cn x) 1 q = τ q := fun q h1 h2 h3 => by rw [u2_ne h3, u2_ne h2, u2_ne h1]
          have m5 : ∀ i, i ≠ 0 → u2 (u2 (u2 τ 5000 0 0) (7000 + 4) (cn x) V) (7000 + 700 + w) (cn x) 1 5000 i = τ 5000 i := fun i hi => by rw [u2_ne (by omega), u2_ne (by decide), u2_oi hi]
          have cr : ∀ q, q ≠ 2005 → q ≠ 2000 → u2 (u2 σ (2000 + 5) (cn x) V) 2000 12 M q = σ q := fun q h1 h2 => by rw [u2_ne h2, u2_ne h1]
          have c0 : ∀ i, i ≠ 12 → u2 (u2 σ (2000 + 5) (cn x) V) 2000 12 M 2000 i = σ 2000 i := fun i hi => by rw [u2_oi hi, u2_ne (by decide)]
          have eR : mR (u2 (u2 (u2 τ 5000 0 0) (7000 + 4) (cn x) V) (7000 + 700 + w) (cn x) 1) = mR τ := by
            show cn (u2 _ _ _ _ 5001 900) = _
            rw [mr _ (by decide) (by decide) (by omega)]
          have eB : mB (u2 (u2 (u2 τ 5000 0 0) (7000 + 4) (cn x) V) (7000 + 700 + w) (cn x) 1) = B := by
            show cn (u2 _ _ _ _ 5002 900) = B
            rw [mr _ (by decide) (by decide) (by omega)]
            exact hB
          have eK : mK (u2 (u2 (u2 τ 5000 0 0) (7000 + 4) (cn x) V) (7000 + 700 + w) (cn x) 1) = mK τ := by
            show cn (u2 _ _ _ _ 5003 900) = _
            rw [mr _ (by decide) (by decide) (by omega)]
          have eg : mg (u2 (u2 (u2 τ 5000 0 0) (7000 + 4) (cn x) V) (7000 + 700 + w) (cn x) 1) = mg τ := by
            show cn (u2 _ _ _ _ 7000 23) = _
            rw [mr _ (by decide) (by decide) (by omega)]
          have ew : mw (u2 (u2 (u2 τ 5000 0 0) (7000 + 4) (cn x) V) (7000 + 700 + w) (cn x) 1) = w := by
            show cn (u2 _ _ _ _ 7000 24) = w
            rw [mr _ (by decide) (by decide) (by omega)]
            exact hw
          have en : mn (u2 (u2 (u2 τ 5000 0 0) (7000 + 4) (cn x) V) (7000 + 700 + w) (cn x) 1) = mn τ := by
            show cn (u2 _ _ _ _ 7000 21) = _
            rw [mr _ (by decide) (by decide) (by omega)]
          refine ⟨by rw [cr _ (by decide) (by decide), m5 _ (by decide)]; exact h.st, by rw [cr _ (by decide) (by decide)]; exact h.sb, by rw [cr _ (by decide) (by decide), m5 _ (by decide)]; exact h.stp, by rw [c0 _ (by decide), mr _ (by decide) (by decide) (by omega)]; exact h.k, fun e => ?_, fun e => ?_, (by rw [mr 7000 (by decide) (by decide) (by omega), m5 _ (by decide)]; exact h.fl), ⟨fun k hk => ?_, fun k hk j hj => ?_, fun k hk r hr => ?_, fun k hk j hj => ?_, fun k hk j hj => ?_⟩⟩
          · rw [eR, eB, eg, ew, en]
            refine ⟨?_, fun r hr => ?_, fun r h1 h2 => ?_, fun j hj => ?_, fun j h1 h2 => ?_, fun j hj => ?_, (fun j h1 h2 => by rw [cr _ (by decide) (by decide)]; exact Q.wz j h1 h2), fun j hj => ?_, fun j hj => ?_, fun j hj => ?_, fun j hj => ?_, fun k hk => ?_, fun k hk => ?_⟩
            · rw [c0 _ (by decide)]; exact Q.c
            · rw [cr _ (by decide) (by decide), mr _ (by decide) (by decide) (by omega)]; exact Q.p r hr
            · rw [cr _ (by decide) (by decide)]; exact Q.pz r h1 h2
            · rw [cr _ (by decide) (by decide), mr _ (by decide) (by decide) (by omega)]; exact Q.he j hj
            · rw [cr _ (by decide) (by decide)]; exact Q.hz j h1 h2
            · rw [cr _ (by decide) (by decide), mr _ (by omega) (by omega) (by omega)]; exact Q.wi j hj
            · rw [cr _ (by decide) (by decide), mr _ (by decide) (by decide) (by omega)]; exact Q.el j hj
            · rw [u2_ne (show 2000 + 5 ≠ 2000 by decide), u2_ne (show 7000 + 4 ≠ 7000 + 700 + w by omega)]
              by_cases e9 : j = cn x
              · rw [e9, u2_at, u2_at]
                exact ⟨rfl, bV⟩
              · rw [u2_oi e9, u2_oi e9, u2_ne (show 7000 + 4 ≠ 5000 by decide)]
                exact Q.wv j hj
            · rw [cr _ (by decide) (by decide), mr _ (by decide) (by decide) (by omega)]; exact Q.co j hj
            · rw [hasW_or (s := σ) (s2 := u2 (u2 σ (2000 + 5) (cn x) V) 2000 12 M) (b := 2000) (i := cn x) (j := j) (by omega) (by omega) (by rw [u2_at]; exact eM)]
              by_cases e9 : j = cn x
              · rw [e9, u2_at]
                exact ⟨fun z => absurd rfl z.1, fun z => absurd z (by decide)⟩
              · rw [u2_oi e9, u2_ne (show 7000 + 700 + w ≠ 7000 + 4 by omega), u2_ne (show 7000 + 700 + w ≠ 5000 by omega)]
                exact ⟨fun z => (Q.ma j hj).mp z.2, fun z => ⟨e9, (Q.ma j hj).mpr z⟩⟩
            · rw [cr _ (by omega) (by omega), mr _ (by omega) (by omega) (by omega)]; exact Q.lp k hk
            · rw [cr _ (by omega) (by omega), mr _ (by omega) (by omega) (by omega)]; exact Q.lh k hk
          · rw [m5 _ (by decide)] at e
            exact absurd (c5.symm.trans e) (by decide)
          · rw [eK] at hk
            rw [cr _ (by omega) (by omega), mr _ (by omega) (by omega) (by omega)]; exact h.lg.t k hk
          · rw [eK] at hk
            rw [eB, ← hB] at hj
            rw [cr _ (by omega) (by omega), mr _ (by omega) (by omega) (by omega)]; exact h.lg.m k hk j hj
          · rw [eK] at hk
            rw [eR] at hr
            rw [cr _ (by omega) (by omega), mr _ (by omega) (by omega) (by omega)]; exact h.lg.p k hk r hr
          · rw [eK] at hk
            rw [eB, ← hB] at hj
            rw [cr _ (by omega) (by omega), mr _ (by omega) (by omega) (by omega)]; exact h.lg.w k hk j hj
          · rw [eK] at hk
            rw [eB, ← hB] at hj
            rw [cr _ (by omega) (by omega), mr _ (by omega) (by omega) (by omega)]; exact h.lg.h k hk j hj
        · rw [if_neg c7, if_neg (fun e => c7 (ma.mp e))]
          exact h.kept r MK.s00 VK.rfl'
    · rw [if_pos c1, if_neg (fun e => c4 (h.st.trans e)), if_pos c1, if_neg c4]
      exact h.kept r MK.s00 VK.rfl'
  · rw [if_neg c1, if_neg c1]
    exact h.kept r MK.s00 VK.rfl'
end
end
section
/-! ===== the clock: the close of rounds ===== -/
section
variable {s : XS9} {x : Int32} {b R B n : Nat}
theorem crM_row {K a : Nat} (h : a ≠ b + 2 ∧ a ≠ b + 3 ∧ a ≠ b + 4 ∧ a ≠ b + 6) : crM s b x B R K a = crL s b x K a := by
  unfold crM x_closeRound_92
  refine (xit_keep (fun s : XS9 => s a) (fun i s => by
    show g_moveHeld s b i B a = s a
    exact fr_moveHeld h.1) R 0 _).trans ?_
  rw [fr_lowerEligible h.2.2.1]
  unfold crU
  split
  · rfl
  · exact fr_undoContradictions ⟨h.2.2.2, h.2.1⟩
theorem cR_7 {k : Nat} (h60 : nI n < 60) : g_closeRound s b x B R n (b + 7) k = if k = n then x else s (b + 7) k := by
  rw [closeRound_eq h60, crF_row (by omega), crM_row (by omega)]
  unfold crL
  rw [uR_ne (by omega), uR_ne (by omega), u2_ne (by omega)]
  by_cases e : k = n
  · rw [if_pos e, e, u2_at]
  · rw [if_neg e, u2_oi e]
theorem cR_8 {k : Nat} (h60 : nI n < 60) : g_closeRound s b x B R n (b + 8) k = if k = n then s b 12 else s (b + 8) k := by
  rw [closeRound_eq h60, crF_row (by omega), crM_row (by omega)]
  unfold crL
  rw [uR_ne (by omega), uR_ne (by omega)]
  by_cases e : k = n
  · rw [if_pos e, e, u2_at]
  · rw [if_neg e, u2_oi e, u2_ne (by omega)]
theorem cR_p {r : Nat} (h60 : nI n < 60) (hn : n < 60) (hr : r < 5) : g_closeRound s b x B R n (b + 101 + n) r = s (b + 1) r := by
  rw [closeRound_eq h60, crF_row (by omega), crM_row (by omega), crL_p hn hr]
theorem cR_w {j : Nat} (h60 : nI n < 60) (hn : n < 60) (hj : j < 6) : g_closeRound s b x B R n (b + 201 + n) j = s (b + 3) j := by
  rw [closeRound_eq h60, crF_row (by omega), crM_row (by omega)]
  unfold crL
  rw [uR_eq, cpy_lo hj]
end
section
variable {τ σ : XS9} {gr : Nat → Nat}
theorem RC.clo1 (h : RC τ σ) (a : RA τ σ) (z : RZ τ) (jc : JC σ) (r : JR τ) (js : JS τ) (hs : τ 5000 1 = 1) : RC (g_clo1 τ (mR τ) (mB τ) (mn τ) (mg τ) (mw τ) (mn τ)) (g_closeRound σ 2000 (τ 5000 4) (mB τ) (mR τ) (mn τ)) ∧ f_closeRound σ 2000 (τ 5000 4) (mB τ) (mR τ) (mn τ) = g_clo1 τ (mR τ) (mB τ) (mn τ) (mg τ) (mw τ) (mn τ) 7000 9 := by
  obtain ⟨_, _, e1, e2, e3, g9⟩ := js.1 hs
  have hR := r.hR
  have hB := r.hB
  have hg : mg τ < 199 := by omega
  have hw : mw τ < 199 := by omega
  have Q := h.on1 hs
  have T := told a z jc
  have h60 : nI (mn τ) < 60 := (nI_ltI (a := mn τ) (b := 60) (by omega) (by omega)).mpr g9
  obtain ⟨C1, C2⟩ := close_sim (x := τ 5000 4) (b := 2000) (b' := 7000) (by omega) (by omega) hR.2 hB.2 g9 hg hw Q T
  have lt := h.lg.t
  have lm := h.lg.m
  have lp := h.lg.p
  have lw := h.lg.w
  have lh := h.lg.h
  rw [e3] at lt lm lp lw lh
  generalize eR : mR τ = R at *
  generalize eB : mB τ = B at *
  generalize eg : mg τ = g at *
  generalize ew : mw τ = w at *
  generalize en : mn τ = n at *
  have cc := clo1_c (σ := τ) (R := R) (B := B) hg hw g9 g9
  have c1 := clo1_n (σ := τ) (R := R) (B := B) (K := n) (g := g) (w := w) (n := n)
  have fr : ∀ q, (q < 5003 ∨ (5003 < q ∧ q < 5200) ∨ (8000 ≤ q)) → g_clo1 τ R B n g w n q = τ q := fun q hq => fr_clo1 hg hw g9 g9 (by omega)
  have fl : ∀ q k, k < n → (q = 5200 + k ∨ q = 6000 + k ∨ q = 6100 + k ∨ q = 6200 + k ∨ q = 6300 + k) → g_clo1 τ R B n g w n q = τ q := fun q k hk hq => fr_clo1 hg hw g9 g9 (by omega)
  have f7 : ∀ q, 7000 ≤ q → q < 8000 → g_clo1 τ R B n g w n q = g_Kclose τ (τ 5000 4) 7000 R B g w n q := fun q h1 h2 => by
    unfold g_clo1
    exact fr_rnd (by omega)
  have rp := rnd_p (σ := g_Kclose τ (τ 5000 4) 7000 R B g w n) (K := n) (t := τ 5000 4) (f1 := τ (7000 + 1)) (f2 := τ (7000 + 500 + g)) (f3 := g_Kclose τ (τ 5000 4) 7000 R B g w n (7000 + 2)) (f4 := τ (7000 + 700 + w)) g9
  have m60 : g_clo1 τ R B n g w n (6000 + n) = τ 7001 := rp.1
  have m61 : g_clo1 τ R B n g w n (6100 + n) = τ (7000 + 500 + g) := rp.2.1
  have m62 : g_clo1 τ R B n g w n (6200 + n) = g_Kclose τ (τ 5000 4) 7000 R B g w n 7002 := rp.2.2.1
  have m63 : g_clo1 τ R B n g w n (6300 + n) = τ (7000 + 700 + w) := rp.2.2.2.1
  have m52 : g_clo1 τ R B n g w n (5200 + n) 0 = τ 5000 4 := congrFun rp.2.2.2.2 0
  have fc : ∀ q, q < 2000 → g_closeRound σ 2000 (τ 5000 4) B R n q = σ q := fun q hq => fr_closeRound (by omega)
  have fcl : ∀ q k, k < n → (q = 2101 + k ∨ q = 2201 + k ∨ q = 2301 + k) → g_closeRound σ 2000 (τ 5000 4) B R n q = σ q := fun q k hk hq => fr_closeRound (by omega)
  have cR : mR (g_clo1 τ R B n g w n) = R := by
    show cn (g_clo1 τ R B n g w n 5001 900) = R
    rw [fr _ (by omega)]
    exact eR
  have cB : mB (g_clo1 τ R B n g w n) = B := by
    show cn (g_clo1 τ R B n g w n 5002 900) = B
    rw [fr _ (by omega)]
    exact eB
  have cK : mK (g_clo1 τ R B n g w n) = n + 1 := by
    show cn (g_clo1 τ R B n g w n 5003 900) = n + 1
    rw [c1, cn_nI (by omega)]
  have cg : mg (g_clo1 τ R B n g w n) = g + 1 := by
    show cn (g_clo1 τ R B n g w n 7000 23) = g + 1
    rw [cc.2.2.2.2.1, cn_nI (by omega)]
  have cw : mw (g_clo1 τ R B n g w n) = w + 1 := by
    show cn (g_clo1 τ R B n g w n 7000 24) = w + 1
    rw [cc.2.2.2.2.2, cn_nI (by omega)]
  have cN : mn (g_clo1 τ R B n g w n) = n + 1 := by
    show cn (g_clo1 τ R B n g w n 7000 21) = n + 1
    rw [cc.2.2.1, cn_nI (by omega)]
  refine ⟨⟨?_, ?_, ?_, ?_, fun _ => ?_, fun e => ?_, (by rw [cc.2.1, fr _ (by omega)]; exact h.fl), ⟨fun k hk => ?_, fun k hk j hj => ?_, fun k hk r hr => ?_, fun k hk j hj => ?_, fun k hk j hj => ?_⟩⟩, ?_⟩
  · rw [fc _ (by decide), fr _ (by omega)]; exact h.st
  · rw [fc _ (by decide)]; exact h.sb
  · rw [fc _ (by decide), fr _ (by omega)]; exact h.stp
  · rw [c1]; exact C1.c
  · rw [cR, cB, cg, cw, cN]
    exact C1.of (by omega) (by omega) (by omega) (fun _ _ _ => rfl) (fun q h1 h2 => f7 q (by omega) (by omega))
  · rw [fr _ (by omega)] at e
    exact absurd (hs.symm.trans e) (by decide)
  · rw [cK] at hk
    refine (cR_7 (b := 2000) h60).trans ?_
    by_cases e : k = n
    · rw [if_pos e, e, m52]
    · rw [if_neg e, fl _ k (by omega) (.inl rfl)]
      exact lt k (by omega)
  · rw [cK] at hk
    rw [cB] at hj
    rw [show g_closeRound σ 2000 (τ 5000 4) B R n 2008 k = if k = n then σ 2000 12 else σ 2008 k from cR_8 (b := 2000) h60]
    by_cases e : k = n
    · rw [if_pos e, e, m63]
      have q := Q.ma j hj
      unfold f_hasWaived at q
      refine Iff.trans ?_ q
      split
      · rename_i y
        exact ⟨fun _ => rfl, fun _ => y⟩
      · rename_i y
        exact ⟨fun v => absurd v y, fun v => absurd v (by decide)⟩
    · rw [if_neg e, fl _ k (by omega) (.inr (.inr (.inr (.inr rfl))))]
      exact lm k (by omega) j hj
  · rw [cK] at hk
    rw [cR] at hr
    by_cases e : k = n
    · rw [e, m60, show g_closeRound σ 2000 (τ 5000 4) B R n (2101 + n) r = σ 2001 r from cR_p (b := 2000) h60 g9 (by omega)]
      exact Q.p r hr
    · rw [fl _ k (by omega) (.inr (.inl rfl)), fcl _ k (by omega) (.inl rfl)]
      exact lp k (by omega) r hr
  · rw [cK] at hk
    rw [cB] at hj
    by_cases e : k = n
    · rw [e, m61, show g_closeRound σ 2000 (τ 5000 4) B R n (2201 + n) j = σ 2003 j from cR_w (b := 2000) h60 g9 (by omega)]
      exact (Q.wi j hj).1
    · rw [fl _ k (by omega) (.inr (.inr (.inl rfl))), fcl _ k (by omega) (.inr (.inl rfl))]
      exact lw k (by omega) j hj
  · rw [cK] at hk
    rw [cB] at hj
    by_cases e : k = n
    · rw [e, m62]
      have q := (C1.lh n (by omega) j hj).1
      have q2 : g_Kclose τ (τ 5000 4) 7000 R B g w n (7000 + 200 + n) = g_Kclose τ (τ 5000 4) 7000 R B g w n 7002 := by
        rw [Kclose_eq]
        exact (kcF_log hg g9).trans (kcF_row (show 7000 + 2 ≠ 7000 ∧ 7000 + 2 ≠ 7000 + 200 + n ∧ 7000 + 2 ≠ 7000 + 500 + (g + 1) ∧ 7000 + 2 ≠ 7000 + 700 + (w + 1) by omega)).symm
      rw [q2] at q
      exact q
    · rw [fl _ k (by omega) (.inr (.inr (.inr (.inl rfl)))), fcl _ k (by omega) (.inr (.inr rfl))]
      exact lh k (by omega) j hj
  · rw [C2, f7 _ (by decide) (by decide)]
theorem MK.over {R B n g w : Nat} {pk : Nat → Nat} {t : XS9} (hB6 : B ≤ 6) : MK t (x_McloseOne_122 τ R B n g w n pk t) := by
  unfold x_McloseOne_122
  refine xit_inv (fun s : XS9 => MK t s) (N := B) (fun i s hi hP => ?_) B 0 _ (Nat.zero_add _) MK.rfl'
  (try dsimp only)
  split
  · exact hP
  · exact hP.trans (MK.madd (by omega))
theorem VK.over {R B K : Nat} {s : XS9} (hB6 : B ≤ 6) (hg : ∀ i, i < 6 → gr i < 4) (jc : JC s) : VK (u2 s 1000 7 2) (g_endClock s R B K gr) := by
  have hx : XCT (u2 s 1000 7 2) := fun i hi => by
    rw [u2_ne (by omega)]
    exact jc.hct i hi
  have H := endClock_loop (σ := s) (R := R) (K := K) hB6 hg (s0 := u2 s 1000 7 2) hx
  unfold g_endClock
  exact (VK.rows fun q hq => H.2 q (by omega)).trans VK.find
/-- one close on both sides -/
theorem RC.clo (h : RC τ σ) (a : RA τ σ) (z : RZ τ) (jc : JC σ) (r : JR τ) (js : JS τ) (hs : τ 5000 1 = 1) (hg : ∀ i, i < 6 → gr i < 4) : RC (g_clo τ) (if f_closeRound σ 2000 (σ 1000 8) (mB τ) (mR τ) (cn (σ 2000 9)) = 0 then g_closeRound σ 2000 (σ 1000 8) (mB τ) (mR τ) (cn (σ 2000 9)) else g_endClock (g_closeRound σ 2000 (σ 1000 8) (mB τ) (mR τ) (cn (σ 2000 9))) (mR τ) (mB τ) (min (cn (σ 2000 9)) 59) gr) := by
  obtain ⟨_, _, e1, e2, e3, g9⟩ := js.1 hs
  have hB6 := r.hB.2
  have jc2 : JC (g_closeRound σ 2000 (σ 1000 8) (mB τ) (mR τ) (cn (σ 2000 9))) := jc.closeRound
  have ek : cn (σ 2000 9) = mn τ := (congrArg cn h.k).trans e3
  obtain ⟨A, F⟩ := RC.clo1 h a z jc r js hs
  show RC (g_McloseOne τ (mR τ) (mB τ) (mK τ) (mg τ) (mw τ) (mn τ) (mpk τ)) _
  rw [ek, h.stp] at jc2 ⊢
  rw [e3]
  have cK : mK (g_clo1 τ (mR τ) (mB τ) (mn τ) (mg τ) (mw τ) (mn τ)) ≤ 60 := by
    show cn (g_clo1 τ (mR τ) (mB τ) (mn τ) (mg τ) (mw τ) (mn τ) 5003 900) ≤ 60
    rw [clo1_n, cn_nI (by omega)]
    omega
  have hbc : mn (g_clo1 τ (mR τ) (mB τ) (mn τ) (mg τ) (mw τ) (mn τ)) ≤ 60 ∧ mg (g_clo1 τ (mR τ) (mB τ) (mn τ) (mg τ) (mw τ) (mn τ)) < 200 ∧ mw (g_clo1 τ (mR τ) (mB τ) (mn τ) (mg τ) (mw τ) (mn τ)) < 200 := by
    have cc := clo1_c (σ := τ) (R := mR τ) (B := mB τ) (K := mn τ) (g := mg τ) (w := mw τ) (n := mn τ) (by omega) (by omega) g9 g9
    refine ⟨?_, ?_, ?_⟩
    · show cn (g_clo1 τ (mR τ) (mB τ) (mn τ) (mg τ) (mw τ) (mn τ) 7000 21) ≤ 60
      rw [cc.2.2.1, cn_nI (by omega)]
      omega
    · show cn (g_clo1 τ (mR τ) (mB τ) (mn τ) (mg τ) (mw τ) (mn τ) 7000 23) < 200
      rw [cc.2.2.2.2.1, cn_nI (by omega)]
      omega
    · show cn (g_clo1 τ (mR τ) (mB τ) (mn τ) (mg τ) (mw τ) (mn τ) 7000 24) < 200
      rw [cc.2.2.2.2.2, cn_nI (by omega)]
      omega
  have hst : g_clo1 τ (mR τ) (mB τ) (mn τ) (mg τ) (mw τ) (mn τ) 5000 1 = 1 := by
    rw [fr_clo1 (by omega) (by omega) g9 g9 (by omega)]
    exact hs
  unfold g_McloseOne
  rw [← F]
  by_cases c : f_closeRound σ 2000 (τ 5000 4) (mB τ) (mR τ) (mn τ) = 0
  · rw [if_pos c, if_pos c]
    exact A
  · rw [if_neg c, if_neg c]
    have e2 : u2 (g_clo1 τ (mR τ) (mB τ) (mn τ) (mg τ) (mw τ) (mn τ)) 5000 1 2 5000 1 = 2 := u2_at
    have A2 : RC (u2 (g_clo1 τ (mR τ) (mB τ) (mn τ) (mg τ) (mw τ) (mn τ)) 5000 1 2) (u2 (g_closeRound σ 2000 (τ 5000 4) (mB τ) (mR τ) (mn τ)) 1000 7 2) := A.mid hbc (fun q hq => u2_ne hq) (fun q hq => u2_ne hq) (by rw [u2_at, u2_at]) (by rw [u2_at]; exact ⟨rfl, by decide⟩) (by
      rw [u2_oi (by decide), u2_oi (by decide)]
      exact A.stp) (fun _ e => absurd (hst.symm.trans e) (by decide)) (fun e => absurd (e2.symm.trans e) (by decide))
    refine A2.kept0 ?_ ⟨?_, ?_, ?_⟩ (MK.over hB6) (VK.over hB6 hg jc2)
    · show cn (u2 _ _ _ _ 5003 900) ≤ 60
      rw [u2_ne (by decide)]
      exact cK
    · show cn (u2 _ _ _ _ 7000 21) ≤ 60
      rw [u2_ne (by decide)]
      exact hbc.1
    · show cn (u2 _ _ _ _ 7000 23) < 200
      rw [u2_ne (by decide)]
      exact hbc.2.1
    · show cn (u2 _ _ _ _ 7000 24) < 200
      rw [u2_ne (by decide)]
      exact hbc.2.2
end
end
section
/-! ===== the clock: some closes at once ===== -/
section
variable {τ σ : XS9} {gr : Nat → Nat} {R B : Nat}
def PCl (R B : Nat) (τ σ : XS9) : Prop := (RC τ σ ∧ RA τ σ ∧ RZ τ) ∧ (JC σ ∧ KB σ) ∧ (JR τ ∧ JS τ ∧ JP τ) ∧ mR τ = R ∧ mB τ = B
def stCl (R B : Nat) (gr : Nat → Nat) (_ : Nat) (s14 : XS9) : XS9 ⊕ XS9 := (if (s14 1000 7) = 1 then (if (f_closeRound s14 2000 (s14 1000 8) B R (cn (s14 2000 9))) = 0 then .inl (g_closeRound s14 2000 (s14 1000 8) B R (cn (s14 2000 9))) else .inl (g_endClock (g_closeRound s14 2000 (s14 1000 8) B R (cn (s14 2000 9))) R B (min (cn (s14 2000 9)) 59) gr)) else .inr s14)
def stMc (_ : Nat) (s37 : XS9) : XS9 ⊕ XS9 := (if (s37 5000 1) = 1 then .inl (g_clo s37) else .inr s37)
theorem PCl.fin {t : XS9} (P : PCl R B τ σ) (hs : τ 5000 1 = 1) (j : JC t ∧ KB t) (v : VA σ t) (x : RC (g_clo τ) t) : PCl R B (g_clo τ) t := by
  obtain ⟨⟨h, a, z⟩, ⟨jc, kb⟩, ⟨r, js, jp⟩, eR, eB⟩ := P
  have ca := clo_all r js jp hs
  have m := MA.clo r js hs
  refine ⟨⟨x, a.kept m v, z.kept m⟩, j, ca.1, ?_, ?_⟩
  · exact (congrArg cn ca.2.1.1).trans eR
  · exact (congrArg cn ca.2.1.2.1).trans eB
theorem close_loop (hg : ∀ i, i < 6 → gr i < 4) : ∀ (f i : Nat) (τ σ : XS9), PCl R B τ σ → PCl R B (xitB stMc f i τ) (xitB (stCl R B gr) f i σ)
  | 0, _, _, _, P => P
  | f + 1, i, τ, σ, P => by
    have P0 := P
    obtain ⟨⟨h, a, z⟩, ⟨jc, kb⟩, ⟨r, js, jp⟩, eR, eB⟩ := P0
    by_cases hs : τ 5000 1 = 1
    · have hc : σ 1000 7 = 1 := h.st.trans hs
      have X := h.clo a z jc r js hs hg
      have hR5 := r.hR.2
      have hB6 := r.hB.2
      rw [eR] at hR5
      rw [eB] at hB6
      rw [eR, eB] at X
      have h60 := jc.hK.2
      have C1 : JC (g_closeRound σ 2000 (σ 1000 8) B R (cn (σ 2000 9))) ∧ KB (g_closeRound σ 2000 (σ 1000 8) B R (cn (σ 2000 9))) := ⟨jc.closeRound, kb.closeRound kb.2.2.2.2.2 hR5 hB6 h60⟩
      have C2 : VA σ (g_closeRound σ 2000 (σ 1000 8) B R (cn (σ 2000 9))) := VA.rows fun q hq => fr_closeRound (by omega)
      rw [xitB_l (show stMc i τ = .inl (g_clo τ) from if_pos hs)]
      by_cases c : f_closeRound σ 2000 (σ 1000 8) B R (cn (σ 2000 9)) = 0
      · rw [if_pos c] at X
        rw [xitB_l (show stCl R B gr i σ = .inl (g_closeRound σ 2000 (σ 1000 8) B R (cn (σ 2000 9))) from (if_pos hc).trans (if_pos c))]
        exact close_loop hg f (i + 1) _ _ (P.fin hs C1 C2 X)
      · rw [if_neg c] at X
        rw [xitB_l (show stCl R B gr i σ = .inl (g_endClock (g_closeRound σ 2000 (σ 1000 8) B R (cn (σ 2000 9))) R B (min (cn (σ 2000 9)) 59) gr) from (if_pos hc).trans (if_neg c))]
        exact close_loop hg f (i + 1) _ _ (P.fin hs (JK.endClock C1.1 C1.2 hB6 (by omega) hg) (C2.trans (VA.endClock C1.1 hB6 hg)) X)
    · rw [xitB_r (show stMc i τ = .inr τ from if_neg hs), xitB_r (show stCl R B gr i σ = .inr σ from if_neg (fun e => hs (h.st.symm.trans e)))]
      exact P
theorem PCl.s0 (P : PCl R B τ σ) : PCl R B (u2 τ 5000 0 0) σ := by
  obtain ⟨⟨h, a, z⟩, j, ⟨r, js, jp⟩, eR, eB⟩ := P
  refine ⟨⟨h.kept r MK.s0 VK.rfl', a.kept MA.s0 VA.rfl', z.kept MA.s0⟩, j, ⟨r.s0, js.s0 r, jp.s0⟩, ?_, ?_⟩
  · refine Eq.trans ?_ eR
    show cn (u2 _ _ _ _ 5001 900) = _
    rw [u2_ne (by decide)]
  · refine Eq.trans ?_ eB
    show cn (u2 _ _ _ _ 5002 900) = _
    rw [u2_ne (by decide)]
theorem PCl.close {x : Int32} (P : PCl R B τ σ) (hg : ∀ i, i < 6 → gr i < 4) : RC (g_Mclose τ x) (g_close σ x R B gr) := by
  have P0 := P.s0
  have h := P.1.1
  have r := P.2.2.1.1
  unfold g_Mclose g_close
  by_cases c1 : n_bt x 1 9
  · by_cases c2 : τ 5000 1 = 1
    · rw [if_pos c1, if_pos c2, if_pos c1, if_pos (h.st.trans c2)]
      exact (close_loop hg (cn x) 0 _ _ P0).1.1
    · rw [if_pos c1, if_neg c2, if_pos c1, if_neg (fun e => c2 (h.st.symm.trans e))]
      exact h.kept r MK.s00 VK.rfl'
  · rw [if_neg c1, if_neg c1]
    exact h.kept r MK.s00 VK.rfl'
theorem RC.init : RC s0M s0C := by
  refine ⟨rfl, ⟨rfl, by decide⟩, rfl, rfl, fun e => absurd rfl e, fun _ => ⟨fun _ _ => rfl, fun _ _ => rfl, fun _ _ => ⟨rfl, rfl, rfl⟩, fun j hj => absurd hj (Nat.not_lt_zero _), rfl⟩, ⟨fun _ => rfl, fun _ => rfl⟩, ⟨fun k hk => absurd hk (Nat.not_lt_zero _), fun k hk => absurd hk (Nat.not_lt_zero _), fun k hk => absurd hk (Nat.not_lt_zero _), fun k hk => absurd hk (Nat.not_lt_zero _), fun k hk => absurd hk (Nat.not_lt_zero _)⟩⟩
end
end
section
/-! ===== the clock's answers ===== -/
section
variable {τ σ : XS9} {gr : Nat → Nat} {R B g w : Nat} {x y v : Int32}
theorem says_step (h : RC τ σ) (r : JR τ) : g_Mstep τ x 5000 0 = lw_k [eIAE, eISE] (o_step σ x) ∧ ∀ w, o_step σ x = .inl w → w = f_Mstep τ x := by
  unfold g_Mstep o_step f_Mstep
  have ok : u2 (u2 τ 5000 0 0) 5000 4 x 5000 0 = lw_k [eIAE, eISE] (.inl (σ 1000 8) : Int32 ⊕ String) ∧ ∀ w, (.inl (σ 1000 8) : Int32 ⊕ String) = .inl w → w = τ 5000 4 := ⟨by
    rw [u2_oi (by decide), u2_at]
    rfl, fun w e => by
    rw [← Sum.inl.inj e]
    exact h.stp⟩
  by_cases c1 : n_bt x 1 20
  · by_cases c2 : σ 1000 7 = 0
    · have c4 : τ 5000 1 ≤ 1 := by
        rw [← h.st]
        exact (stage01 h.sb).mpr (.inl c2)
      simp only [if_pos c1, if_pos c2, if_pos c4]
      exact ok
    · by_cases c3 : σ 1000 7 = 1
      · have c4 : τ 5000 1 ≤ 1 := by
          rw [← h.st]
          exact (stage01 h.sb).mpr (.inr c3)
        simp only [if_pos c1, if_neg c2, if_pos c3, if_pos c4]
        exact ok
      · have c4 : ¬ τ 5000 1 ≤ 1 := by
          rw [← h.st]
          exact fun z => ((stage01 h.sb).mp z).elim c2 c3
        simp only [if_pos c1, if_neg c2, if_neg c3, if_neg c4]
        exact bad rfl
  · simp only [if_neg c1]
    exact bad rfl
theorem says_open (h : RC τ σ) (r : JR τ) (a : RA τ σ) (z : RZ τ) : g_Mopen τ (mR τ) (mB τ) 5000 0 = lw_k [eISE] (o_open σ (mR τ) (mB τ)) ∧ ∀ w, o_open σ (mR τ) (mB τ) = .inl w → w = f_Mopen τ (mR τ) (mB τ) := by
  have R5 := r.hR.2
  have B6 := r.hB.2
  unfold g_Mopen o_open f_Mopen
  by_cases c1 : σ 1000 7 = 0
  · have c2 : τ 5000 1 = 0 := h.st.symm.trans c1
    by_cases c3 : mR τ = 0
    · simp only [if_pos c1, if_pos c2, if_pos c3, if_pos (show nI (mR τ) = 0 by rw [c3]; rfl)]
      exact bad rfl
    · have d3 : ¬ nI (mR τ) = 0 := fun e => c3 (nI_zero (by omega) e)
      by_cases c4 : mB τ = 0
      · simp only [if_pos c1, if_pos c2, if_neg c3, if_neg d3, if_pos c4, if_pos (show nI (mB τ) = 0 by rw [c4]; rfl)]
        exact bad rfl
      · have d4 : ¬ nI (mB τ) = 0 := fun e => c4 (nI_zero (by omega) e)
        simp only [if_pos c1, if_pos c2, if_neg c3, if_neg d3, if_neg c4, if_neg d4]
        have o := h.off c2
        have lo : ∀ (t : XS9) q, q < 7000 → u2 (g_Kinit t 7000 (mR τ) (mB τ)) 7000 25 1 q = t q := fun t q hq => by rw [u2_ne (by omega), fr_Kinit (by omega)]
        refine ⟨?_, fun w e => ?_⟩
        · rw [lo _ _ (by decide), u2_oi (by decide), u2_at]
          rfl
        · rw [← Sum.inl.inj e]
          have e1 : f_allPrices (u2 σ 1000 7 1) 2000 = xsum (fun i => σ 2001 i) 5 := rfl
          rw [e1, xsum_cut (N := mR τ) (M := 5) (fun j h1 h2 => by
            rw [o.p j h2, (a.2.1 j h2).2.2.1]
            exact (z j h1 h2).2.2) R5]
          unfold xsum
          refine xit_cg (N := mR τ) (fun i s hi => ?_) (mR τ) 0 0 (Nat.zero_add _)
          (try dsimp only)
          rw [lo _ _ (by omega), u2_ne (by omega), u2_ne (by omega), o.p i (by omega), (a.2.1 i (by omega)).2.2.1]
  · simp only [if_neg c1, if_neg (fun e => c1 (h.st.trans e))]
    exact bad rfl
theorem says_wish (h : RC τ σ) (r : JR τ) (a : RA τ σ) (z : RZ τ) (j : JC σ) : g_Mwish τ x y v (mR τ) (mB τ) (mg τ) 5000 0 = lw_k [eIOB, eIAE, eISE] (o_wish σ x y v (mR τ) (mB τ)) ∧ ∀ w, o_wish σ x y v (mR τ) (mB τ) = .inl w → w = f_Mwish τ x y v (mR τ) (mB τ) (mg τ) := by
  have R5 := r.hR.2
  have B6 := r.hB.2
  have G := r.hg.2
  unfold g_Mwish o_wish f_Mwish
  by_cases c1 : n_lt x (mB τ)
  · by_cases c2 : n_lt y (mR τ)
    · by_cases c3 : n_bt v 0 5
      · by_cases c4 : σ 1000 7 = 1
        · have c5 : τ 5000 1 = 1 := h.st.symm.trans c4
          have Q := h.on1 c5
          have T := told a z j
          have hx := c1.2
          have hy := c2.2
          have hv : bd 5 v := bd.bt (m := 5) c3 (by decide) rfl (by decide)
          have m0 : ∀ q, q ≠ 5000 → u2 τ 5000 0 0 q = τ q := fun q hq => u2_ne hq
          have Q0 : KQ 2000 7000 (mR τ) (mB τ) (mg τ) (mw τ) (mn τ) σ (u2 τ 5000 0 0) := Q.of r.hn.2.1 (by omega) r.hw.2 (fun _ _ _ => rfl) (fun q h1 h2 => m0 q (by omega))
          have T0 : TQ (mR τ) σ (u2 τ 5000 0 0) := ⟨by rw [u2_oi (by decide)]; exact T.rl, fun r hr => by rw [m0 _ (by omega)]; exact T.rg r hr, fun r hr => by rw [m0 _ (by omega)]; exact T.pt r hr, fun r h1 h2 => by rw [m0 _ (by omega)]; exact T.ptz r h1 h2⟩
          have em : f_mayWish σ 2000 (cn x) (cn y) (nI (cn v)) (mB τ) = f_McanWish (u2 τ 5000 0 0) (cn x) (cn y) v (mR τ) (mB τ) (mg τ) := by
            rw [← hv.1]
            exact may_eq hx (by omega) (by omega) (by omega) hv Q0 T0 (fun j9 h9 => by
              rw [m0 _ (by omega)]
              exact ⟨(a.2.2.1 j9 h9).2.2.2, (j.hgr j9 h9).1, Nat.le_of_lt_succ (j.hgr j9 h9).2⟩) (by
              rw [u2_oi (by decide)]
              exact a.1.2.1)
          by_cases c6 : f_McanWish (u2 τ 5000 0 0) (cn x) (cn y) v (mR τ) (mB τ) (mg τ) = 0
          · simp only [if_pos c1, if_pos c2, if_pos c3, if_pos c4, if_pos c5, em, if_pos c6]
            exact bad rfl
          · simp only [if_pos c1, if_pos c2, if_pos c3, if_pos c4, if_pos c5, em, if_neg c6]
            refine ⟨?_, fun w e => ?_⟩
            · rw [u2_ne (by omega), u2_at]
              rfl
            · rw [← Sum.inl.inj e, ← hv.1]
              obtain ⟨w1, w2⟩ := Q.wi (cn x) hx
              rw [show σ (2000 + 3) (cn x) = τ (7000 + 500 + mg τ) (cn x) from w1, rep_with w2 (by omega)]
              exact points_eq (w2.withd (by omega) hv) R5 (fun i hi => by
                rw [u2_ne (by omega), u2_ne (by omega)]
                exact T.pt i hi) (fun i h1 h2 => by
                rw [u2_ne (by omega), u2_ne (by omega)]
                exact T.ptz i h1 h2)
        · simp only [if_pos c1, if_pos c2, if_pos c3, if_neg c4, if_neg (fun e => c4 (h.st.trans e))]
          exact bad rfl
      · simp only [if_pos c1, if_pos c2, if_neg c3]
        exact bad rfl
    · simp only [if_pos c1, if_neg c2]
      exact bad rfl
  · simp only [if_neg c1]
    exact bad rfl
theorem says_waive (h : RC τ σ) (r : JR τ) : g_Mwaive τ x (mB τ) (mg τ) (mw τ) 5000 0 = lw_k [eIOB, eISE] (o_waive σ x (mB τ)) ∧ ∀ u, o_waive σ x (mB τ) = .inl u → u = f_Mwaive τ x (mB τ) (mg τ) (mw τ) := by
  have B6 := r.hB.2
  have W2 := r.hw.2
  unfold g_Mwaive o_waive f_Mwaive
  by_cases c1 : n_lt x (mB τ)
  · by_cases c4 : σ 1000 7 = 1
    · have c5 : τ 5000 1 = 1 := h.st.symm.trans c4
      have Q := h.on1 c5
      have hx := c1.2
      obtain ⟨v1, v2⟩ := Q.wv (cn x) hx
      have v1 : σ (2000 + 5) (cn x) = τ (7000 + 4) (cn x) := v1
      have v2 : bd 2 (τ (7000 + 4) (cn x)) := v2
      have ma : f_hasWaived σ 2000 (cn x) = 0 ↔ τ (7000 + 700 + mw τ) (cn x) = 0 := Q.ma (cn x) hx
      have z0 : σ (2000 + 5) (cn x) ≤ 0 ↔ τ (7000 + 4) (cn x) = 0 := by
        rw [v1, v2.1, nI_le0 (by have := v2.2; omega)]
        exact ⟨fun e => by rw [e]; rfl, fun e => nI_zero (by have := v2.2; omega) e⟩
      by_cases c6 : τ (7000 + 4) (cn x) = 0
      · simp only [if_pos c1, if_pos c4, if_pos c5, if_pos c6, if_pos (show τ 7004 (cn x) = 0 from c6), if_pos (z0.mpr c6), if_pos (show σ 2005 (cn x) ≤ 0 from z0.mpr c6)]
        exact bad rfl
      · by_cases c7 : τ (7000 + 700 + mw τ) (cn x) = 0
        · simp only [if_pos c1, if_pos c4, if_pos c5, if_neg c6, if_neg (show ¬ τ 7004 (cn x) = 0 from c6), if_neg (fun e => c6 (z0.mp e)), if_neg (show ¬ σ 2005 (cn x) ≤ 0 from fun e => c6 (z0.mp e)), if_pos c7, if_pos (show τ (7700 + mw τ) (cn x) = 0 from c7), if_pos (ma.mpr c7)]
          refine ⟨?_, fun u e => ?_⟩
          · rw [u2_ne (by omega), u2_ne (by decide), u2_at]
            rfl
          · rw [← Sum.inl.inj e]
            unfold g_useWaiver
            rw [u2_ne (by decide), u2_at, v1]
        · simp only [if_pos c1, if_pos c4, if_pos c5, if_neg c6, if_neg (show ¬ τ 7004 (cn x) = 0 from c6), if_neg (fun e => c6 (z0.mp e)), if_neg (show ¬ σ 2005 (cn x) ≤ 0 from fun e => c6 (z0.mp e)), if_neg c7, if_neg (show ¬ τ (7700 + mw τ) (cn x) = 0 from c7), if_neg (fun e => c7 (ma.mp e))]
          exact bad rfl
    · simp only [if_pos c1, if_neg c4, if_neg (fun e => c4 (h.st.trans e))]
      exact bad rfl
  · simp only [if_neg c1]
    exact bad rfl
theorem clo_t (js : JS τ) (hs : τ 5000 1 = 1) : g_clo τ 5000 0 = τ 5000 0 := by
  obtain ⟨_, _, e1, e2, e3, g9⟩ := js.1 hs
  have f0 : g_clo1 τ (mR τ) (mB τ) (mK τ) (mg τ) (mw τ) (mn τ) 5000 = τ 5000 := fr_clo1 (by omega) (by omega) g9 (by omega) (by omega)
  show g_McloseOne τ (mR τ) (mB τ) (mK τ) (mg τ) (mw τ) (mn τ) (mpk τ) 5000 0 = τ 5000 0
  unfold g_McloseOne
  split
  · rw [f0]
  · unfold x_McloseOne_122
    refine (congrFun (xit_keep (fun s : XS9 => s 5000) (fun i s => ?_) (mB τ) 0 _) 0).trans ?_
    · (try dsimp only)
      split
      · rfl
      · exact fr_Madd (by omega)
    · rw [u2_oi (by decide), f0]
theorem says_close {R B : Nat} (P : PCl R B τ σ) (hg : ∀ i, i < 6 → gr i < 4) : g_Mclose τ x 5000 0 = lw_k [eIAE, eISE] (o_close σ x R B gr) ∧ ∀ w, o_close σ x R B gr = .inl w → w = f_Mclose τ x := by
  have P0 := P.s0
  have h := P.1.1
  unfold g_Mclose o_close f_Mclose
  by_cases c1 : n_bt x 1 9
  · by_cases c2 : τ 5000 1 = 1
    · simp only [if_pos c1, if_pos c2, if_pos (h.st.trans c2)]
      have L := close_loop hg (cn x) 0 _ _ P0
      refine ⟨?_, fun w e => ?_⟩
      · have go := xitB_all (step := stMc) (fun s : XS9 => (JR s ∧ JS s ∧ JP s) ∧ s 5000 0 = 0) (N := cn x) (fun i s s' hi hP => by
          unfold stMc
          split
          · rename_i hs
            intro e
            rcases e with e | e
            · rw [← Sum.inl.inj e]
              exact ⟨(clo_all hP.1.1 hP.1.2.1 hP.1.2.2 hs).1, (clo_t hP.1.2.1 hs).trans hP.2⟩
            · cases e
          · intro e
            rcases e with e | e
            · cases e
            · rw [← Sum.inr.inj e]
              exact hP) (cn x) 0 (u2 τ 5000 0 0) (Nat.zero_add _) ⟨P0.2.2.1, u2_at⟩
        exact go.2
      · rw [← Sum.inl.inj e]
        exact L.1.1.st
    · simp only [if_pos c1, if_neg c2, if_neg (fun e => c2 (h.st.symm.trans e))]
      exact bad rfl
  · simp only [if_neg c1]
    exact bad rfl
end
end
section
/-! ===== the clock's questions ===== -/
def stMo (τ : XS9) (x y : Int32) (R B g : Nat) (_ : Nat) (s39 : Nat) : Nat ⊕ Nat := (if (f_McanWish (u2 τ 5000 0 0) (cn x) (cn y) (nI s39) R B g) = 0 then .inl (s39 - 1) else .inr s39)
section
variable {τ σ : XS9} {x y v : Int32}
theorem fine0 {τ : XS9} {es : List String} {a m : Int32} (e : a = m) : u2 τ 5000 0 0 5000 0 = lw_k es (.inl a : Int32 ⊕ String) ∧ ∀ w, (.inl a : Int32 ⊕ String) = .inl w → w = m := ⟨u2_at, fun w z => by
  rw [← Sum.inl.inj z]
  exact e⟩
theorem RC.eK (h : RC τ σ) : aK σ = mK τ := congrArg cn h.k
theorem says_priceIn (h : RC τ σ) : g_MpriceIn τ x y (mR τ) (mK τ) 5000 0 = lw_k [eIOB] (o_priceIn σ x y (mR τ) (mK τ)) ∧ ∀ w, o_priceIn σ x y (mR τ) (mK τ) = .inl w → w = f_MpriceIn τ x y (mR τ) (mK τ) := by
  unfold g_MpriceIn o_priceIn f_MpriceIn
  by_cases c1 : n_rd x (mK τ)
  · by_cases c2 : n_lt y (mR τ)
    · simp only [if_pos c1, if_pos c2]
      exact fine0 (h.lg.p _ c1.2 _ c2.2)
    · simp only [if_pos c1, if_neg c2]
      exact bad rfl
  · simp only [if_neg c1]
    exact bad rfl
theorem says_codeIn (h : RC τ σ) : g_McodeIn τ x y v (mB τ) (mK τ) 5000 0 = lw_k [eIOB] (o_codeIn σ x y v (mB τ) (mK τ)) ∧ ∀ w, o_codeIn σ x y v (mB τ) (mK τ) = .inl w → w = f_McodeIn τ x y v (mB τ) (mK τ) := by
  unfold g_McodeIn o_codeIn f_McodeIn
  by_cases c1 : n_rd x (mK τ)
  · by_cases c2 : n_lt y (mB τ)
    · by_cases c3 : v = 0
      · simp only [if_pos c1, if_pos c2, if_pos c3]
        exact fine0 (h.lg.w _ c1.2 _ c2.2)
      · simp only [if_pos c1, if_pos c2, if_neg c3]
        exact fine0 (h.lg.h _ c1.2 _ c2.2)
    · simp only [if_pos c1, if_neg c2]
      exact bad rfl
  · simp only [if_neg c1]
    exact bad rfl
/-- what a bidder wishes and holds, at any stage -/
theorem codes_eq (h : RC τ σ) {i : Nat} (hi : i < mB τ) (hB6 : mB τ ≤ 6) : (σ 2003 i = f_MwishedCode (u2 τ 5000 0 0) i (mg τ) ∧ bd 7775 (σ 2003 i)) ∧ σ 2002 i = f_MheldCode (u2 τ 5000 0 0) i (mg τ) ∧ bd 7775 (σ 2002 i) := by
  unfold f_MwishedCode f_MheldCode
  have e7 : ∀ q, q ≠ 5000 → u2 τ 5000 0 0 q = τ q := fun q hq => u2_ne hq
  rw [e7 7000 (by decide)]
  by_cases c : τ 5000 1 = 0
  · have o := (h.off c).h i (by omega)
    rw [if_pos (h.fl.mpr c), if_pos (h.fl.mpr c), o.1, o.2.1]
    exact ⟨⟨rfl, bd.zero⟩, rfl, bd.zero⟩
  · have n : ¬ τ 7000 25 = 0 := fun e => c (h.fl.mp e)
    have Q := h.on c
    rw [if_neg n, if_neg n]
    obtain ⟨w1, w2⟩ := Q.wi i hi
    obtain ⟨v1, v2⟩ := Q.he i hi
    have w1 : σ 2003 i = τ (7000 + 500 + mg τ) i := w1
    have v1 : σ 2002 i = τ (7000 + 2) i := v1
    refine ⟨⟨?_, by rw [w1]; exact w2⟩, ?_, by rw [v1]; exact v2⟩
    · show σ 2003 i = u2 τ 5000 0 0 (7000 + 500 + mg τ) i
      rw [e7 _ (by omega)]
      exact w1
    · show σ 2002 i = u2 τ 5000 0 0 (7000 + 2) i
      rw [e7 _ (by decide)]
      exact v1
theorem says_wants (h : RC τ σ) (r : JR τ) : g_Mwants τ x y v (mR τ) (mB τ) (mg τ) 5000 0 = lw_k [eIOB] (o_wants σ x y v (mR τ) (mB τ)) ∧ ∀ w, o_wants σ x y v (mR τ) (mB τ) = .inl w → w = f_Mwants τ x y v (mR τ) (mB τ) (mg τ) := by
  have R5 := r.hR.2
  have B6 := r.hB.2
  unfold g_Mwants o_wants f_Mwants
  by_cases c1 : n_lt x (mB τ)
  · by_cases c2 : n_lt y (mR τ)
    · have hy := c2.2
      obtain ⟨⟨k1, k2⟩, k3, k4⟩ := codes_eq h c1.2 B6
      by_cases c3 : v = 0
      · simp only [if_pos c1, if_pos c2, if_pos c3]
        refine fine0 ?_
        show f_many (σ 2003 (cn x)) (cn y) = _
        rw [many_of k2 (by omega), k1]
      · simp only [if_pos c1, if_pos c2, if_neg c3]
        refine fine0 ?_
        show f_many (σ 2002 (cn x)) (cn y) = _
        rw [many_of k4 (by omega), k3]
    · simp only [if_pos c1, if_neg c2]
      exact bad rfl
  · simp only [if_neg c1]
    exact bad rfl
theorem says_contradicts (h : RC τ σ) (r : JR τ) (js : JS τ) : g_Mcontradicts τ x (mR τ) (mB τ) (mg τ) (mn τ) 5000 0 = lw_k [eIOB] (o_contradicts σ x (mB τ) (aK σ)) ∧ ∀ w, o_contradicts σ x (mB τ) (aK σ) = .inl w → w = f_Mcontradicts τ x (mR τ) (mB τ) (mg τ) (mn τ) := by
  have R5 := r.hR.2
  have n60 := r.hn.2.1
  have g2 := r.hg.2
  unfold g_Mcontradicts o_contradicts f_Mcontradicts
  by_cases c1 : n_lt x (mB τ)
  · by_cases c2 : τ 5000 1 = 1
    · have eK : aK σ = mn τ := h.eK.trans (js.1 c2).2.2.2.2.1
      rw [eK]
      simp only [if_pos c1, if_pos c2, if_pos (h.st.trans c2)]
      refine fine0 ?_
      have Q := h.on1 c2
      have e7 : ∀ q, q ≠ 5000 → u2 τ 5000 0 0 q = τ q := fun q hq => u2_ne hq
      have Q0 : KQ 2000 7000 (mR τ) (mB τ) (mg τ) (mw τ) (mn τ) σ (u2 τ 5000 0 0) := Q.of n60 g2 r.hw.2 (fun _ _ _ => rfl) (fun q h1 h2 => e7 q (by omega))
      exact contra_eq R5 (Q0.wi _ c1.2) Q0.p Q0.pz Q0.lp (fun k hk => Q0.lh k hk _ c1.2)
    · simp only [if_pos c1, if_neg c2, if_neg (fun e => c2 (h.st.symm.trans e))]
      exact fine0 rfl
  · simp only [if_neg c1]
    exact bad rfl
theorem says_most (h : RC τ σ) (r : JR τ) (a : RA τ σ) (z : RZ τ) (j : JC σ) : g_Mmost τ x y (mR τ) (mB τ) (mg τ) 5000 0 = lw_k [eIOB] (o_most σ x y (mR τ) (mB τ)) ∧ ∀ w, o_most σ x y (mR τ) (mB τ) = .inl w → w = f_Mmost τ x y (mR τ) (mB τ) (mg τ) := by
  have R5 := r.hR.2
  have B6 := r.hB.2
  have G := r.hg.2
  unfold g_Mmost o_most f_Mmost
  by_cases c1 : n_lt x (mB τ)
  · by_cases c2 : n_lt y (mR τ)
    · by_cases c3 : τ 5000 1 = 1
      · simp only [if_pos c1, if_pos c2, if_pos c3, if_pos (h.st.trans c3)]
        refine fine0 ?_
        have hy := c2.2
        have Q := h.on1 c3
        have T := told a z j
        have m0 : ∀ q, q ≠ 5000 → u2 τ 5000 0 0 q = τ q := fun q hq => u2_ne hq
        have Q0 : KQ 2000 7000 (mR τ) (mB τ) (mg τ) (mw τ) (mn τ) σ (u2 τ 5000 0 0) := Q.of r.hn.2.1 (by omega) r.hw.2 (fun _ _ _ => rfl) (fun q h1 h2 => m0 q (by omega))
        have T0 : TQ (mR τ) σ (u2 τ 5000 0 0) := ⟨by rw [u2_oi (by decide)]; exact T.rl, fun r hr => by rw [m0 _ (by omega)]; exact T.rg r hr, fun r hr => by rw [m0 _ (by omega)]; exact T.pt r hr, fun r h1 h2 => by rw [m0 _ (by omega)]; exact T.ptz r h1 h2⟩
        have em : ∀ k : Nat, k ≤ 5 → f_mayWish σ 2000 (cn x) (cn y) (nI k) (mB τ) = f_McanWish (u2 τ 5000 0 0) (cn x) (cn y) (nI k) (mR τ) (mB τ) (mg τ) := fun k hk =>
          may_eq c1.2 (by omega) B6 R5 (bd.nat hk (by decide)) Q0 T0 (fun j9 h9 => by
            rw [m0 _ (by omega)]
            exact ⟨(a.2.2.1 j9 h9).2.2.2, (j.hgr j9 h9).1, Nat.le_of_lt_succ (j.hgr j9 h9).2⟩) (by
            rw [u2_oi (by decide)]
            exact a.1.2.1)
        have e5 := em 5 (by decide)
        have e4 := em 4 (by decide)
        have e3 := em 3 (by decide)
        have e2 := em 2 (by decide)
        have e1 := em 1 (by decide)
        have u5 : f_mayWish σ 2000 (cn x) (cn y) 5 (mB τ) = f_McanWish (u2 τ 5000 0 0) (cn x) (cn y) (nI 5) (mR τ) (mB τ) (mg τ) := e5
        have u4 : f_mayWish σ 2000 (cn x) (cn y) 4 (mB τ) = f_McanWish (u2 τ 5000 0 0) (cn x) (cn y) (nI 4) (mR τ) (mB τ) (mg τ) := e4
        have u3 : f_mayWish σ 2000 (cn x) (cn y) 3 (mB τ) = f_McanWish (u2 τ 5000 0 0) (cn x) (cn y) (nI 3) (mR τ) (mB τ) (mg τ) := e3
        have u2' : f_mayWish σ 2000 (cn x) (cn y) 2 (mB τ) = f_McanWish (u2 τ 5000 0 0) (cn x) (cn y) (nI 2) (mR τ) (mB τ) (mg τ) := e2
        have u1 : f_mayWish σ 2000 (cn x) (cn y) 1 (mB τ) = f_McanWish (u2 τ 5000 0 0) (cn x) (cn y) (nI 1) (mR τ) (mB τ) (mg τ) := e1
        unfold f_greatestWish
        rw [u5, u4, u3, u2', u1]
        show _ = nI (xitB (stMo τ x y (mR τ) (mB τ) (mg τ)) 5 0 5)
        by_cases d5 : f_McanWish (u2 τ 5000 0 0) (cn x) (cn y) (nI 5) (mR τ) (mB τ) (mg τ) = 0
        · rw [if_pos d5, xitB_l (show stMo τ x y (mR τ) (mB τ) (mg τ) 0 5 = .inl 4 from if_pos d5)]
          by_cases d4 : f_McanWish (u2 τ 5000 0 0) (cn x) (cn y) (nI 4) (mR τ) (mB τ) (mg τ) = 0
          · rw [if_pos d4, xitB_l (show stMo τ x y (mR τ) (mB τ) (mg τ) 1 4 = .inl 3 from if_pos d4)]
            by_cases d3 : f_McanWish (u2 τ 5000 0 0) (cn x) (cn y) (nI 3) (mR τ) (mB τ) (mg τ) = 0
            · rw [if_pos d3, xitB_l (show stMo τ x y (mR τ) (mB τ) (mg τ) 2 3 = .inl 2 from if_pos d3)]
              by_cases d2 : f_McanWish (u2 τ 5000 0 0) (cn x) (cn y) (nI 2) (mR τ) (mB τ) (mg τ) = 0
              · rw [if_pos d2, xitB_l (show stMo τ x y (mR τ) (mB τ) (mg τ) 3 2 = .inl 1 from if_pos d2)]
                by_cases d1 : f_McanWish (u2 τ 5000 0 0) (cn x) (cn y) (nI 1) (mR τ) (mB τ) (mg τ) = 0
                · rw [if_pos d1, xitB_l (show stMo τ x y (mR τ) (mB τ) (mg τ) 4 1 = .inl 0 from if_pos d1)]
                  rfl
                · rw [if_neg d1, xitB_r (show stMo τ x y (mR τ) (mB τ) (mg τ) 4 1 = .inr 1 from if_neg d1)]
                  rfl
              · rw [if_neg d2, xitB_r (show stMo τ x y (mR τ) (mB τ) (mg τ) 3 2 = .inr 2 from if_neg d2)]
                rfl
            · rw [if_neg d3, xitB_r (show stMo τ x y (mR τ) (mB τ) (mg τ) 2 3 = .inr 3 from if_neg d3)]
              rfl
          · rw [if_neg d4, xitB_r (show stMo τ x y (mR τ) (mB τ) (mg τ) 1 4 = .inr 4 from if_neg d4)]
            rfl
        · rw [if_neg d5, xitB_r (show stMo τ x y (mR τ) (mB τ) (mg τ) 0 5 = .inr 5 from if_neg d5)]
          rfl
      · simp only [if_pos c1, if_pos c2, if_neg c3, if_neg (fun e => c3 (h.st.symm.trans e))]
        exact fine0 rfl
    · simp only [if_pos c1, if_neg c2]
      exact bad rfl
  · simp only [if_neg c1]
    exact bad rfl
end
end
section
/-! ===== what is asked of a region ===== -/
section
variable {τ σ : XS9} {x y : Int32}
theorem wished_n {σ : XS9} {b g B r : Nat} (hr : r < 5) (h : ∀ i, i < B → bd 7775 (σ (b + 500 + g) i)) : f_KwishedIn σ b r B g = nI (nsum (fun i => dgt (σ (b + 500 + g) i) r) B) := by
  show xsum (fun i => f_of (σ (b + 500 + g) i) r) B = _
  exact xsum_n fun i hi => of_d (h i hi) hr
theorem nsum_0 {N : Nat} : nsum (fun _ => 0) N = 0 := by
  induction N with
  | zero => rfl
  | succ n ih =>
    show nsum (fun _ => 0) n + 0 = 0
    rw [ih]
theorem together0 {f : Nat → Int32} {r : Nat} (hr : r < 5) (h : ∀ j, j < 6 → f j = 0) : f_together 6 f r = 0 := by
  rw [together_x, xsum_cut (N := 0) (M := 6) (fun j a b => by
    (try dsimp only)
    rw [h j b, many0 hr]) (Nat.zero_le _)]
  rfl
theorem heldT {q R B g w n : Nat} (hq5 : q < 5) (hB6 : B ≤ 6) (Q : KQ 2000 7000 R B g w n σ τ) : f_together 6 (σ 2002) q = f_KheldIn (u2 τ 5000 0 0) 7000 q B g := by
  have e7 : u2 τ 5000 0 0 (7000 + 2) = τ (7000 + 2) := u2_ne (by decide)
  have hE : ∀ j, j < B → σ 2002 j = τ (7000 + 2) j ∧ bd 7775 (τ (7000 + 2) j) := Q.he
  rw [together_n hq5 hB6 (fun i hi => by rw [(hE i hi).1]; exact (hE i hi).2) (fun j h1 h2 => Q.hz j h1 h2), held_n hq5 (fun i hi => by rw [e7]; exact (hE i hi).2)]
  refine congrArg nI (nsum_cg fun i hi => ?_)
  (try dsimp only)
  rw [e7, (hE i hi).1]
theorem wishedT {q R B g w n : Nat} (hq5 : q < 5) (hB6 : B ≤ 6) (Q : KQ 2000 7000 R B g w n σ τ) : f_together 6 (σ 2003) q = f_KwishedIn (u2 τ 5000 0 0) 7000 q B g := by
  have e7 : u2 τ 5000 0 0 (7000 + 500 + g) = τ (7000 + 500 + g) := u2_ne (by omega)
  have hE : ∀ j, j < B → σ 2003 j = τ (7000 + 500 + g) j ∧ bd 7775 (τ (7000 + 500 + g) j) := Q.wi
  rw [together_n hq5 hB6 (fun i hi => by rw [(hE i hi).1]; exact (hE i hi).2) (fun j h1 h2 => Q.wz j h1 h2), wished_n hq5 (fun i hi => by rw [e7]; exact (hE i hi).2)]
  refine congrArg nI (nsum_cg fun i hi => ?_)
  (try dsimp only)
  rw [e7, (hE i hi).1]
theorem facts_r (h : RC τ σ) (r : JR τ) (a : RA τ σ) {q k : Nat} (hq : q < mR τ) (hk : k ≤ 8) (hc : f_countIn σ (nI q) (mC τ) = f_MstationsIn (u2 τ 5000 0 0) (nI q) (mC τ)) : f_regionFact σ (mC τ) q k = f_MofRegionNow (u2 τ 5000 0 0) q (mR τ) (mB τ) (mC τ) (mg τ) k := by
  have R5 := r.hR.2
  have B6 := r.hB.2
  have hq5 : q < 5 := by omega
  have e7 : ∀ q, q ≠ 5000 → u2 τ 5000 0 0 q = τ q := fun q hq => u2_ne hq
  obtain ⟨a0, a1, a2, a3⟩ := a.2.1 q hq5
  have z7 : u2 τ 5000 0 0 7000 25 = 0 ↔ τ 5000 1 = 0 := by
    rw [e7 _ (by decide)]
    exact h.fl
  match k, hk with
  | 0, _ =>
    show σ 1010 q = u2 τ 5000 0 0 (5010 + q) 0
    rw [e7 _ (by omega)]
    exact a0
  | 1, _ =>
    show σ 1011 q = u2 τ 5000 0 0 (5010 + q) 1
    rw [e7 _ (by omega)]
    exact a1
  | 2, _ =>
    show σ 1012 q = u2 τ 5000 0 0 (5010 + q) 2
    rw [e7 _ (by omega)]
    exact a2
  | 3, _ =>
    show σ 2001 q = if u2 τ 5000 0 0 7000 25 = 0 then u2 τ 5000 0 0 (5010 + q) 2 else u2 τ 5000 0 0 (7000 + 1) q
    by_cases c : τ 5000 1 = 0
    · rw [if_pos (z7.mpr c), e7 _ (by omega), (h.off c).p q hq5]
      exact a2
    · rw [if_neg (fun z => c (z7.mp z)), e7 _ (by omega)]
      exact (h.on c).p q hq
  | 4, _ =>
    show f_together 6 (σ 2002) q = if u2 τ 5000 0 0 7000 25 = 0 then 0 else f_KheldIn (u2 τ 5000 0 0) 7000 q (mB τ) (mg τ)
    by_cases c : τ 5000 1 = 0
    · rw [if_pos (z7.mpr c)]
      exact together0 hq5 fun j hj => ((h.off c).h j hj).1
    · have Q := h.on c
      rw [if_neg (fun z => c (z7.mp z))]
      exact heldT hq5 B6 Q
  | 5, _ =>
    show f_together 6 (σ 2002) q - σ 1010 q = if u2 τ 5000 0 0 7000 25 = 0 then 0 - u2 τ 5000 0 0 (5010 + q) 0 else f_KheldIn (u2 τ 5000 0 0) 7000 q (mB τ) (mg τ) - u2 τ 5000 0 0 (5010 + q) 0
    by_cases c : τ 5000 1 = 0
    · rw [if_pos (z7.mpr c), together0 hq5 (fun j hj => ((h.off c).h j hj).1), e7 _ (by omega), a0]
    · rw [if_neg (fun z => c (z7.mp z)), heldT hq5 B6 (h.on c), a0, e7 (5010 + q) (by omega)]
  | 6, _ =>
    show f_together 6 (σ 2003) q = if u2 τ 5000 0 0 7000 25 = 0 then 0 else f_KwishedIn (u2 τ 5000 0 0) 7000 q (mB τ) (mg τ)
    by_cases c : τ 5000 1 = 0
    · rw [if_pos (z7.mpr c)]
      exact together0 hq5 fun j hj => ((h.off c).h j hj).2.1
    · rw [if_neg (fun z => c (z7.mp z))]
      exact wishedT hq5 B6 (h.on c)
  | 7, _ =>
    show σ 1013 q = u2 τ 5000 0 0 (5010 + q) 3
    rw [e7 _ (by omega)]
    exact a3
  | 8, _ => exact hc
theorem count_eq (a : RA τ σ) (r : JR τ) {v : Int32} : f_countIn σ v (mC τ) = f_MstationsIn (u2 τ 5000 0 0) v (mC τ) := by
  have C10 := r.hS.2
  unfold f_countIn f_MstationsIn x_countIn_4 x_MstationsIn_4
  refine xit_cg (N := mC τ) (fun i s hi => ?_) (mC τ) 0 0 (Nat.zero_add _)
  (try dsimp only)
  rw [u2_ne (show 5004 ≠ 5000 by decide), ← (a.2.2.2.2.1 i (by omega)).2]
  by_cases c : σ 1151 i = v
  · rw [if_pos c, if_pos c]
  · rw [if_neg c, if_neg c, Int32.add_zero]
theorem says_ofRegion (h : RC τ σ) (r : JR τ) (a : RA τ σ) : g_MofRegion τ x y (mR τ) (mB τ) (mC τ) (mg τ) 5000 0 = lw_k [eIOB, eIAE] (o_ofRegion σ x y (mR τ) (mC τ)) ∧ ∀ w, o_ofRegion σ x y (mR τ) (mC τ) = .inl w → w = f_MofRegion τ x y (mR τ) (mB τ) (mC τ) (mg τ) := by
  unfold g_MofRegion o_ofRegion f_MofRegion
  by_cases c1 : n_lt x (mR τ)
  · by_cases c2 : n_bt y 0 8
    · simp only [if_pos c1, if_pos c2]
      have hy := bd.bt (m := 8) c2 (by decide) rfl (by decide)
      exact fine0 (facts_r h r a c1.2 hy.2 (count_eq a r))
    · simp only [if_pos c1, if_neg c2]
      exact bad rfl
  · simp only [if_neg c1]
    exact bad rfl
end
end
section
/-! ===== loops that only look ===== -/
section
variable {σ τ s t : XS9} {x y laid : Int32} {i j m C ch u qa : Nat} {rg : Nat → Nat}
theorem xitR_one {R : Type} {step : Nat → Unit → Unit ⊕ R} : ∀ (f i : Nat), ((∀ k, i ≤ k → k < i + f → step k () = .inl ()) → xitR step f i () = .inl ()) ∧ (∀ k r, i ≤ k → k < i + f → step k () = .inr r → ∃ k' r', i ≤ k' ∧ k' < i + f ∧ step k' () = .inr r' ∧ xitR step f i () = .inr r')
  | 0, i => ⟨fun _ => rfl, fun k r a b => absurd b (by omega)⟩
  | f + 1, i => by
    have ih := xitR_one (step := step) f (i + 1)
    refine ⟨fun h => ?_, fun k r a b e => ?_⟩
    · unfold xitR
      rw [h i (Nat.le_refl i) (by omega)]
      exact ih.1 fun k a b => h k (by omega) (by omega)
    · unfold xitR
      cases q : step i () with
      | inl w =>
        cases w
        have : k ≠ i := fun z => by rw [z, q] at e; cases e
        obtain ⟨k', r', a', b', c', d'⟩ := ih.2 k r (by omega) (by omega) e
        exact ⟨k', r', by omega, by omega, c', d'⟩
      | inr w => exact ⟨i, w, Nat.le_refl i, by omega, q, rfl⟩
/-- two stations disturb each other -/
def nearM (τ : XS9) (rg : Nat → Nat) (a b : Nat) : Prop := rg a = rg b ∨ bt (τ (5010 + rg a) 3) (rg b) = true
theorem dist_eq {a b : Nat} (ha : rg a < 5) (hb : rg b < 5) : f_MareDisturbing τ a b rg = 0 ↔ ¬ nearM τ rg a b := by
  unfold f_MareDisturbing nearM
  by_cases e : rg a = rg b
  · rw [if_pos (by rw [e])]
    exact ⟨fun q => absurd q (by decide), fun q => absurd (.inl e) q⟩
  · rw [if_neg (fun q => e (nI_inj (by omega) (by omega) q))]
    by_cases h : bt (τ (5010 + rg a) 3) (rg b) = true
    · rw [if_pos ((b_tst1 (by omega)).1.mpr h)]
      exact ⟨fun q => absurd q (by decide), fun q => absurd (.inr h) q⟩
    · rw [if_neg (fun q => h ((b_tst1 (by omega)).1.mp q))]
      exact ⟨fun _ q => q.elim e h, fun _ => rfl⟩
theorem free_eq (hrg : ∀ j, j < C → rg j < 5) (hi : i < C) (hC10 : C ≤ 10) : f_MisFree τ laid i rg = 0 ↔ ∃ j, j < i ∧ bt laid j = true ∧ nearM τ rg j i := by
  unfold f_MisFree x_MisFree_2
  have st : ∀ k, k < i → ((bt laid k = true ∧ nearM τ rg k i) → (if ((laid >>> ((nI k) &&& 31)) &&& 1) = 1 then (if (f_MareDisturbing τ k i rg) = 0 then (.inl () : Unit ⊕ Int32) else .inr 0) else .inl ()) = .inr 0) ∧ (¬ (bt laid k = true ∧ nearM τ rg k i) → (if ((laid >>> ((nI k) &&& 31)) &&& 1) = 1 then (if (f_MareDisturbing τ k i rg) = 0 then (.inl () : Unit ⊕ Int32) else .inr 0) else .inl ()) = .inl ()) := fun k hk => by
    have d := dist_eq (τ := τ) (rg := rg) (a := k) (b := i) (hrg k (by omega)) (hrg i hi)
    refine ⟨fun h => ?_, fun h => ?_⟩
    · rw [if_pos ((b_tst1 (by omega)).1.mpr h.1), if_neg (fun q => d.mp q h.2)]
    · by_cases b : bt laid k = true
      · rw [if_pos ((b_tst1 (by omega)).1.mpr b), if_pos (d.mpr fun q => h ⟨b, q⟩)]
      · rw [if_neg (fun q => b ((b_tst1 (by omega)).1.mp q))]
  have L := xitR_one (step := fun i2 (_ : Unit) => (if ((laid >>> ((nI i2) &&& 31)) &&& 1) = 1 then (if (f_MareDisturbing τ i2 i rg) = 0 then (.inl () : Unit ⊕ Int32) else .inr 0) else .inl ())) i 0
  rcases Classical.em (∃ j, j < i ∧ bt laid j = true ∧ nearM τ rg j i) with h | h
  · obtain ⟨j, hj, hb⟩ := h
    obtain ⟨k', r', a', b', c', d'⟩ := L.2 j 0 (Nat.zero_le _) (by omega) ((st j hj).1 hb)
    have r0 : r' = 0 := by
      have := (st k' (by omega)).1
      by_cases z : bt laid k' = true ∧ nearM τ rg k' i
      · rw [this z] at c'
        exact (Sum.inr.inj c').symm
      · rw [(st k' (by omega)).2 z] at c'
        cases c'
    have d2 : xitR (fun i2 s2 => (if ((laid >>> ((nI i2) &&& 31)) &&& 1) = 1 then (if (f_MareDisturbing τ i2 i rg) = 0 then (.inl () : Unit ⊕ Int32) else .inr 0) else .inl ())) i 0 () = .inr r' := d'
    rw [d2, r0]
    exact ⟨fun _ => ⟨j, hj, hb⟩, fun _ => rfl⟩
  · have d2 : xitR (fun i2 s2 => (if ((laid >>> ((nI i2) &&& 31)) &&& 1) = 1 then (if (f_MareDisturbing τ i2 i rg) = 0 then (.inl () : Unit ⊕ Int32) else .inr 0) else .inl ())) i 0 () = .inl () := L.1 fun k _ hk => (st k (by omega)).2 fun q => h ⟨k, by omega, q⟩
    rw [d2]
    exact ⟨fun q => absurd q (by decide), fun q => absurd q h⟩
/-! ===== the class's table of who disturbs whom ===== -/
def nearC (σ : XS9) (rg : Nat → Nat) (a b : Nat) : Prop := rg a = rg b ∨ bt (σ 1013 (rg a)) (rg b) = true
theorem nb_eq {a b : Nat} (hb : b < 32) : f_areNeighbours σ a b = 0 ↔ ¬ bt (σ 1013 a) b = true := by
  unfold f_areNeighbours
  have e := b_tst2 (x := σ 1013 a) (j := b) hb
  cases h : bt (σ 1013 a) b with
  | true =>
    rw [if_neg (fun q => by rw [e.mp q] at h; cases h)]
    exact ⟨fun q => absurd q (by decide), fun q => absurd rfl q⟩
  | false =>
    rw [if_pos (e.mpr h)]
    exact ⟨fun _ q => (by cases q), fun _ => rfl⟩
def stDs (rg : Nat → Nat) (a k : Nat) (s : XS9) : XS9 := (if (nI (rg a)) = (nI (rg k)) then (if (nI a) = (nI k) then s else u2 s 1152 a ((s 1152 a) ||| (1 <<< ((nI k) &&& 31)))) else (if (f_areNeighbours s (rg a) (rg k)) = 0 then s else (if (nI a) = (nI k) then s else u2 s 1152 a ((s 1152 a) ||| (1 <<< ((nI k) &&& 31))))))
theorem stDs_eq (hrg : ∀ j, j < C → rg j < 5) (hC10 : C ≤ 10) {a k : Nat} (ha : a < C) (hk : k < C) {s : XS9} (hs : ∀ q, q ≠ 1152 → s q = σ q) : ((k ≠ a ∧ nearC σ rg a k) → stDs rg a k s = u2 s 1152 a ((s 1152 a) ||| (1 <<< ((nI k) &&& 31)))) ∧ (¬ (k ≠ a ∧ nearC σ rg a k) → stDs rg a k s = s) := by
  have ra := hrg a ha
  have rk := hrg k hk
  have n1 : f_areNeighbours s (rg a) (rg k) = 0 ↔ ¬ bt (σ 1013 (rg a)) (rg k) = true := by
    have := nb_eq (σ := s) (a := rg a) (b := rg k) (by omega)
    rw [hs 1013 (by decide)] at this
    exact this
  unfold stDs
  refine ⟨fun h => ?_, fun h => ?_⟩
  · have ne : ¬ nI a = nI k := fun q => h.1 (nI_inj (by omega) (by omega) q).symm
    rcases h.2 with q | q
    · rw [if_pos (show nI (rg a) = nI (rg k) by rw [q]), if_neg ne]
    · by_cases e1 : nI (rg a) = nI (rg k)
      · rw [if_pos e1, if_neg ne]
      · rw [if_neg e1, if_neg (show ¬ f_areNeighbours s (rg a) (rg k) = 0 from fun z => n1.mp z q), if_neg ne]
  · by_cases e2 : k = a
    · subst e2
      rw [if_pos rfl, if_pos rfl]
    · have hn : ¬ nearC σ rg a k := fun q => h ⟨e2, q⟩
      rw [if_neg (show ¬ nI (rg a) = nI (rg k) from fun q => hn (.inl (nI_inj (by omega) (by omega) q))), if_pos (n1.mpr fun q => hn (.inr q))]
theorem dist_in (hrg : ∀ j, j < C → rg j < 5) (hC10 : C ≤ 10) {a : Nat} (ha : a < C) (s : XS9) (hs : ∀ q, q ≠ 1152 → s q = σ q) : (∀ q, q ≠ 1152 → xit (stDs rg a) C 0 s q = σ q) ∧ (∀ b, b ≠ a → xit (stDs rg a) C 0 s 1152 b = s 1152 b) ∧ ∀ j, j < 32 → (bt (xit (stDs rg a) C 0 s 1152 a) j = true ↔ (bt (s 1152 a) j = true ∨ (j < C ∧ j ≠ a ∧ nearC σ rg a j))) := by
  refine xit_ind (fun k s' => (∀ q, q ≠ 1152 → s' q = σ q) ∧ (∀ b, b ≠ a → s' 1152 b = s 1152 b) ∧ ∀ j, j < 32 → (bt (s' 1152 a) j = true ↔ (bt (s 1152 a) j = true ∨ (j < k ∧ j ≠ a ∧ nearC σ rg a j)))) (N := C) (fun k s' hk hP => ?_) C 0 s (Nat.zero_add _) ⟨hs, fun _ _ => rfl, fun j _ => ⟨.inl, fun h => h.elim id (fun q => absurd q.1 (by omega))⟩⟩
  obtain ⟨p1, p2, p3⟩ := hP
  obtain ⟨q1, q2⟩ := stDs_eq (σ := σ) hrg hC10 ha hk p1
  rcases Classical.em (k ≠ a ∧ nearC σ rg a k) with h | h
  · rw [q1 h]
    refine ⟨fun q hq => (u2_ne hq).trans (p1 q hq), fun b hb => (u2_oi hb).trans (p2 b hb), fun j hj => ?_⟩
    rw [u2_at, b_or, b_bit (by omega) hj, Bool.or_eq_true, p3 j hj]
    by_cases jk : j = k
    · subst jk
      exact ⟨fun _ => .inr ⟨by omega, h.1, h.2⟩, fun _ => .inr (decide_eq_true rfl)⟩
    · rw [decide_eq_false jk]
      constructor
      · rintro ((z | ⟨z1, z2⟩) | z)
        · exact .inl z
        · exact .inr ⟨by omega, z2⟩
        · cases z
      · rintro (z | ⟨z1, z2⟩)
        · exact .inl (.inl z)
        · exact .inl (.inr ⟨by omega, z2⟩)
  · rw [q2 h]
    refine ⟨p1, p2, fun j hj => ?_⟩
    rw [p3 j hj]
    constructor
    · rintro (z | ⟨z1, z2⟩)
      · exact .inl z
      · exact .inr ⟨by omega, z2⟩
    · rintro (z | ⟨z1, z3, z4⟩)
      · exact .inl z
      · by_cases jk : j = k
        · subst jk
          exact absurd ⟨z3, z4⟩ h
        · exact .inr ⟨by omega, z3, z4⟩
/-- each row of the table is done -/
def DISr (σ : XS9) (rg : Nat → Nat) (C : Nat) (s : XS9) : Prop := ∀ a, a < C → ∀ j, j < 32 → (bt (s 1152 a) j = true ↔ (j < C ∧ j ≠ a ∧ nearC σ rg a j))
theorem dist_all (hrg : ∀ j, j < C → rg j < 5) (hC10 : C ≤ 10) : DISr σ rg C (g_findDisturbed σ C rg) ∧ ∀ q, q ≠ 1152 → g_findDisturbed σ C rg q = σ q := by
  refine ⟨?_, fun q hq => fr_findDisturbed hq⟩
  unfold g_findDisturbed x_findDisturbed_2
  have H : ∀ (f k : Nat) (s : XS9), k + f = C → (∀ q, q ≠ 1152 → s q = σ q) → (∀ a, a < k → ∀ j, j < 32 → (bt (s 1152 a) j = true ↔ (j < C ∧ j ≠ a ∧ nearC σ rg a j))) → DISr σ rg C (xit (fun i2 s2 => (x_findDisturbed_19 σ C rg i2 (u2 s2 1152 i2 0))) f k s) := by
    intro f
    induction f with
    | zero =>
      intro k s e hs h a ha
      exact h a (by omega)
    | succ f ih =>
      intro k s e hs h
      have hk : k < C := by omega
      obtain ⟨r1, r2, r3⟩ := dist_in (σ := σ) hrg hC10 hk (u2 s 1152 k 0) (fun q hq => (u2_ne hq).trans (hs q hq))
      refine ih (k + 1) (xit (stDs rg k) C 0 (u2 s 1152 k 0)) (by omega) r1 (fun a ha j hj => ?_)
      by_cases e1 : a = k
      · subst e1
        have := r3 j hj
        rw [u2_at, b_0] at this
        refine this.trans ⟨?_, ?_⟩
        · rintro (z | z)
          · cases z
          · exact z
        · exact fun z => .inr z
      · rw [(r2 a e1).trans (u2_oi e1)]
        exact h a (by omega) j hj
  exact H C 0 σ (Nat.zero_add _) (fun _ _ => rfl) (fun a ha => absurd ha (by omega))
end
end
section
/-! ===== both searches do the same ===== -/
def vXR {S : Type} (w : S ⊕ (S × Int32)) : Int32 := match w with | .inl _ => 0 | .inr r => r.2
def mXR {S : Type} (w : S ⊕ (S × Int32)) : S := match w with | .inl s => s | .inr r => r.1
theorem two_loops {S T : Type} {stepC : Nat → S → S ⊕ (S × Int32)} {stepM : Nat → T → T ⊕ (T × Int32)} {s : S} {t : T} {u ch : Nat} (A : Nat → Prop) (V : Nat → Int32) (hu : u ≤ ch)
    (hC : ∀ k, k ≤ u → k < ch → (¬ A k → stepC k s = .inl s) ∧ (A k → V k = 0 → stepC k s = .inl s) ∧ (A k → ¬ V k = 0 → ∃ s', stepC k s = .inr (s', 1)))
    (hCe : u = ch → stepC u s = .inr (s, 0))
    (hM : ∀ k, k < u → (¬ A k → stepM k t = .inl t) ∧ (A k → V k = 0 → stepM k t = .inl t) ∧ (A k → ¬ V k = 0 → ∃ t', stepM k t = .inr (t', 1)))
    (hMu : u < ch → A u ∧ (V u = 0 → ∃ t', stepM u t = .inr (t', 0)) ∧ (¬ V u = 0 → ∃ t', stepM u t = .inr (t', 1))) :
    ∀ n k, k + n = u → vXR (xitR stepC (n + 1) k s) = vXR (xitR stepM (ch - k) k t) ∧ (vXR (xitR stepC (n + 1) k s) = 0 → mXR (xitR stepC (n + 1) k s) = s)
  | 0, k, e => by
    obtain rfl : k = u := by omega
    rcases Nat.lt_or_ge k ch with l | l
    · obtain ⟨a, b, c⟩ := hMu l
      obtain ⟨p, q, r⟩ := hC k (Nat.le_refl k) l
      rw [show ch - k = (ch - k - 1) + 1 by omega]
      unfold xitR
      by_cases v : V k = 0
      · obtain ⟨t', e2⟩ := b v
        rw [q a v, e2]
        exact ⟨rfl, fun _ => rfl⟩
      · obtain ⟨t', e2⟩ := c v
        obtain ⟨s', e3⟩ := r a v
        rw [e3, e2]
        exact ⟨rfl, fun z => absurd z (by show ¬ (1 : Int32) = 0; decide)⟩
    · rw [show ch - k = 0 by omega]
      unfold xitR
      rw [hCe (by omega)]
      exact ⟨rfl, fun _ => rfl⟩
  | n + 1, k, e => by
    have ih := two_loops A V hu hC hCe hM hMu n (k + 1) (by omega)
    obtain ⟨p, q, r⟩ := hC k (by omega) (by omega)
    obtain ⟨p2, q2, r2⟩ := hM k (by omega)
    rw [show ch - k = (ch - (k + 1)) + 1 by omega]
    have un : ∀ {S R : Type} (step : Nat → S → S ⊕ R) (f i : Nat) (s : S), xitR step (f + 1) i s = (match step i s with | .inl s' => xitR step f (i + 1) s' | .inr r => .inr r) := fun _ _ _ _ => rfl
    rw [un stepC, un stepM]
    by_cases a : A k
    · by_cases v : V k = 0
      · rw [q a v, q2 a v]
        exact ih
      · obtain ⟨s', e3⟩ := r a v
        obtain ⟨t', e2⟩ := r2 a v
        rw [e3, e2]
        exact ⟨rfl, fun z => absurd z (by show ¬ (1 : Int32) = 0; decide)⟩
    · rw [p a, p2 a]
      exact ih
def STC (qa ch i u : Nat) (s t : XS9) : Prop := u ≤ ch ∧ ∀ c, c < ch → s 1153 c = t qa c ∧ ∃ m, m < 2 ^ i ∧ t qa c = nI m ∧ (m = 0 ↔ u ≤ c)
section
variable {s0 t0 s t : XS9} {x : Int32} {i C ch u qa : Nat} {rg : Nat → Nat}
theorem STC.mono {i' : Nat} (h : STC qa ch i u s t) (hi : i ≤ i') : STC qa ch i' u s t := ⟨h.1, fun c hc => by
  obtain ⟨a, m, b, c2, d⟩ := h.2 c hc
  exact ⟨a, m, Nat.lt_of_lt_of_le b (Nat.pow_le_pow_right (by decide) hi), c2, d⟩⟩
theorem STC.cln (h : STC qa ch i u s t) : cln qa ch i t := fun c hc => by
  obtain ⟨a, m, b, c2, d⟩ := h.2 c hc
  exact ⟨m, b, c2⟩
theorem STC.put (h : STC qa ch i u s t) (hi : i < 10) {k : Nat} (hk : k < ch) (hku : k ≤ u) : STC qa ch (i + 1) (max u (k + 1)) (u2 s 1153 k ((s 1153 k) ||| (1 <<< ((nI i) &&& 31)))) (u2 t qa k ((t qa k) ||| (1 <<< ((nI i) &&& 31)))) := by
  refine ⟨by have := h.1; omega, fun c hc => ?_⟩
  obtain ⟨a, m, b, c2, d⟩ := h.2 c hc
  by_cases e : c = k
  · subst e
    rw [u2_at, u2_at, a, c2, (bset hi b).1]
    refine ⟨rfl, m + 2 ^ i, by rw [Nat.pow_succ]; omega, rfl, fun z => ?_, fun z => ?_⟩
    · have := Nat.pow_pos (n := i) (show 0 < 2 by decide)
      omega
    · omega
  · rw [u2_oi e, u2_oi e]
    refine ⟨a, m, by rw [Nat.pow_succ]; omega, c2, d.trans ⟨fun z => by omega, fun z => by omega⟩⟩
theorem cp_end (hC10 : C ≤ 10) : f_Mcp t x C C rg qa ch = 1 := by
  have x3 : x_MpkStep_3 x C C C = C := by
    unfold x_MpkStep_3
    rw [Nat.sub_self]
    rfl
  cases C with
  | zero =>
    show f_MpkStep t (fun (_ : XS9) (_ : Nat) => (0 : Int32)) (fun (s : XS9) (_ : Nat) => s) x 0 0 rg qa ch = 1
    unfold f_MpkStep
    rw [if_pos (by rw [x3])]
  | succ C' =>
    show f_MpkStep t _ _ x (C' + 1) (C' + 1) rg qa ch = 1
    unfold f_MpkStep
    rw [if_pos (by rw [x3])]
end
end
section
section
variable {s0 t0 s t : XS9} {x : Int32} {i C ch u qa : Nat} {rg : Nat → Nat}
theorem sim (hrg : ∀ j, j < C → rg j < 5) (hC10 : C ≤ 10) (hch : ch ≤ 6) (hqa : 20000 ≤ qa) (hD : DISr s0 rg C s0) (hN : ∀ a b, a < C → b < C → (nearC s0 rg a b ↔ nearM t0 rg b a)) : ∀ (f i : Nat), i + f = 10 → i ≤ C → ∀ (s t : XS9) (u : Nat), (∀ q, q ≠ 1153 → s q = s0 q) → (∀ q, q ≠ qa → t q = t0 q) → STC qa ch i u s t →
    (fg_pack ch x C f i).1 s u = f_Mcp t x i C rg qa ch ∧ ((fg_pack ch x C f i).1 s u = 0 → (fg_pack ch x C f i).2 s u = s)
  | 0, i, e, hi, s, t, u, hs, ht, h => by
    obtain rfl : i = C := by omega
    rw [cp_end hC10]
    exact ⟨rfl, fun _ => rfl⟩
  | f + 1, i, e, hi, s, t, u, hs, ht, h => by
    show f_packStep s (fg_pack ch x C f (i + 1)).1 (fg_pack ch x C f (i + 1)).2 i ch u x C = _ ∧ (f_packStep s (fg_pack ch x C f (i + 1)).1 (fg_pack ch x C f (i + 1)).2 i ch u x C = 0 → g_packStep s (fg_pack ch x C f (i + 1)).1 (fg_pack ch x C f (i + 1)).2 i ch u x C = s)
    unfold f_packStep g_packStep
    rcases Nat.lt_or_ge i C with l | l
    · have n1 : ¬ nI C ≤ nI i := fun q => absurd ((nI_leI (a := C) (b := i) (by omega) (by omega)).mp q) (by omega)
      rw [if_neg n1, if_neg n1]
      have ih := sim hrg hC10 hch hqa hD hN f (i + 1) (by omega) (by omega)
      by_cases hb : bt x i = true
      · have nb : ¬ (x &&& (1 <<< ((nI i) &&& 31))) = 0 := fun q => by rw [(b_tst2 (by omega)).mp q] at hb; cases hb
        have nb2 : ¬ ((x >>> ((nI i) &&& 31)) &&& 1) = 0 := fun q => by rw [(b_tst1 (by omega)).2.mp q] at hb; cases hb
        rw [if_neg nb, if_neg nb]
        obtain ⟨C', rfl⟩ : ∃ C', C = C' + 1 := ⟨C - 1, by omega⟩
        have e3 := x3_here hC10 l nb2
        have em : f_Mcp t x i (C' + 1) rg qa ch = vXR (x_MpkStep_51 t (fg_Mpk x (C' + 1) rg qa ch C').1 (fg_Mpk x (C' + 1) rg qa ch C').2 x i (C' + 1) rg qa ch t) := by
          show f_MpkStep t (fg_Mpk x (C' + 1) rg qa ch C').1 (fg_Mpk x (C' + 1) rg qa ch C').2 x i (C' + 1) rg qa ch = _
          unfold f_MpkStep
          rw [if_neg (by rw [e3]; exact fun q => absurd (nI_inj (by omega) (by omega) q) (by omega))]
          cases x_MpkStep_51 t (fg_Mpk x (C' + 1) rg qa ch C').1 (fg_Mpk x (C' + 1) rg qa ch C').2 x i (C' + 1) rg qa ch t <;> rfl
        rw [em]
        have key : vXR (x_packStep_43 s (fg_pack ch x (C' + 1) f (i + 1)).1 (fg_pack ch x (C' + 1) f (i + 1)).2 i ch u x (C' + 1) s) = vXR (x_MpkStep_51 t (fg_Mpk x (C' + 1) rg qa ch C').1 (fg_Mpk x (C' + 1) rg qa ch C').2 x i (C' + 1) rg qa ch t) ∧ (vXR (x_packStep_43 s (fg_pack ch x (C' + 1) f (i + 1)).1 (fg_pack ch x (C' + 1) f (i + 1)).2 i ch u x (C' + 1) s) = 0 → mXR (x_packStep_43 s (fg_pack ch x (C' + 1) f (i + 1)).1 (fg_pack ch x (C' + 1) f (i + 1)).2 i ch u x (C' + 1) s) = s) := by
          unfold x_packStep_43 x_MpkStep_51
          rw [e3]
          have fe : ∀ k, k < ch → ((s 1153 k) &&& (s 1152 i) = 0 ↔ ¬ f_MisFree t (t qa k) i rg = 0) := fun k hk => by
            obtain ⟨a, m, b, c2, d⟩ := h.2 k hk
            rw [free_eq hrg l hC10, b_dis, a, c2, hs 1152 (by decide)]
            refine ⟨fun H ⟨j, j1, j2, j3⟩ => ?_, fun H j j1 j2 => ?_⟩
            · have w := (hD i l j (by omega)).mpr ⟨by omega, by omega, (hN i j l (by omega)).mpr ?_⟩
              · rw [H j (by omega) j2] at w
                cases w
              · unfold nearM at j3 ⊢
                rw [← ht _ (by have := hrg j (by omega); omega)]
                exact j3
            · cases w : bt (s0 1152 i) j with
              | false => rfl
              | true =>
                exfalso
                obtain ⟨w1, w2, w3⟩ := (hD i l j j1).mp w
                have ji : j < i := by
                  rcases Nat.lt_or_ge j i with z | z
                  · exact z
                  · rw [b_lo b z] at j2
                    cases j2
                refine H ⟨j, ji, j2, ?_⟩
                have w4 := (hN i j l w1).mp w3
                unfold nearM at w4 ⊢
                rw [ht _ (by have := hrg j (by omega); omega)]
                exact w4
          have pm : ∀ k, k < ch → (fg_Mpk x (C' + 1) rg qa ch C').2 (u2 t qa k ((t qa k) ||| (1 <<< ((nI i) &&& 31)))) (i + 1) = u2 t qa k ((t qa k) ||| (1 <<< ((nI i) &&& 31))) := fun k hk => pk_same hC10 C' _ (i + 1) (by omega) (by omega) (h.cln.put (by omega) hk).1
          have pf : ∀ k, (fg_Mpk x (C' + 1) rg qa ch C').1 (u2 t qa k ((t qa k) ||| (1 <<< ((nI i) &&& 31)))) (i + 1) = f_Mcp (u2 t qa k ((t qa k) ||| (1 <<< ((nI i) &&& 31)))) x (i + 1) (C' + 1) rg qa ch := fun k => (pk_fuel hC10 C' (C' + 1) _ (i + 1) (by omega) (by omega) (by omega)).1
          have ihk : ∀ k, k < ch → k ≤ u → _ := fun k hk hku => ih (u2 s 1153 k ((s 1153 k) ||| (1 <<< ((nI i) &&& 31)))) (u2 t qa k ((t qa k) ||| (1 <<< ((nI i) &&& 31)))) (max u (k + 1)) (fun q hq => (u2_ne hq).trans (hs q hq)) (fun q hq => (u2_ne hq).trans (ht q hq)) (h.put (by omega) hk hku)
          have TL := two_loops (S := XS9) (T := XS9) (s := s) (t := t) (u := u) (ch := ch) (stepC := fun i43 s43 => (if (nI ch) ≤ (nI i43) then .inr (s43, 0) else (if ((s43 1153 i43) &&& (s43 1152 i)) = 0 then (if ((fg_pack ch x (C' + 1) f (i + 1)).1 (u2 s43 1153 i43 ((s43 1153 i43) ||| (1 <<< ((nI i) &&& 31)))) (max u (i43 + 1))) = 0 then .inl (u2 ((fg_pack ch x (C' + 1) f (i + 1)).2 (u2 s43 1153 i43 ((s43 1153 i43) ||| (1 <<< ((nI i) &&& 31)))) (max u (i43 + 1))) 1153 i43 ((((fg_pack ch x (C' + 1) f (i + 1)).2 (u2 s43 1153 i43 ((s43 1153 i43) ||| (1 <<< ((nI i) &&& 31)))) (max u (i43 + 1))) 1153 i43) - (1 <<< ((nI i) &&& 31)))) else .inr ((fg_pack ch x (C' + 1) f (i + 1)).2 (u2 s43 1153 i43 ((s43 1153 i43) ||| (1 <<< ((nI i) &&& 31)))) (max u (i43 + 1)), 1)) else .inl s43)))
            (stepM := fun i51 s51 => (if (f_MisFree s51 (s51 qa i51) i rg) = 0 then .inl s51 else (if ((fg_Mpk x (C' + 1) rg qa ch C').1 (u2 s51 qa i51 ((s51 qa i51) ||| (1 <<< ((nI i) &&& 31)))) (i + 1)) = 0 then (if ((((fg_Mpk x (C' + 1) rg qa ch C').2 (u2 s51 qa i51 ((s51 qa i51) ||| (1 <<< ((nI i) &&& 31)))) (i + 1)) qa i51) &&& ((1 <<< ((nI i) &&& 31)) ^^^ (-1))) = 0 then .inr (u2 ((fg_Mpk x (C' + 1) rg qa ch C').2 (u2 s51 qa i51 ((s51 qa i51) ||| (1 <<< ((nI i) &&& 31)))) (i + 1)) qa i51 ((((fg_Mpk x (C' + 1) rg qa ch C').2 (u2 s51 qa i51 ((s51 qa i51) ||| (1 <<< ((nI i) &&& 31)))) (i + 1)) qa i51) &&& ((1 <<< ((nI i) &&& 31)) ^^^ (-1))), 0) else .inl (u2 ((fg_Mpk x (C' + 1) rg qa ch C').2 (u2 s51 qa i51 ((s51 qa i51) ||| (1 <<< ((nI i) &&& 31)))) (i + 1)) qa i51 ((((fg_Mpk x (C' + 1) rg qa ch C').2 (u2 s51 qa i51 ((s51 qa i51) ||| (1 <<< ((nI i) &&& 31)))) (i + 1)) qa i51) &&& ((1 <<< ((nI i) &&& 31)) ^^^ (-1))))) else .inr (u2 ((fg_Mpk x (C' + 1) rg qa ch C').2 (u2 s51 qa i51 ((s51 qa i51) ||| (1 <<< ((nI i) &&& 31)))) (i + 1)) qa i51 ((((fg_Mpk x (C' + 1) rg qa ch C').2 (u2 s51 qa i51 ((s51 qa i51) ||| (1 <<< ((nI i) &&& 31)))) (i + 1)) qa i51) &&& ((1 <<< ((nI i) &&& 31)) ^^^ (-1))), 1))))
            (fun k => ¬ f_MisFree t (t qa k) i rg = 0) (fun k => f_Mcp (u2 t qa k ((t qa k) ||| (1 <<< ((nI i) &&& 31)))) x (i + 1) (C' + 1) rg qa ch) h.1 ?_ ?_ ?_ ?_ u 0 (Nat.zero_add u)
          · rw [Nat.sub_zero] at TL
            exact TL
          · intro k hku hk
            have n2 : ¬ nI ch ≤ nI k := fun q => absurd ((nI_leI (a := ch) (b := k) (by have := h.1; omega) (by omega)).mp q) (by omega)
            obtain ⟨r1, r2⟩ := ihk k hk hku
            (try dsimp only)
            rw [if_neg n2]
            refine ⟨fun a => ?_, fun a v => ?_, fun a v => ?_⟩
            · rw [if_neg (fun q => a ((fe k hk).mp q))]
            · rw [if_pos ((fe k hk).mpr a), if_pos (r1.trans v), r2 (r1.trans v)]
              congr 1
              refine u2_back ?_
              obtain ⟨a9, m, b, c2, d⟩ := h.2 k hk
              rw [u2_at, a9, c2, (bset (by omega) b).1, bsubm (by omega) b]
            · rw [if_pos ((fe k hk).mpr a), if_neg (fun q => v (r1.symm.trans q))]
              exact ⟨_, rfl⟩
          · intro eu
            (try dsimp only)
            rw [if_pos (by rw [eu]; exact Int32.le_refl _)]
          · intro k hku
            have hk : k < ch := by have := h.1; omega
            obtain ⟨a9, m, b, c2, d⟩ := h.2 k hk
            have m0 : ¬ t qa k = 0 := fun q => by
              rw [c2] at q
              have := nI_zero (n := m) (by have : 2 ^ i ≤ 2 ^ 9 := Nat.pow_le_pow_right (by decide) (by omega); omega) q
              omega
            obtain ⟨q1, q2⟩ := h.cln.put (by omega) hk
            have q3 : (u2 t qa k ((t qa k) ||| (1 <<< ((nI i) &&& 31)))) qa k &&& ((1 <<< ((nI i) &&& 31)) ^^^ (-1)) = t qa k := by rw [u2_at, c2, (bset (by omega) b).1, (bset (by omega) b).2]
            (try dsimp only)
            rw [pm k hk, pf k, q2, q3]
            refine ⟨fun a => ?_, fun a v => ?_, fun a v => ?_⟩
            · rw [if_pos (Classical.not_not.mp a)]
            · rw [if_neg a, if_pos v, if_neg m0]
            · rw [if_neg a, if_neg v]
              exact ⟨_, rfl⟩
          · intro huc
            obtain ⟨a9, m, b, c2, d⟩ := h.2 u huc
            have m0 : t qa u = 0 := by
              rw [c2, d.mpr (Nat.le_refl u)]
              rfl
            obtain ⟨q1, q2⟩ := h.cln.put (by omega) huc
            have q3 : (u2 t qa u ((t qa u) ||| (1 <<< ((nI i) &&& 31)))) qa u &&& ((1 <<< ((nI i) &&& 31)) ^^^ (-1)) = t qa u := by rw [u2_at, c2, (bset (by omega) b).1, (bset (by omega) b).2]
            have fr : ¬ f_MisFree t (t qa u) i rg = 0 := (fe u huc).mp (by
              rw [a9, m0]
              exact b_dis.mpr fun j _ z => by rw [b_0] at z; cases z)
            (try dsimp only)
            rw [pm u huc, pf u, q2, q3]
            refine ⟨fr, fun v => ?_, fun v => ?_⟩
            · rw [if_neg fr, if_pos v, if_pos m0]
              exact ⟨_, rfl⟩
            · rw [if_neg fr, if_neg v]
              exact ⟨_, rfl⟩
        generalize (x_packStep_43 s (fg_pack ch x (C' + 1) f (i + 1)).1 (fg_pack ch x (C' + 1) f (i + 1)).2 i ch u x (C' + 1) s) = w9 at key ⊢
        cases w9 with
        | inl a => exact key
        | inr a => exact key
      · have hb0 : bt x i = false := by cases w : bt x i with | false => rfl | true => exact absurd w hb
        rw [if_pos ((b_tst2 (by omega)).mpr hb0), if_pos ((b_tst2 (by omega)).mpr hb0), cp_out hC10 l ((b_tst1 (by omega)).2.mpr hb0)]
        exact ih s t u hs ht (h.mono (Nat.le_succ i))
    · obtain rfl : i = C := by omega
      rw [if_pos (Int32.le_refl _), if_pos (Int32.le_refl _), cp_end hC10]
      exact ⟨rfl, fun _ => rfl⟩
end
end
section
/-! ===== stations, alike on both sides ===== -/
def RB (τ : XS9) : Prop := ∀ a b, a < 5 → b < 5 → bt (τ (5010 + a) 3) b = bt (τ (5010 + b) 3) a
section
variable {τ τ2 σ : XS9} {x y v : Int32} {R C ch : Nat}
theorem RB.kept (h : RB τ) (e : ∀ a, a < 5 → τ2 (5010 + a) 3 = τ (5010 + a) 3) : RB τ2 := fun a b ha hb => by
  rw [e a ha, e b hb]
  exact h a b ha hb
theorem RB.ma (h : RB τ) (m : MA τ τ2) : RB τ2 := h.kept fun a ha => m _ _ (by unfold kb; omega)
theorem RB.s00 (h : RB τ) {x : Int32} : RB (u2 (u2 τ 5000 0 0) 5000 0 x) := h.ma MA.s00
theorem RB.init : RB s0M := fun a b ha hb => by rw [s0M_50 (by omega), s0M_50 (by omega), b_0, b_0]
theorem RB.region (h : RB τ) (ha : RA τ σ) (hR5 : R ≤ 5) (eR : cn (τ 5001 900) = R) : RB (g_Mregion τ x y v R) := by
  unfold g_Mregion
  (repeat' split) <;> first | with_reducible exact h.s00 | skip
  rename_i hn
  have hR : R < 5 := by
    have : R ≠ 5 := fun e => hn (by rw [e]; rfl)
    omega
  refine h.kept fun a ha5 => ?_
  by_cases e : a = R
  · subst e
    rw [u2_ne (by omega), uR_eq]
    exact (ha.2.2.2.2.2 a (by omega) ha5).symm
  · rw [u2_ne (by omega), uR_ne (by omega), u2_ne (by omega)]
theorem RB.bidder {u : Int32} {B : Nat} (h : RB τ) (hB6 : B ≤ 6) : RB (g_Mbidder τ x y v u B) := by
  unfold g_Mbidder
  (repeat' split) <;> first | with_reducible exact h.s00 | (refine h.kept fun a ha5 => ?_; rw [u2_ne (by omega), u2_ne (by omega), uR_ne (by omega), u2_ne (by omega)]) | exact h.s00
theorem RB.rules (h : RB τ) : RB (g_Mrules τ x y) := by
  unfold g_Mrules
  (repeat' split) <;> first | with_reducible exact h.s00 | (refine h.kept fun a ha5 => ?_; rw [u2_ne (by omega), u2_ne (by omega), u2_ne (by omega)]) | exact h.s00
theorem RB.knock (h : RB τ) : RB (g_Mknock τ) := h.kept fun a ha5 => by
  unfold g_Mknock
  rw [u2_ne (by omega), u2_ne (by omega)]
theorem RB.station (h : RB τ) : RB (g_Mstation τ x y R C) := by
  unfold g_Mstation g_addI
  (repeat' split) <;> first | with_reducible exact h.s00 | (refine h.kept fun a ha5 => ?_; rw [u2_ne (by omega), u2_ne (by omega), u2_ne (by omega), u2_ne (by omega), u2_ne (by omega)]) | exact h.s00
theorem RB.ask (h : RB τ) : RB (g_Mask τ x y C) := by
  unfold g_Mask g_setS
  (repeat' split) <;> first | with_reducible exact h.s00 | (refine h.kept fun a ha5 => ?_; rw [u2_ne (by omega), u2_ne (by omega), u2_ne (by omega)]) | exact h.s00
theorem RB.border (h : RB τ) (hR5 : R ≤ 5) : RB (g_Mborder τ x y R) := by
  unfold g_Mborder
  split
  · rename_i hx
    split
    · rename_i hy
      split
      · exact h.s00
      · rename_i hn
        split
        · have hx2 := hx.2
          have hy2 := hy.2
          have hxy : cn y ≠ cn x := fun e => hn (by rw [e])
          rw [u2_ne (show 5010 + cn y ≠ 5010 + cn x by omega), u2_ne (show 5010 + cn y ≠ 5000 by omega)]
          have row : ∀ a b, a < 5 → b < 5 → bt (u2 (u2 (u2 τ 5000 0 0) (5010 + cn x) 3 (τ (5010 + cn x) 3 ||| 1 <<< (nI (cn y) &&& 31))) (5010 + cn y) 3 (τ (5010 + cn y) 3 ||| 1 <<< (nI (cn x) &&& 31)) (5010 + a) 3) b = (bt (τ (5010 + a) 3) b || decide ((a = cn x ∧ b = cn y) ∨ (a = cn y ∧ b = cn x))) := fun a b ha hb => by
            by_cases e1 : a = cn y
            · subst e1
              rw [u2_at, b_or, b_bit (by omega) (by omega)]
              congr 1
              refine decide_eq_decide.mpr ⟨fun z => .inr ⟨rfl, z⟩, fun z => ?_⟩
              rcases z with z | z
              · exact absurd z.1 hxy
              · exact z.2
            · rw [u2_ne (show 5010 + a ≠ 5010 + cn y by omega)]
              by_cases e2 : a = cn x
              · subst e2
                rw [u2_at, b_or, b_bit (by omega) (by omega)]
                congr 1
                refine decide_eq_decide.mpr ⟨fun z => .inl ⟨rfl, z⟩, fun z => ?_⟩
                rcases z with z | z
                · exact z.2
                · exact absurd z.1 e1
              · rw [u2_ne (show 5010 + a ≠ 5010 + cn x by omega), u2_ne (show 5010 + a ≠ 5000 by omega), decide_eq_false (by omega), Bool.or_false]
          intro a b ha hb
          rw [row a b ha hb, row b a hb ha, h a b ha hb]
          congr 1
          exact decide_eq_decide.mpr ⟨fun z => by omega, fun z => by omega⟩
        · exact h.s00
    · exact h.s00
  · exact h.s00
/-- the search from any rows that hold what was told, on both sides -/
theorem pack_any {s0 t0 : XS9} (h : RA τ σ) (hb : RB τ) (r : JR τ) (hch : ch ≤ 6) (s1013 : s0 1013 = σ 1013) (s1152 : s0 1152 = g_findDisturbed σ (mC τ) (arg σ) 1152) (z1153 : ∀ c, c < 6 → s0 1153 c = 0) (hm : ∀ a, a < 5 → t0 (5010 + a) = τ (5010 + a)) (ht : t0 20000 = rowN ch) : (fg_pack ch x (mC τ) 10 0).1 s0 0 = f_Mcp t0 x 0 (mC τ) (mrg τ) 20000 ch := by
  have hC10 := r.hS.2
  have hrg : ∀ j, j < mC τ → mrg τ j < 5 := fun j hj => Nat.lt_of_lt_of_le (r.hrg j hj).2 r.hR.2
  have erg : ∀ j, j < mC τ → arg σ j = mrg τ j := fun j hj => by
    show cn (σ 1151 j) = cn (τ 5004 (2 * j))
    rw [(h.2.2.2.2.1 j (by omega)).2]
  have hrgC : ∀ j, j < mC τ → arg σ j < 5 := fun j hj => by rw [erg j hj]; exact hrg j hj
  obtain ⟨d1, d2⟩ := dist_all (σ := σ) hrgC hC10
  have nC : ∀ a j, a < mC τ → j < mC τ → (nearC σ (arg σ) a j ↔ nearC σ (mrg τ) a j) := fun a j ha hj => by
    unfold nearC
    rw [erg a ha, erg j hj]
  refine (sim (s0 := s0) (t0 := t0) hrg hC10 hch (qa := 20000) (Nat.le_refl _) ?_ ?_ 10 0 rfl (Nat.zero_le _) s0 t0 0 (fun _ _ => rfl) (fun _ _ => rfl) ⟨Nat.zero_le _, fun c hc => ?_⟩).1
  · intro a ha j hj
    rw [s1152, d1 a ha j hj]
    have e9 : ∀ rg : Nat → Nat, nearC s0 rg a j ↔ nearC σ rg a j := fun rg => by
      unfold nearC
      rw [s1013]
    rw [e9]
    exact ⟨fun ⟨p, q, w⟩ => ⟨p, q, (nC a j ha p).mp w⟩, fun ⟨p, q, w⟩ => ⟨p, q, (nC a j ha p).mpr w⟩⟩
  · intro a b ha hb2
    unfold nearC nearM
    rw [s1013, hm _ (hrg b hb2), (h.2.1 _ (hrg a ha)).2.2.2, hb _ _ (hrg a ha) (hrg b hb2)]
    exact ⟨fun z => z.imp Eq.symm id, fun z => z.imp Eq.symm id⟩
  · rw [z1153 c (by omega), ht]
    have : rowN ch c = 0 := by
      unfold rowN
      rw [if_neg (by omega), if_neg (by omega)]
    rw [this]
    exact ⟨rfl, 0, Nat.one_pos, rfl, ⟨fun _ => Nat.zero_le _, fun _ => rfl⟩⟩
theorem again_any {s0 t0 : XS9} (h : RA τ σ) (hb : RB τ) (r : JR τ) (hch : ch ≤ 6) (hs : ∀ q, q ≠ 1153 → s0 q = g_findDisturbed σ (mC τ) (arg σ) q) (hm : ∀ a, a < 5 → t0 (5010 + a) = τ (5010 + a)) (ht : t0 20000 = rowN ch) : f_packAgain s0 x ch (mC τ) = f_Mcp t0 x 0 (mC τ) (mrg τ) 20000 ch :=
  pack_any (s0 := g_fill s0 1153 6 0) h hb r hch (by rw [fr_fill (by decide), hs _ (by decide), fr_findDisturbed (by decide)]) (by rw [fr_fill (by decide), hs _ (by decide)]) (fun c hc => fill_at 6 0 _ (fun q => absurd q (by omega)) (by omega)) hm ht
theorem pack_eq (h : RA τ σ) (hb : RB τ) (r : JR τ) (hch : ch ≤ 6) : f_pack σ x ch (mC τ) (arg σ) = f_Mcp (uR (u2 τ 5000 0 0) 20000 (rowN ch)) x 0 (mC τ) (mrg τ) 20000 ch :=
  again_any h hb r hch (fun _ _ => rfl) (fun a ha => by rw [uR_ne (by omega), u2_ne (by omega)]) (uR_eq _ _ _)
end
end
section
/-! ===== the answers of packs and clear ===== -/
section
variable {τ σ : XS9} {x y v : Int32} {C ch : Nat}
theorem cp_01 {s : XS9} {x : Int32} {i C : Nat} {rg : Nat → Nat} {qa ch : Nat} : f_Mcp s x i C rg qa ch = 0 ∨ f_Mcp s x i C rg qa ch = 1 := bo_Mpk C s i
theorem says_packs (h : RA τ σ) (hb : RB τ) (r : JR τ) (eC : aC σ = mC τ) : g_Mpacks τ x y (mR τ) (mC τ) (mrg τ) 5000 0 = lw_k [eIAE] (o_packs σ x y (aC σ) (arg σ)) ∧ ∀ w, o_packs σ x y (aC σ) (arg σ) = .inl w → w = f_Mpacks τ x y (mR τ) (mC τ) (mrg τ) := by
  rw [eC]
  unfold g_Mpacks o_packs f_Mpacks
  by_cases c1 : n_lt x (2 ^ mC τ)
  · by_cases c2 : n_bt y 1 6
    · have hc := cn6 c2
      simp only [if_pos c1, if_pos c2]
      refine ⟨?_, fun w e => ?_⟩
      · rw [u2_ne (by decide), fr_Mcp ⟨by decide, hc⟩, uR_ne (by decide), u2_at]
        rfl
      · rw [← Sum.inl.inj e, pack_eq h hb r hc]
        rcases cp_01 (s := uR (u2 τ 5000 0 0) 20000 (rowN (cn y))) (x := nI (cn x)) (i := 0) (C := mC τ) (rg := mrg τ) (qa := 20000) (ch := cn y) with z | z
        · rw [if_pos z, z]
        · rw [if_neg (by rw [z]; decide), z]
    · simp only [if_pos c1, if_neg c2]
      exact ⟨u2_at, fun w e => by cases e⟩
  · simp only [if_neg c1]
    exact ⟨u2_at, fun w e => by cases e⟩
/-- asks are from 1 to 9999 -/
def RS (τ : XS9) : Prop := ∀ k, k < mC τ → bd 9999 (τ 5004 (2 * k + 1)) ∧ τ 5004 (2 * k + 1) ≠ 0
end
end
section
/-! ===== the packing's channels ===== -/
section
variable {s0 t0 s t : XS9} {x y v : Int32} {i C u : Nat} {rg : Nat → Nat}
theorem chan_min (hC10 : C ≤ 10) {i : Nat} {s : XS9} (h : PJc x y C rg i 0 s) : (x_Mchannel_104 x y C rg i (s, 0)).1 = s ∧ (x_Mchannel_104 x y C rg i (s, 0)).2 < cn y ∧ ¬ f_MisFits s (nI (cn x)) i (x_Mchannel_104 x y C rg i (s, 0)).2 C rg 20000 (cn y) = 0 ∧ ∀ c', c' < (x_Mchannel_104 x y C rg i (s, 0)).2 → f_MisFits s (nI (cn x)) i c' C rg 20000 (cn y) = 0 := by
  unfold x_Mchannel_104
  refine xitB_fin (fun k t => t = (s, k) ∧ PJc x y C rg i k s) (fun t => t.1 = s ∧ t.2 < cn y ∧ ¬ f_MisFits s (nI (cn x)) i t.2 C rg 20000 (cn y) = 0 ∧ ∀ c', c' < t.2 → f_MisFits s (nI (cn x)) i c' C rg 20000 (cn y) = 0) (N := cn y) (fun k t hk ht => ?_) (fun t ht => (PJc.no hC10 ht.2).elim) (cn y) 0 (s, 0) (Nat.zero_add _) ⟨rfl, h⟩
  obtain ⟨rfl, hp⟩ := ht
  have e := fits_same (rg := rg) (x := nI (cn x)) hC10 hp.1 hk hp.2.2.1
  (try dsimp only)
  split
  · rename_i hf
    refine ⟨fun s' q => ?_, fun s' q => (by cases q)⟩
    rw [← Sum.inl.inj q, e]
    have := hp.next hC10 hk hf
    rw [e] at this
    exact ⟨rfl, this⟩
  · rename_i hf
    refine ⟨fun s' q => (by cases q), fun s' q => ?_⟩
    rw [← Sum.inr.inj q]
    exact ⟨e, hk, hf, hp.2.2.2.2⟩
theorem first_hit {S : Type} {stepC : Nat → S → S ⊕ (S × Int32)} {s : S} {u ch : Nat} (A : Nat → Prop) (V : Nat → Int32) (G : Nat → S)
    (hC : ∀ k, k ≤ u → k < ch → (¬ A k → stepC k s = .inl s) ∧ (A k → V k = 0 → stepC k s = .inl s) ∧ (A k → ¬ V k = 0 → stepC k s = .inr (G k, 1)))
    (hCe : ∀ k, k ≤ u → ch ≤ k → stepC k s = .inr (s, 0)) :
    ∀ n k, k + n = u → ¬ vXR (xitR stepC (n + 1) k s) = 0 → ∃ k', k ≤ k' ∧ k' ≤ u ∧ k' < ch ∧ A k' ∧ ¬ V k' = 0 ∧ (∀ c, k ≤ c → c < k' → ¬ A c ∨ V c = 0) ∧ xitR stepC (n + 1) k s = .inr (G k', 1) := by
  intro n
  induction n with
  | zero =>
    intro k e nz
    have un0 : ∀ {S R : Type} (step : Nat → S → S ⊕ R) (f i : Nat) (s : S), xitR step (f + 1) i s = (match step i s with | .inl s' => xitR step f (i + 1) s' | .inr r => .inr r) := fun _ _ _ _ => rfl
    have un := un0 stepC 0 k s
    rcases Nat.lt_or_ge k ch with l | l
    · obtain ⟨p, q, r⟩ := hC k (by omega) l
      by_cases a : A k
      · by_cases w : V k = 0
        · rw [un, q a w] at nz
          exact absurd rfl nz
        · refine ⟨k, Nat.le_refl k, by omega, l, a, w, fun c h1 h2 => absurd h1 (by omega), ?_⟩
          rw [un, r a w]
      · rw [un, p a] at nz
        exact absurd rfl nz
    · rw [un, hCe k (by omega) l] at nz
      exact absurd rfl nz
  | succ n ih =>
    intro k e nz
    have un0 : ∀ {S R : Type} (step : Nat → S → S ⊕ R) (f i : Nat) (s : S), xitR step (f + 1) i s = (match step i s with | .inl s' => xitR step f (i + 1) s' | .inr r => .inr r) := fun _ _ _ _ => rfl
    have un := un0 stepC (n + 1) k s
    rcases Nat.lt_or_ge k ch with l | l
    · obtain ⟨p, q, r⟩ := hC k (by omega) l
      have miss : stepC k s = .inl s → (¬ A k ∨ V k = 0) → ∃ k', k ≤ k' ∧ k' ≤ u ∧ k' < ch ∧ A k' ∧ ¬ V k' = 0 ∧ (∀ c, k ≤ c → c < k' → ¬ A c ∨ V c = 0) ∧ xitR stepC (n + 1 + 1) k s = .inr (G k', 1) := fun z z2 => by
        rw [un, z] at nz
        obtain ⟨k', a1, a2, a3, a4, a5, a6, a7⟩ := ih (k + 1) (by omega) nz
        refine ⟨k', by omega, a2, a3, a4, a5, fun c h1 h2 => ?_, ?_⟩
        · by_cases e2 : c = k
          · rw [e2]
            exact z2
          · exact a6 c (by omega) h2
        · rw [un, z]
          exact a7
      by_cases a : A k
      · by_cases w : V k = 0
        · exact miss (q a w) (.inr w)
        · refine ⟨k, Nat.le_refl k, by omega, l, a, w, fun c h1 h2 => absurd h1 (by omega), ?_⟩
          rw [un, r a w]
      · exact miss (p a) (.inl a)
    · rw [un, hCe k (by omega) l] at nz
      exact absurd rfl nz
theorem free_fe {qa ch : Nat} (hrg : ∀ j, j < C → rg j < 5) (hC10 : C ≤ 10) (hqa : 20000 ≤ qa) (hD : DISr s0 rg C s0) (hN : ∀ a b, a < C → b < C → (nearC s0 rg a b ↔ nearM t0 rg b a)) (hs : ∀ q, q ≠ 1153 → s q = s0 q) (ht : ∀ q, q ≠ qa → t q = t0 q) (h : STC qa ch i u s t) (l : i < C) {k : Nat} (hk : k < ch) : (s 1153 k) &&& (s 1152 i) = 0 ↔ ¬ f_MisFree t (t qa k) i rg = 0 := by
  obtain ⟨a, m, b, c2, d⟩ := h.2 k hk
  rw [free_eq hrg l hC10, b_dis, a, c2, hs 1152 (by decide)]
  refine ⟨fun H ⟨j, j1, j2, j3⟩ => ?_, fun H j j1 j2 => ?_⟩
  · have w := (hD i l j (by omega)).mpr ⟨by omega, by omega, (hN i j l (by omega)).mpr ?_⟩
    · rw [H j (by omega) j2] at w
      cases w
    · unfold nearM at j3 ⊢
      rw [← ht _ (by have := hrg j (by omega); omega)]
      exact j3
  · cases w : bt (s0 1152 i) j with
    | false => rfl
    | true =>
      exfalso
      obtain ⟨w1, w2, w3⟩ := (hD i l j j1).mp w
      have ji : j < i := by
        rcases Nat.lt_or_ge j i with z | z
        · exact z
        · rw [b_lo b z] at j2
          cases j2
      refine H ⟨j, ji, j2, ?_⟩
      have w4 := (hN i j l w1).mp w3
      unfold nearM at w4 ⊢
      rw [ht _ (by have := hrg j (by omega); omega)]
      exact w4
/-- both keep the same channels -/
theorem pack_fin (hrg : ∀ j, j < C → rg j < 5) (hC10 : C ≤ 10) (hch : cn y ≤ 6) (hD : DISr s0 rg C s0) (hN : ∀ a b, a < C → b < C → (nearC s0 rg a b ↔ nearM t0 rg b a)) : ∀ (f i : Nat), i + f = 10 → i ≤ C → ∀ (s t : XS9) (u : Nat), (∀ q, q ≠ 1153 → s q = s0 q) → (∀ q, q ≠ 20000 → t q = t0 q) → STC 20000 (cn y) i u s t → ¬ (fg_pack (cn y) (nI (cn x)) C f i).1 s u = 0 →
    (∀ c, c < cn y → ∀ j, j < i → bt ((fg_pack (cn y) (nI (cn x)) C f i).2 s u 1153 c) j = bt (s 1153 c) j) ∧ (∀ c, cn y ≤ c → (fg_pack (cn y) (nI (cn x)) C f i).2 s u 1153 c = s 1153 c) ∧ (∀ j, i ≤ j → bt (nI (cn x)) j = false → ∀ c, c < cn y → bt ((fg_pack (cn y) (nI (cn x)) C f i).2 s u 1153 c) j = false) ∧ ∀ v : Int32, i ≤ cn v → cn v < C → bt (nI (cn x)) (cn v) = true → ∃ k t', k < cn y ∧ xitR (s_Mchan x y v C rg) (cn v + 1 - i) i t = .inr (t', nI k) ∧ ∀ c, c < cn y → (bt ((fg_pack (cn y) (nI (cn x)) C f i).2 s u 1153 c) (cn v) = true ↔ c = k) := by
  intro f
  induction f with
  | zero =>
    intro i e hi s t u hs ht h nz
    obtain rfl : i = C := by omega
    refine ⟨fun c _ j _ => rfl, fun c _ => rfl, fun j hj _ c hc => ?_, fun v h1 h2 => absurd h1 (by omega)⟩
    obtain ⟨a, m, b, c2, d⟩ := h.2 c hc
    show bt (s 1153 c) j = false
    rw [a, c2]
    exact b_lo b hj
  | succ f ihf =>
    intro i e hi s t u hs ht h nz
    have S := sim (x := nI (cn x)) (qa := 20000) hrg hC10 hch (Nat.le_refl _) hD hN
    have S0 := (S (f + 1) i e hi s t u hs ht h).1
    have low : ∀ c, c < cn y → ∀ j, i ≤ j → bt (s 1153 c) j = false := fun c hc j hj => by
      obtain ⟨a, m, b, c2, d⟩ := h.2 c hc
      rw [a, c2]
      exact b_lo b hj
    have eF : (fg_pack (cn y) (nI (cn x)) C (f + 1) i).2 s u = g_packStep s (fg_pack (cn y) (nI (cn x)) C f (i + 1)).1 (fg_pack (cn y) (nI (cn x)) C f (i + 1)).2 i (cn y) u (nI (cn x)) C := rfl
    have eV : (fg_pack (cn y) (nI (cn x)) C (f + 1) i).1 s u = f_packStep s (fg_pack (cn y) (nI (cn x)) C f (i + 1)).1 (fg_pack (cn y) (nI (cn x)) C f (i + 1)).2 i (cn y) u (nI (cn x)) C := rfl
    rcases Nat.lt_or_ge i C with l | l
    · have n1 : ¬ nI C ≤ nI i := fun q => absurd ((nI_leI (a := C) (b := i) (by omega) (by omega)).mp q) (by omega)
      have ih := ihf (i + 1) (by omega) (by omega)
      have un0 : ∀ {S R : Type} (step : Nat → S → S ⊕ R) (f i : Nat) (s : S), xitR step (f + 1) i s = (match step i s with | .inl s' => xitR step f (i + 1) s' | .inr r => .inr r) := fun _ _ _ _ => rfl
      have un : ∀ (v : Int32) (n : Nat) (t : XS9), _ := fun v n t => un0 (s_Mchan x y v C rg) n i t
      cases hb : bt (nI (cn x)) i with
      | false =>
        have z0 := (b_tst2 (x := nI (cn x)) (j := i) (by omega)).mpr hb
        have g1 : (fg_pack (cn y) (nI (cn x)) C (f + 1) i).2 s u = (fg_pack (cn y) (nI (cn x)) C f (i + 1)).2 s u := by
          rw [eF]
          unfold g_packStep
          rw [if_neg n1, if_pos z0]
        have g2 : (fg_pack (cn y) (nI (cn x)) C (f + 1) i).1 s u = (fg_pack (cn y) (nI (cn x)) C f (i + 1)).1 s u := by
          rw [eV]
          unfold f_packStep
          rw [if_neg n1, if_pos z0]
        rw [g2] at nz
        rw [g1]
        obtain ⟨p1, p2, p3, p4⟩ := ih s t u hs ht (h.mono (Nat.le_succ i)) nz
        refine ⟨fun c hc j hj => p1 c hc j (by omega), p2, fun j hj hz c hc => ?_, fun v h1 h2 h3 => ?_⟩
        · by_cases ej : j = i
          · rw [ej, p1 c hc i (Nat.lt_succ_self i)]
            exact low c hc i (Nat.le_refl i)
          · exact p3 j (by omega) hz c hc
        · have ne : cn v ≠ i := fun q => by
            rw [q, hb] at h3
            cases h3
          obtain ⟨k, t', a1, a2, a3⟩ := p4 v (by omega) h2 h3
          refine ⟨k, t', a1, ?_, a3⟩
          rw [show cn v + 1 - i = (cn v + 1 - (i + 1)) + 1 by omega, un, show s_Mchan x y v C rg i t = .inl t from if_pos ((b_tst1 (by omega)).2.mpr hb)]
          exact a2
      | true =>
        have nb : ¬ (nI (cn x) &&& (1 <<< ((nI i) &&& 31))) = 0 := fun q => by rw [(b_tst2 (by omega)).mp q] at hb; cases hb
        have nb2 : ¬ ((nI (cn x) >>> ((nI i) &&& 31)) &&& 1) = 0 := fun q => by rw [(b_tst1 (by omega)).2.mp q] at hb; cases hb
        have ihk : ∀ k, k < cn y → k ≤ u → _ := fun k hk hku => S f (i + 1) (by omega) (by omega) (u2 s 1153 k ((s 1153 k) ||| (1 <<< ((nI i) &&& 31)))) (u2 t 20000 k ((t 20000 k) ||| (1 <<< ((nI i) &&& 31)))) (max u (k + 1)) (fun q hq => (u2_ne hq).trans (hs q hq)) (fun q hq => (u2_ne hq).trans (ht q hq)) (h.put (by omega) hk hku)
        have fV : (fg_pack (cn y) (nI (cn x)) C (f + 1) i).1 s u = vXR (x_packStep_43 s (fg_pack (cn y) (nI (cn x)) C f (i + 1)).1 (fg_pack (cn y) (nI (cn x)) C f (i + 1)).2 i (cn y) u (nI (cn x)) C s) := by
          rw [eV]
          unfold f_packStep
          rw [if_neg n1, if_neg nb]
          cases x_packStep_43 s (fg_pack (cn y) (nI (cn x)) C f (i + 1)).1 (fg_pack (cn y) (nI (cn x)) C f (i + 1)).2 i (cn y) u (nI (cn x)) C s <;> rfl
        have fG : (fg_pack (cn y) (nI (cn x)) C (f + 1) i).2 s u = mXR (x_packStep_43 s (fg_pack (cn y) (nI (cn x)) C f (i + 1)).1 (fg_pack (cn y) (nI (cn x)) C f (i + 1)).2 i (cn y) u (nI (cn x)) C s) := by
          rw [eF]
          unfold g_packStep
          rw [if_neg n1, if_neg nb]
          cases x_packStep_43 s (fg_pack (cn y) (nI (cn x)) C f (i + 1)).1 (fg_pack (cn y) (nI (cn x)) C f (i + 1)).2 i (cn y) u (nI (cn x)) C s <;> rfl
        have fe : ∀ k, k < cn y → ((s 1153 k) &&& (s 1152 i) = 0 ↔ ¬ f_MisFree t (t 20000 k) i rg = 0) := fun k hk => free_fe hrg hC10 (Nat.le_refl _) hD hN hs ht h l hk
        have nz2 := nz
        rw [fV] at nz2
        have FH := first_hit (S := XS9) (stepC := fun i43 s43 => (if (nI (cn y)) ≤ (nI i43) then .inr (s43, 0) else (if ((s43 1153 i43) &&& (s43 1152 i)) = 0 then (if ((fg_pack (cn y) (nI (cn x)) C f (i + 1)).1 (u2 s43 1153 i43 ((s43 1153 i43) ||| (1 <<< ((nI i) &&& 31)))) (max u (i43 + 1))) = 0 then .inl (u2 ((fg_pack (cn y) (nI (cn x)) C f (i + 1)).2 (u2 s43 1153 i43 ((s43 1153 i43) ||| (1 <<< ((nI i) &&& 31)))) (max u (i43 + 1))) 1153 i43 ((((fg_pack (cn y) (nI (cn x)) C f (i + 1)).2 (u2 s43 1153 i43 ((s43 1153 i43) ||| (1 <<< ((nI i) &&& 31)))) (max u (i43 + 1))) 1153 i43) - (1 <<< ((nI i) &&& 31)))) else .inr ((fg_pack (cn y) (nI (cn x)) C f (i + 1)).2 (u2 s43 1153 i43 ((s43 1153 i43) ||| (1 <<< ((nI i) &&& 31)))) (max u (i43 + 1)), 1)) else .inl s43))) (s := s) (u := u) (ch := cn y) (fun k => (s 1153 k) &&& (s 1152 i) = 0) (fun k => (fg_pack (cn y) (nI (cn x)) C f (i + 1)).1 (u2 s 1153 k ((s 1153 k) ||| (1 <<< ((nI i) &&& 31)))) (max u (k + 1))) (fun k => (fg_pack (cn y) (nI (cn x)) C f (i + 1)).2 (u2 s 1153 k ((s 1153 k) ||| (1 <<< ((nI i) &&& 31)))) (max u (k + 1))) ?_ ?_ u 0 (Nat.zero_add u) nz2
        · obtain ⟨k, _, ku, kc, kA, kV, kmin, ke⟩ := FH
          have kmin : ∀ c, c < k → ¬ (s 1153 c) &&& (s 1152 i) = 0 ∨ (fg_pack (cn y) (nI (cn x)) C f (i + 1)).1 (u2 s 1153 c ((s 1153 c) ||| (1 <<< ((nI i) &&& 31)))) (max u (c + 1)) = 0 := fun c hc => kmin c (Nat.zero_le c) hc
          have kV : ¬ (fg_pack (cn y) (nI (cn x)) C f (i + 1)).1 (u2 s 1153 k ((s 1153 k) ||| (1 <<< ((nI i) &&& 31)))) (max u (k + 1)) = 0 := kV
          have g1 : (fg_pack (cn y) (nI (cn x)) C (f + 1) i).2 s u = (fg_pack (cn y) (nI (cn x)) C f (i + 1)).2 (u2 s 1153 k ((s 1153 k) ||| (1 <<< ((nI i) &&& 31)))) (max u (k + 1)) := by
            rw [fG]
            unfold x_packStep_43
            rw [ke]
            rfl
          have hput := h.put (show i < 10 by omega) kc ku
          obtain ⟨p1, p2, p3, p4⟩ := ih (u2 s 1153 k ((s 1153 k) ||| (1 <<< ((nI i) &&& 31)))) (u2 t 20000 k ((t 20000 k) ||| (1 <<< ((nI i) &&& 31)))) (max u (k + 1)) (fun q hq => (u2_ne hq).trans (hs q hq)) (fun q hq => (u2_ne hq).trans (ht q hq)) hput kV
          -- the reference's channel
          have pj : PJc x y C rg i 0 t := ⟨l, nb2, h.cln, fun z => nz (S0.trans z), fun c' hc' => absurd hc' (by omega)⟩
          obtain ⟨m1, m2, m3, m4⟩ := chan_min hC10 pj
          obtain ⟨kM, ekM⟩ : ∃ kM, kM = (x_Mchannel_104 x y C rg i (t, 0)).2 := ⟨_, rfl⟩
          rw [← ekM] at m2 m3 m4
          have hM : x_Mchannel_104 x y C rg i (t, 0) = (t, kM) := Prod.ext m1 ekM.symm
          clear ekM m1
          have fits : ∀ c, c < cn y → c ≤ u → (¬ f_MisFits t (nI (cn x)) i c C rg 20000 (cn y) = 0 ↔ ((s 1153 c) &&& (s 1152 i) = 0 ∧ ¬ (fg_pack (cn y) (nI (cn x)) C f (i + 1)).1 (u2 s 1153 c ((s 1153 c) ||| (1 <<< ((nI i) &&& 31)))) (max u (c + 1)) = 0)) := fun c hc hcu => by
            rw [(ihk c hc hcu).1, fe c hc]
            unfold f_MisFits
            by_cases w : f_MisFree t (t 20000 c) i rg = 0
            · rw [if_pos w]
              exact ⟨fun z => absurd rfl z, fun z => absurd w z.1⟩
            · rw [if_neg w]
              exact ⟨fun z => ⟨w, z⟩, fun z => z.2⟩
          have ek : kM = k := by
            rcases Nat.lt_trichotomy kM k with z | z | z
            · have q := (fits kM m2 (by omega)).mp m3
              rcases kmin kM z with w | w
              · exact absurd q.1 w
              · exact absurd w q.2
            · exact z
            · exact absurd (m4 k z) ((fits k kc ku).mpr ⟨kA, kV⟩)
          have bits : ∀ c, c < cn y → (bt ((fg_pack (cn y) (nI (cn x)) C f (i + 1)).2 (u2 s 1153 k ((s 1153 k) ||| (1 <<< ((nI i) &&& 31)))) (max u (k + 1)) 1153 c) i = true ↔ c = k) := fun c hc => by
            rw [p1 c hc i (Nat.lt_succ_self i)]
            by_cases z : c = k
            · rw [z, u2_at, b_or, b_bit (by omega) (by omega), decide_eq_true rfl, Bool.or_true]
              exact ⟨fun _ => rfl, fun _ => rfl⟩
            · rw [u2_oi z, low c hc i (Nat.le_refl i)]
              exact ⟨fun w => (by cases w), fun w => absurd w z⟩
          rw [g1]
          refine ⟨fun c hc j hj => ?_, fun c hc => ?_, fun j hj hz c hc => ?_, fun v h1 h2 h3 => ?_⟩
          · rw [p1 c hc j (by omega)]
            by_cases z : c = k
            · rw [z, u2_at, b_or, b_bit (by omega) (by omega), decide_eq_false (by omega), Bool.or_false]
            · rw [u2_oi z]
          · rw [p2 c hc, u2_oi (by omega)]
          · by_cases ej : j = i
            · rw [ej, hb] at hz
              cases hz
            · exact p3 j (by omega) hz c hc
          · by_cases ev : cn v = i
            · have S1 : ∃ t', xitR (s_Mchan x y v C rg) (cn v + 1 - i) i t = .inr (t', nI k) := by
                have st : s_Mchan x y v C rg i t = .inr (u2 (u2 ((x_Mchannel_104 x y C rg i (t, 0)).1) 20000 ((x_Mchannel_104 x y C rg i (t, 0)).2) ((((x_Mchannel_104 x y C rg i (t, 0)).1) 20000 ((x_Mchannel_104 x y C rg i (t, 0)).2)) ||| (1 <<< ((nI i) &&& 31)))) 20000 20 0, nI ((x_Mchannel_104 x y C rg i (t, 0)).2)) := (if_neg nb2).trans (if_pos (by rw [ev]))
                rw [hM, ek] at st
                rw [show cn v + 1 - i = 0 + 1 by omega, un, st]
                exact ⟨_, rfl⟩
              obtain ⟨t', e1⟩ := S1
              refine ⟨k, t', kc, e1, fun c hc => ?_⟩
              rw [ev]
              exact bits c hc
            · obtain ⟨k3, t3, a1, a2, a3⟩ := p4 v (by omega) h2 h3
              refine ⟨k3, t3, a1, ?_, a3⟩
              have st : s_Mchan x y v C rg i t = .inl (u2 ((x_Mchannel_104 x y C rg i (t, 0)).1) 20000 ((x_Mchannel_104 x y C rg i (t, 0)).2) ((((x_Mchannel_104 x y C rg i (t, 0)).1) 20000 ((x_Mchannel_104 x y C rg i (t, 0)).2)) ||| (1 <<< ((nI i) &&& 31)))) := (if_neg nb2).trans (if_neg (fun z => ev (nI_inj (by omega) (by omega) z).symm))
              rw [hM, ek] at st
              rw [show cn v + 1 - i = (cn v + 1 - (i + 1)) + 1 by omega, un, st]
              exact a2
        · intro k hku hk
          have n2 : ¬ nI (cn y) ≤ nI k := fun q => absurd ((nI_leI (a := cn y) (b := k) (by omega) (by omega)).mp q) (by omega)
          obtain ⟨r1, r2⟩ := ihk k hk hku
          (try dsimp only)
          rw [if_neg n2]
          refine ⟨fun a => ?_, fun a w => ?_, fun a w => ?_⟩
          · rw [if_neg a]
          · rw [if_pos a, if_pos w, r2 w]
            congr 1
            refine u2_back ?_
            obtain ⟨a9, m, b, c2, d⟩ := h.2 k hk
            rw [u2_at, a9, c2, (bset (by omega) b).1, bsubm (by omega) b]
          · rw [if_pos a, if_neg w]
        · intro k hku hk
          (try dsimp only)
          rw [if_pos ((nI_leI (a := cn y) (b := k) (by omega) (by have := h.1; omega)).mpr hk)]
    · obtain rfl : i = C := by omega
      have g1 : (fg_pack (cn y) (nI (cn x)) i (f + 1) i).2 s u = s := by
        rw [eF]
        unfold g_packStep
        rw [if_pos (Int32.le_refl _)]
      rw [g1]
      exact ⟨fun c _ j _ => rfl, fun c _ => rfl, fun j hj _ c hc => low c hc j hj, fun v h1 h2 => absurd h1 (by omega)⟩
end
end
