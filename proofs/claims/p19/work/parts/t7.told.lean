section
/-! ===== the clock: regions, bidders, the opening ===== -/
section
variable {τ τ2 σ σ2 : XS9} {R B : Nat}
theorem fillz {a n : Nat} {x : Int32} {s : XS9} {j : Nat} (hj : j < n) : g_fill s a n x a j = x := by
  unfold g_fill x_fill_5
  exact fill_at n 0 s (fun h => absurd h (by omega)) (by omega)
theorem begin_ok {s : XS9} : (∀ r, r < 5 → g_begin s 2000 2001 r = s 1012 r) ∧ (∀ j, j < 6 → g_begin s 2000 2004 j = s 1015 j) ∧ (∀ j, j < 6 → g_begin s 2000 2002 j = 0 ∧ g_begin s 2000 2003 j = 0 ∧ g_begin s 2000 2006 j = 0) ∧ (∀ j, j < 6 → g_begin s 2000 2005 j = 2) ∧ g_begin s 2000 2000 12 = 0 ∧ g_begin s 2000 2000 9 = 0 := by
  unfold g_begin
  refine ⟨fun r hr => ?_, fun j hj => ?_, fun j hj => ⟨?_, ?_, ?_⟩, fun j hj => ?_, u2_at, ?_⟩
  · rw [u2_ne (by decide), u2_ne (by decide), fr_fill (by decide), fr_fill (by decide), fr_fill (by decide), fr_fill (by decide), uR_ne (by decide), uR_eq, cpy_lo hr]
  · rw [u2_ne (by decide), u2_ne (by decide), fr_fill (by decide), fr_fill (by decide), fr_fill (by decide), fr_fill (by decide), uR_eq, cpy_lo hj]
  · rw [u2_ne (by decide), u2_ne (by decide), fr_fill (by decide), fr_fill (by decide), fr_fill (by decide)]
    exact fillz hj
  · rw [u2_ne (by decide), u2_ne (by decide), fr_fill (by decide), fr_fill (by decide)]
    exact fillz hj
  · rw [u2_ne (by decide), u2_ne (by decide)]
    exact fillz hj
  · rw [u2_ne (by decide), u2_ne (by decide), fr_fill (by decide)]
    exact fillz hj
  · rw [u2_oi (by decide), u2_at]
/-- the clock begun anew, before the opening -/
theorem RC.begun {s : XS9} (h : RC τ σ) (r : JR τ) (e0 : τ 5000 1 = 0) (eB : mB τ2 ≤ 6) (m1 : τ2 5000 1 = τ 5000 1) (m4 : τ2 5000 4 = τ 5000 4) (m3 : τ2 5003 900 = τ 5003 900) (c7 : s 1000 7 = σ 1000 7) (c8 : s 1000 8 = σ 1000 8) (m25 : τ2 7000 25 = τ 7000 25) : RC τ2 (g_begin s 2000) := by
  obtain ⟨b1, b2, b3, b4, b5, b6⟩ := begin_ok (s := s)
  have k0 : τ 5003 900 = 0 := (r.hp0 e0).2.2
  have eK : mK τ2 = 0 := by
    show cn (τ2 5003 900) = 0
    rw [m3, k0]
    rfl
  have r0 : g_begin s 2000 1000 = s 1000 := fr_begin (by omega)
  have r12 : g_begin s 2000 1012 = s 1012 := fr_begin (by omega)
  have r15 : g_begin s 2000 1015 = s 1015 := fr_begin (by omega)
  refine ⟨?_, ?_, ?_, ?_, fun e => ?_, fun e => ?_, (by rw [m25, m1]; exact h.fl), ⟨fun k hk => ?_, fun k hk j hj => ?_, fun k hk r hr => ?_, fun k hk j hj => ?_, fun k hk j hj => ?_⟩⟩
  · rw [r0, c7, m1]; exact h.st
  · rw [r0, c7]; exact h.sb
  · rw [r0, c8, m4]; exact h.stp
  · rw [b6, m3, k0]
  · exact absurd (m1.trans e0) e
  · refine ⟨fun r hr => ?_, fun j hj => ?_, b3, fun j hj => b4 j (by omega), b5⟩
    · rw [b1 r hr, r12]
    · rw [b2 j hj, r15]
  all_goals (rw [eK] at hk; exact absurd hk (by omega))
theorem RC.region {x y v : Int32} (h : RC τ σ) (r : JR τ) (hR5 : R ≤ 5) : RC (g_Mregion τ x y v R) (g_region σ x y v R) := by
  unfold g_Mregion g_region
  by_cases c1 : n_bt x 1 5
  · by_cases c2 : n_bt y 1 9
    · by_cases c3 : n_bt v 1 999
      · by_cases c4 : σ 1000 7 = 0
        · have c6 : τ 5000 1 = 0 := h.st.symm.trans c4
          by_cases c5 : nI R < 5
          · rw [if_pos c1, if_pos c2, if_pos c3, if_pos c6, if_neg ((nI5 hR5).mp c5), if_pos c1, if_pos c2, if_pos c3, if_pos c4, if_pos c5]
            have hR : R < 5 := (nI_ltI (a := R) (b := 5) (by omega) (by omega)).mp c5
            refine h.begun r c6 ?_ ?_ ?_ ?_ ?_ ?_ ?_
            · show cn (u2 _ _ _ _ 5002 900) ≤ 6
              rw [u2_ne (by decide), uR_ne (by omega), u2_ne (by decide)]
              exact r.hB.2
            · rw [u2_ne (by decide), uR_ne (by omega), u2_oi (by decide)]
            · rw [u2_ne (by decide), uR_ne (by omega), u2_oi (by decide)]
            · rw [u2_ne (by decide), uR_ne (by omega), u2_ne (by decide)]
            · rw [fr_addRegion (by decide)]
            · rw [fr_addRegion (by decide)]
            · rw [u2_ne (by decide), uR_ne (by omega), u2_ne (by decide)]
          · rw [if_pos c1, if_pos c2, if_pos c3, if_pos c6, if_pos (Classical.not_not.mp (fun e => c5 ((nI5 hR5).mpr e))), if_pos c1, if_pos c2, if_pos c3, if_pos c4, if_neg c5]
            exact h.kept r MK.s00 VK.rfl'
        · rw [if_pos c1, if_pos c2, if_pos c3, if_neg (fun e => c4 (h.st.trans e)), if_pos c1, if_pos c2, if_pos c3, if_neg c4]
          exact h.kept r MK.s00 VK.rfl'
      · rw [if_pos c1, if_pos c2, if_neg c3, if_pos c1, if_pos c2, if_neg c3]
        exact h.kept r MK.s00 VK.rfl'
    · rw [if_pos c1, if_neg c2, if_pos c1, if_neg c2]
      exact h.kept r MK.s00 VK.rfl'
  · rw [if_neg c1, if_neg c1]
    exact h.kept r MK.s00 VK.rfl'
theorem RC.bidder {x y v u : Int32} (h : RC τ σ) (r : JR τ) (hB6 : B ≤ 6) : RC (g_Mbidder τ x y v u B) (g_bidder σ x y v u B) := by
  unfold g_Mbidder g_bidder
  by_cases c1 : n_bt x 0 99999
  · by_cases c2 : n_bt y 1 200
    · by_cases c3 : n_bt v 0 30
      · by_cases c7 : n_bt u 0 3
        · by_cases c4 : σ 1000 7 = 0
          · have c6 : τ 5000 1 = 0 := h.st.symm.trans c4
            by_cases c5 : nI B < 6
            · rw [if_pos c1, if_pos c2, if_pos c3, if_pos c7, if_pos c6, if_neg ((nI6 hB6).mp c5), if_pos c1, if_pos c2, if_pos c3, if_pos c7, if_pos c4, if_pos c5]
              have hB : B < 6 := (nI_ltI (a := B) (b := 6) (by omega) (by omega)).mp c5
              refine h.begun r c6 ?_ ?_ ?_ ?_ ?_ ?_ ?_
              · show cn (u2 _ _ _ _ 5002 900) ≤ 6
                rw [u2_at, cn_nI (by omega)]
                omega
              · rw [u2_ne (by decide), u2_ne (by omega), uR_ne (by omega), u2_oi (by decide)]
              · rw [u2_ne (by decide), u2_ne (by omega), uR_ne (by omega), u2_oi (by decide)]
              · rw [u2_ne (by decide), u2_ne (by omega), uR_ne (by omega), u2_ne (by decide)]
              · rw [fr_addBidder (by decide)]
              · rw [fr_addBidder (by decide)]
              · rw [u2_ne (by decide), u2_ne (by omega), uR_ne (by omega), u2_ne (by decide)]
            · rw [if_pos c1, if_pos c2, if_pos c3, if_pos c7, if_pos c6, if_pos (Classical.not_not.mp (fun e => c5 ((nI6 hB6).mpr e))), if_pos c1, if_pos c2, if_pos c3, if_pos c7, if_pos c4, if_neg c5]
              exact h.kept r MK.s00 VK.rfl'
          · rw [if_pos c1, if_pos c2, if_pos c3, if_pos c7, if_neg (fun e => c4 (h.st.trans e)), if_pos c1, if_pos c2, if_pos c3, if_pos c7, if_neg c4]
            exact h.kept r MK.s00 VK.rfl'
        · rw [if_pos c1, if_pos c2, if_pos c3, if_neg c7, if_pos c1, if_pos c2, if_pos c3, if_neg c7]
          exact h.kept r MK.s00 VK.rfl'
      · rw [if_pos c1, if_pos c2, if_neg c3, if_pos c1, if_pos c2, if_neg c3]
        exact h.kept r MK.s00 VK.rfl'
    · rw [if_pos c1, if_neg c2, if_pos c1, if_neg c2]
      exact h.kept r MK.s00 VK.rfl'
  · rw [if_neg c1, if_neg c1]
    exact h.kept r MK.s00 VK.rfl'
/-! regions that are not there have nothing -/
def RZ (τ : XS9) : Prop := ∀ r, cn (τ 5001 900) ≤ r → r < 5 → τ (5010 + r) 0 = 0 ∧ τ (5010 + r) 1 = 0 ∧ τ (5010 + r) 2 = 0
theorem RZ.kept (h : RZ τ) (m : MA τ τ2) : RZ τ2 := fun r h1 h2 => by
  have M : ∀ q i, kb q i → τ2 q i = τ q i := m
  rw [M _ _ (by unfold kb; omega)] at h1
  rw [M _ _ (by unfold kb; omega), M _ _ (by unfold kb; omega), M _ _ (by unfold kb; omega)]
  exact h r h1 h2
theorem RZ.of (h : RZ τ) (e1 : τ2 5001 900 = τ 5001 900) (e : ∀ r i, r < 5 → i < 3 → τ2 (5010 + r) i = τ (5010 + r) i) : RZ τ2 := fun r h1 h2 => by
  rw [e1] at h1
  rw [e r 0 h2 (by decide), e r 1 h2 (by decide), e r 2 h2 (by decide)]
  exact h r h1 h2
theorem RZ.s00 (h : RZ τ) {x : Int32} : RZ (u2 (u2 τ 5000 0 0) 5000 0 x) := h.kept MA.s00
theorem RZ.init : RZ s0M := fun r _ h2 => ⟨s0M_50 (by omega), s0M_50 (by omega), s0M_50 (by omega)⟩
theorem RZ.region {x y v : Int32} (h : RZ τ) (hR5 : R ≤ 5) (eR : cn (τ 5001 900) = R) : RZ (g_Mregion τ x y v R) := by
  unfold g_Mregion
  (repeat' split) <;> first | exact h.s00 | skip
  rename_i hn
  have hR : R < 5 := by
    have : R ≠ 5 := fun e => hn (by rw [e]; rfl)
    omega
  intro r h1 h2
  rw [u2_at, cn_nI (by omega)] at h1
  rw [u2_ne (by omega), uR_ne (by omega), u2_ne (by omega)]
  exact h r (by omega) h2
theorem RZ.bidder {x y v u : Int32} (h : RZ τ) (hB6 : B ≤ 6) : RZ (g_Mbidder τ x y v u B) := by
  unfold g_Mbidder
  (repeat' split) <;> first | exact h.s00 | skip
  rename_i hn
  have hB : B < 6 := by
    have : B ≠ 6 := fun e => hn (by rw [e]; rfl)
    omega
  exact h.of (by rw [u2_ne (by decide), u2_ne (by omega), uR_ne (by omega), u2_ne (by decide)]) (fun r i hr hi => by rw [u2_ne (by omega), u2_ne (by omega), uR_ne (by omega), u2_ne (by omega)])
theorem RZ.rules {x y : Int32} (h : RZ τ) : RZ (g_Mrules τ x y) := by
  unfold g_Mrules
  (repeat' split) <;> first | exact h.s00 | exact h.of (by rw [u2_ne (by decide), u2_ne (by decide), u2_ne (by decide)]) (fun r i hr hi => by rw [u2_ne (by omega), u2_ne (by omega), u2_ne (by omega)])
theorem RZ.knock (h : RZ τ) : RZ (g_Mknock τ) := by
  unfold g_Mknock
  exact h.of (by rw [u2_ne (by decide), u2_ne (by decide)]) (fun r i hr hi => by rw [u2_ne (by omega), u2_ne (by omega)])
theorem RZ.slot {q : Nat} {x : Int32} (h : RZ τ) : RZ (u2 τ q 3 x) := h.of (u2_sl (by decide)) (fun r i hr hi => u2_sl (by omega))
theorem RZ.border {x y : Int32} (h : RZ τ) (hR5 : R ≤ 5) : RZ (g_Mborder τ x y R) := by
  unfold g_Mborder
  split
  · split
    · split
      · exact h.s00
      · split
        · exact (h.kept MA.s0).slot.slot
        · exact h.s00
    · exact h.s00
  · exact h.s00
theorem RZ.station {x y : Int32} {C : Nat} (h : RZ τ) : RZ (g_Mstation τ x y R C) := by
  unfold g_Mstation g_addI
  (repeat' split) <;> first | exact h.s00 | exact h.of (by rw [u2_ne (by decide), u2_ne (by decide), u2_ne (by decide), u2_ne (by decide), u2_ne (by decide)]) (fun r i hr hi => by rw [u2_ne (by omega), u2_ne (by omega), u2_ne (by omega), u2_ne (by omega), u2_ne (by omega)])
theorem RZ.ask {x y : Int32} {C : Nat} (h : RZ τ) : RZ (g_Mask τ x y C) := by
  unfold g_Mask g_setS
  (repeat' split) <;> first | exact h.s00 | exact h.of (by rw [u2_ne (by decide), u2_ne (by decide), u2_ne (by decide)]) (fun r i hr hi => by rw [u2_ne (by omega), u2_ne (by omega), u2_ne (by omega)])
/-- what the clock was told -/
theorem told (a : RA τ σ) (z : RZ τ) (j : JC σ) : TQ (mR τ) σ τ := ⟨a.1.2.2, fun r hr => ⟨(a.2.1 r hr).1, by rw [← (a.2.1 r hr).1]; exact j.hsp r hr⟩, fun r hr => (a.2.1 r hr).2.1, fun r h1 h2 => (z r h1 h2).2.1⟩
end
end
section
/-! ===== the clock: its opening, wishes, waivers ===== -/
section
variable {τ τ2 σ σ2 : XS9} {R B g w n : Nat}
theorem put_all {a : Nat} {v : Nat → Int32} {j : Nat} : ∀ (f i : Nat) (s : XS9), (j < i → s a j = v j) → j < i + f → xit (fun i5 (s5 : XS9) => u2 s5 a i5 (v i5)) f i s a j = v j
  | 0, i, s, h1, h2 => h1 (by omega)
  | f + 1, i, s, h1, h2 => put_all f (i + 1) (u2 s a i (v i)) (fun h3 => by
      by_cases e : j = i
      · subst e
        exact u2_at
      · show u2 s a i (v i) a j = v j
        rw [u2_oi e]
        exact h1 (by omega)) (by omega)
theorem Kinit_p {j : Nat} (hj : j < R) : g_Kinit σ 7000 R B 7001 j = σ (5010 + j) 2 := by
  unfold g_Kinit x_Kinit_132
  refine (congrFun (xit_keep (fun s : XS9 => s 7001) (fun i s => by
    (try dsimp only)
    rw [u2_ne (by decide), u2_ne (by decide)]) B 0 _) j).trans ?_
  unfold x_Kinit_95
  exact put_all R 0 _ (fun h => absurd h (by omega)) (by omega)
theorem Kinit_ew {j : Nat} : ∀ (f i : Nat) (s : XS9), (j < i → s 7003 j = σ (5020 + j) 1 ∧ s 7004 j = 2) → j < i + f → xit (fun i132 (s132 : XS9) => u2 (u2 s132 7003 i132 (σ (5020 + i132) 1)) 7004 i132 2) f i s 7003 j = σ (5020 + j) 1 ∧ xit (fun i132 (s132 : XS9) => u2 (u2 s132 7003 i132 (σ (5020 + i132) 1)) 7004 i132 2) f i s 7004 j = 2
  | 0, i, s, h1, h2 => h1 (by omega)
  | f + 1, i, s, h1, h2 => Kinit_ew f (i + 1) (u2 (u2 s 7003 i (σ (5020 + i) 1)) 7004 i 2) (fun h3 => by
      by_cases e : j = i
      · subst e
        rw [u2_ne (show 7003 ≠ 7004 by decide), u2_at, u2_at]
        exact ⟨rfl, rfl⟩
      · rw [u2_ne (show 7003 ≠ 7004 by decide), u2_oi e, u2_oi e, u2_ne (show 7004 ≠ 7003 by decide)]
        exact h1 (by omega)) (by omega)
theorem Kinit_e {j : Nat} (hj : j < B) : g_Kinit σ 7000 R B 7003 j = σ (5020 + j) 1 ∧ g_Kinit σ 7000 R B 7004 j = 2 := by
  unfold g_Kinit x_Kinit_132
  exact Kinit_ew B 0 _ (fun h => absurd h (by omega)) (by omega)
theorem Kinit_o {q : Nat} (h : q ≠ 7001 ∧ q ≠ 7003 ∧ q ≠ 7004) : g_Kinit σ 7000 R B q = g_clk0 σ 7000 q := by
  unfold g_Kinit x_Kinit_132
  refine (xit_keep (fun s : XS9 => s q) (fun i s => by
    (try dsimp only)
    rw [u2_ne h.2.2, u2_ne h.2.1]) B 0 _).trans ?_
  unfold x_Kinit_95
  exact xit_keep (fun s : XS9 => s q) (fun i s => by
    (try dsimp only)
    rw [u2_ne h.1]) R 0 _
theorem clk0_z {q i : Nat} (h : q = 7002 ∨ q = 7005 ∨ q = 7500 ∨ q = 7700) : g_clk0 σ 7000 q i = 0 := by
  have e : g_clk0 σ 7000 q = fun _ => 0 := by
    unfold g_clk0
    (try dsimp only)
    rw [if_neg (by omega), if_pos (by omega)]
  rw [e]
theorem RC.opn (h : RC τ σ) (r : JR τ) (a : RA τ σ) (z : RZ τ) (hR : mR τ = R) (hB : mB τ = B) : RC (g_Mopen τ R B) (g_open σ R B) := by
  have R5 := r.hR.2
  have B6 := r.hB.2
  unfold g_Mopen g_open
  by_cases c1 : σ 1000 7 = 0
  · have c2 : τ 5000 1 = 0 := h.st.symm.trans c1
    rw [if_pos c2, if_pos c1]
    by_cases c3 : R = 0
    · rw [if_pos c3, if_pos (show nI R = 0 by rw [c3]; rfl)]
      exact h.kept r MK.s00 VK.rfl'
    · rw [if_neg c3, if_neg (fun e => c3 (nI_zero (by omega) e))]
      by_cases c4 : B = 0
      · rw [if_pos c4, if_pos (show nI B = 0 by rw [c4]; rfl)]
        exact h.kept r MK.s00 VK.rfl'
      · rw [if_neg c4, if_neg (fun e => c4 (nI_zero (by omega) e))]
        have o := h.off c2
        obtain ⟨t, et⟩ : ∃ t, t = u2 (u2 τ 5000 0 0) 5000 1 1 := ⟨_, rfl⟩
        rw [← et]
        have lo : ∀ q, q < 7000 → u2 (g_Kinit t 7000 R B) 7000 25 1 q = t q := fun q hq => by rw [u2_ne (by omega), fr_Kinit (by omega)]
        have up : ∀ q, q ≠ 7000 → u2 (g_Kinit t 7000 R B) 7000 25 1 q = g_Kinit t 7000 R B q := fun q hq => u2_ne hq
        have hd : ∀ i, i < 20 ∨ 20 < i → i ≠ 25 → u2 (g_Kinit t 7000 R B) 7000 25 1 7000 i = 0 := fun i hi h5 => by
          rw [u2_oi h5, Kinit_o (by decide)]
          show (if i = 20 then (1 : Int32) else if i = 25 then t 7000 25 else 0) = 0
          rw [if_neg (by omega), if_neg h5]
        have tq : ∀ q, q ≠ 5000 → t q = τ q := fun q hq => by rw [et, u2_ne hq, u2_ne hq]
        have k0 : τ 5003 900 = 0 := (r.hp0 c2).2.2
        have eK : mK (u2 (g_Kinit t 7000 R B) 7000 25 1) = 0 := by
          show cn (u2 _ _ _ _ 5003 900) = 0
          rw [lo _ (by decide), tq _ (by decide), k0]
          rfl
        have eR : mR (u2 (g_Kinit t 7000 R B) 7000 25 1) = R := by
          show cn (u2 _ _ _ _ 5001 900) = R
          rw [lo _ (by decide), tq _ (by decide)]
          exact hR
        have eB : mB (u2 (g_Kinit t 7000 R B) 7000 25 1) = B := by
          show cn (u2 _ _ _ _ 5002 900) = B
          rw [lo _ (by decide), tq _ (by decide)]
          exact hB
        have eg : mg (u2 (g_Kinit t 7000 R B) 7000 25 1) = 0 := by
          show cn (u2 _ _ _ _ 7000 23) = 0
          rw [hd _ (by decide) (by decide)]
          rfl
        have ew : mw (u2 (g_Kinit t 7000 R B) 7000 25 1) = 0 := by
          show cn (u2 _ _ _ _ 7000 24) = 0
          rw [hd _ (by decide) (by decide)]
          rfl
        have en : mn (u2 (g_Kinit t 7000 R B) 7000 25 1) = 0 := by
          show cn (u2 _ _ _ _ 7000 21) = 0
          rw [hd _ (by decide) (by decide)]
          rfl
        have cr : ∀ q, q ≠ 1000 → u2 σ 1000 7 1 q = σ q := fun q hq => u2_ne hq
        have e1 : u2 (g_Kinit t 7000 R B) 7000 25 1 5000 1 = 1 := by rw [lo _ (by decide), et, u2_at]
        refine ⟨by rw [u2_at, e1], by rw [u2_at]; exact ⟨rfl, by decide⟩, ?_, ?_, fun e => ?_, fun e => absurd (e1.symm.trans e) (by decide), ⟨fun z => absurd (u2_at.symm.trans z) (by decide), fun z => absurd (e1.symm.trans z) (by decide)⟩, ⟨fun k hk => ?_, fun k hk j hj => ?_, fun k hk r hr => ?_, fun k hk j hj => ?_, fun k hk j hj => ?_⟩⟩
        · rw [u2_oi (by decide), lo _ (by decide), et, u2_oi (by decide), u2_oi (by decide)]
          exact h.stp
        · rw [cr _ (by decide), lo _ (by decide), tq _ (by decide)]
          exact h.k
        · rw [eR, eB, eg, ew, en]
          have a12 : ∀ r, r < 5 → σ 2001 r = τ (5010 + r) 2 := fun r hr => (o.p r hr).trans (a.2.1 r hr).2.2.1
          refine ⟨?_, fun r hr => ?_, fun r h1 h2 => ?_, fun j hj => ?_, fun j h1 h2 => ?_, fun j hj => ?_, (fun j h1 h2 => by show u2 σ 1000 7 1 2003 j = 0; rw [cr _ (by decide)]; exact (o.h j h2).2.1), fun j hj => ?_, fun j hj => ?_, fun j hj => ?_, fun j hj => ?_, fun k hk => absurd hk (by omega), fun k hk => absurd hk (by omega)⟩
          · show u2 σ 1000 7 1 2000 9 = nI 0
            rw [cr _ (by decide), h.k, k0]
            rfl
          · show u2 σ 1000 7 1 2001 r = u2 (g_Kinit t 7000 R B) 7000 25 1 7001 r
            rw [cr _ (by decide), up _ (by decide), a12 r (by omega), Kinit_p hr, tq _ (by omega)]
          · show u2 σ 1000 7 1 2001 r = 0
            rw [cr _ (by decide), a12 r h2]
            exact (z r (by rw [show cn (τ 5001 900) = R from hR]; exact h1) h2).2.2
          · show u2 σ 1000 7 1 2002 j = u2 (g_Kinit t 7000 R B) 7000 25 1 7002 j ∧ bd 7775 (u2 (g_Kinit t 7000 R B) 7000 25 1 7002 j)
            rw [cr _ (by decide), up _ (by decide), (o.h j (by omega)).1, Kinit_o (by decide), clk0_z (by decide)]
            exact ⟨rfl, bd.zero⟩
          · show u2 σ 1000 7 1 2002 j = 0
            rw [cr _ (by decide)]
            exact (o.h j h2).1
          · show u2 σ 1000 7 1 2003 j = u2 (g_Kinit t 7000 R B) 7000 25 1 7500 j ∧ bd 7775 (u2 (g_Kinit t 7000 R B) 7000 25 1 7500 j)
            rw [cr _ (by decide), up _ (by decide), (o.h j (by omega)).2.1, Kinit_o (by decide), clk0_z (by decide)]
            exact ⟨rfl, bd.zero⟩
          · show u2 σ 1000 7 1 2004 j = u2 (g_Kinit t 7000 R B) 7000 25 1 7003 j
            rw [cr _ (by decide), up _ (by decide), o.e j (by omega), (Kinit_e hj).1, tq _ (by omega)]
            exact (a.2.2.1 j (by omega)).2.1
          · show u2 σ 1000 7 1 2005 j = u2 (g_Kinit t 7000 R B) 7000 25 1 7004 j ∧ bd 2 (u2 (g_Kinit t 7000 R B) 7000 25 1 7004 j)
            rw [cr _ (by decide), up _ (by decide), o.w j (by omega), (Kinit_e hj).2]
            exact ⟨rfl, rfl, by decide⟩
          · show u2 σ 1000 7 1 2006 j = u2 (g_Kinit t 7000 R B) 7000 25 1 7005 j
            rw [cr _ (by decide), up _ (by decide), (o.h j (by omega)).2.2, Kinit_o (by decide), clk0_z (by decide)]
          · show f_hasWaived (u2 σ 1000 7 1) 2000 j = 0 ↔ u2 (g_Kinit t 7000 R B) 7000 25 1 7700 j = 0
            rw [up _ (by decide), Kinit_o (by decide), clk0_z (by decide), waived0 (by rw [cr _ (by decide)]; exact o.m)]
        all_goals (rw [eK] at hk; exact absurd hk (by omega))
  · rw [if_neg c1, if_neg (fun e => c1 (h.st.trans e))]
    exact h.kept r MK.s00 VK.rfl'
/-! wishes -/
theorem xsum_from {t : Nat → Int32} {y : Int32} {N : Nat} : xit (fun i s => s + t i) N 0 y = y + xsum t N := by
  induction N with
  | zero => exact (Int32.add_zero y).symm
  | succ k ih => rw [xit_last, ih, xsum_s, Int32.add_assoc]
theorem allies_eq {i j : Nat} (hj : bd 3 (σ 1017 i)) (e1 : σ 1017 i = τ (5020 + i) 3) (e2 : σ 1017 j = τ (5020 + j) 3) {x : Int32} : (if f_areAllies σ i j = 0 then (0 : Int32) else x) = (if nI j = nI i then 0 else (if τ (5020 + i) 3 ≤ 0 then 0 else (if τ (5020 + j) 3 = τ (5020 + i) 3 then x else 0))) := by
  unfold f_areAllies
  have z0 : τ (5020 + i) 3 ≤ 0 ↔ σ 1017 i = 0 := by
    rw [← e1, hj.1, nI_le0 (by have := hj.2; omega)]
    exact ⟨fun e => by rw [e]; rfl, fun e => nI_zero (by have := hj.2; omega) e⟩
  by_cases c1 : nI i = nI j
  · rw [if_pos c1, if_pos rfl, if_pos c1.symm]
  · rw [if_neg c1, if_neg (show ¬ nI j = nI i from fun e => c1 e.symm)]
    by_cases c2 : σ 1017 i = 0
    · rw [if_pos c2, if_pos rfl, if_pos (z0.mpr c2)]
    · rw [if_neg c2, if_neg (show ¬ τ (5020 + i) 3 ≤ 0 from fun e => c2 (z0.mp e))]
      by_cases c3 : σ 1017 i = σ 1017 j
      · rw [if_pos c3, if_neg (by decide), if_pos (by rw [← e1, ← e2, c3])]
      · rw [if_neg c3, if_pos rfl, if_neg (show ¬ τ (5020 + j) 3 = τ (5020 + i) 3 from fun e => c3 (by rw [e1, e2, e]))]
theorem may_eq {i r : Nat} {y : Int32} (hi : i < B) (hr : r < 5) (hB6 : B ≤ 6) (hR5 : R ≤ 5) (hy : bd 5 y) (Q : KQ 2000 7000 R B g w n σ τ) (T : TQ R σ τ) (hg : ∀ j, j < 6 → σ 1017 j = τ (5020 + j) 3 ∧ bd 3 (σ 1017 j)) (hc : σ 1001 10 = τ 5000 2) : f_mayWish σ 2000 i r y B = f_McanWish τ i r y R B g := by
  obtain ⟨w1, w2⟩ := Q.wi i hi
  have w1 : σ (2000 + 3) i = τ (7000 + 500 + g) i := w1
  have al : y + f_wishedByAllies σ 2000 i r B = x_McanWish_45 τ i r y R B g y := by
    have e1 : f_wishedByAllies σ 2000 i r B = xsum (fun j => if f_areAllies σ i j = 0 then (0 : Int32) else f_of (τ (7000 + 500 + g) j) r) B := by
      unfold f_wishedByAllies x_wishedByAllies_6 xsum
      refine xit_cg (N := B) (fun j s hj => ?_) B 0 0 (Nat.zero_add _)
      obtain ⟨v1, v2⟩ := Q.wi j hj
      have v1 : σ (2000 + 3) j = τ (7000 + 500 + g) j := v1
      (try dsimp only)
      rw [v1, many_of v2 hr]
      by_cases c : f_areAllies σ i j = 0
      · rw [if_pos c, if_pos c, Int32.add_zero]
      · rw [if_neg c, if_neg c]
    have e2 : x_McanWish_45 τ i r y R B g y = xit (fun j s => s + (if f_areAllies σ i j = 0 then (0 : Int32) else f_of (τ (7000 + 500 + g) j) r)) B 0 y := by
      unfold x_McanWish_45
      refine xit_cg (N := B) (fun j s hj => ?_) B 0 y (Nat.zero_add _)
      (try dsimp only)
      rw [allies_eq (hg i (by omega)).2 (hg i (by omega)).1 (hg j (by omega)).1]
      by_cases c1 : nI j = nI i
      · rw [if_pos c1, if_pos c1]
      · rw [if_neg c1, if_neg c1]
        by_cases c2 : τ (5020 + i) 3 ≤ 0
        · rw [if_pos c2, if_pos c2]
        · rw [if_neg c2, if_neg c2]
          by_cases c3 : τ (5020 + j) 3 = τ (5020 + i) 3
          · rw [if_pos c3, if_pos c3]
          · rw [if_neg c3, if_neg c3]
    rw [e1, e2]
    exact xsum_from.symm
  have pt : f_total (f_replaced (σ (2000 + 3) i) r y) 5 (σ 1011) = f_Mpoints τ (f_with (τ (7000 + 500 + g) i) r y) R := by
    rw [w1, rep_with w2 hr]
    exact points_eq (w2.withd hr hy) hR5 T.pt T.ptz
  unfold f_mayWish f_McanWish
  rw [pt, al, w1, many_of w2 hr, (T.rg r hr).1, Q.el i hi, hc]
  by_cases c1 : f_of (τ (7000 + 500 + g) i) r < y
  · rw [if_pos c1, if_pos c1]
    by_cases c2 : τ (5010 + r) 0 < y
    · rw [if_pos c2, if_pos c2]
    · rw [if_neg c2, if_neg c2]
      by_cases c3 : τ (7000 + 3) i < f_Mpoints τ (f_with (τ (7000 + 500 + g) i) r y) R
      · rw [if_pos c3]
        by_cases c4 : τ 5000 2 < x_McanWish_45 τ i r y R B g y
        · rw [if_pos c4]
        · rw [if_neg c4, if_pos c3]
      · rw [if_neg c3]
        by_cases c4 : τ 5000 2 < x_McanWish_45 τ i r y R B g y
        · rw [if_pos c4, if_pos c4]
        · rw [if_neg c4, if_neg c4, if_neg c3]
  · rw [if_neg c1, if_neg c1]
theorem RC.wish {x y v : Int32} (h : RC τ σ) (r : JR τ) (a : RA τ σ) (z : RZ τ) (j : JC σ) (hR : mR τ = R) (hB : mB τ = B) (hg : mg τ = g) : RC (g_Mwish τ x y v R B g) (g_wish σ x y v R B) := by
  have R5 := r.hR.2
  have B6 := r.hB.2
  have G := r.hg.2
  unfold g_Mwish g_wish
  by_cases c1 : n_lt x B
  · by_cases c2 : n_lt y R
    · by_cases c3 : n_bt v 0 5
      · by_cases c4 : σ 1000 7 = 1
        · have c5 : τ 5000 1 = 1 := h.st.symm.trans c4
          rw [if_pos c1, if_pos c2, if_pos c3, if_pos c5, if_pos c1, if_pos c2, if_pos c3, if_pos c4]
          have Q := h.on1 c5
          rw [hR, hB, hg] at Q
          have T := told a z j
          rw [hR] at T
          have hx := c1.2
          have hy := c2.2
          have hv : bd 5 v := bd.bt (m := 5) c3 (by decide) rfl (by decide)
          have m0 : ∀ q, q ≠ 5000 → u2 τ 5000 0 0 q = τ q := fun q hq => u2_ne hq
          have Q0 : KQ 2000 7000 R B g (mw τ) (mn τ) σ (u2 τ 5000 0 0) := Q.of r.hn.2.1 (by omega) r.hw.2 (fun _ _ _ => rfl) (fun q h1 h2 => m0 q (by omega))
          have T0 : TQ R σ (u2 τ 5000 0 0) := ⟨by rw [u2_oi (by decide)]; exact T.rl, fun r hr => by rw [m0 _ (by omega)]; exact T.rg r hr, fun r hr => by rw [m0 _ (by omega)]; exact T.pt r hr, fun r h1 h2 => by rw [m0 _ (by omega)]; exact T.ptz r h1 h2⟩
          have em : f_mayWish σ 2000 (cn x) (cn y) (nI (cn v)) B = f_McanWish (u2 τ 5000 0 0) (cn x) (cn y) v R B g := by
            rw [← hv.1]
            exact may_eq hx (by omega) (by omega) (by omega) hv Q0 T0 (fun j9 h9 => by
              rw [m0 _ (by omega)]
              exact ⟨(a.2.2.1 j9 h9).2.2.2, (j.hgr j9 h9).1, Nat.le_of_lt_succ (j.hgr j9 h9).2⟩) (by
              rw [u2_oi (by decide)]
              exact a.1.2.1)
          rw [em]
          by_cases c6 : f_McanWish (u2 τ 5000 0 0) (cn x) (cn y) v R B g = 0
          · rw [if_pos c6, if_pos c6]
            exact h.kept r MK.s00 VK.rfl'
          · rw [if_neg c6, if_neg c6, ← hv.1]
            obtain ⟨w1, w2⟩ := Q.wi (cn x) hx
            have w1 : σ 2003 (cn x) = τ (7000 + 500 + g) (cn x) := w1
            have eW : f_replaced (σ (2000 + 3) (cn x)) (cn y) v = f_with (τ (7000 + 500 + g) (cn x)) (cn y) v := by
              rw [show σ (2000 + 3) (cn x) = τ (7000 + 500 + g) (cn x) from w1]
              exact rep_with w2 (by omega)
            rw [eW]
            have bW := w2.withd (r := cn y) (by omega) hv
            generalize f_with (τ (7000 + 500 + g) (cn x)) (cn y) v = W at bW ⊢
            have mr : ∀ q, q ≠ 5000 → q ≠ 7000 + 500 + g → u2 (u2 τ 5000 0 0) (7000 + 500 + g) (cn x) W q = τ q := fun q h1 h2 => by rw [u2_ne h2, u2_ne h1]
            have m5 : ∀ i, i ≠ 0 → u2 (u2 τ 5000 0 0) (7000 + 500 + g) (cn x) W 5000 i = τ 5000 i := fun i hi => by rw [u2_ne (by omega), u2_oi hi]
            have cr : ∀ q, q ≠ 2003 → u2 σ (2000 + 3) (cn x) W q = σ q := fun q hq => u2_ne hq
            have eR : mR (u2 (u2 τ 5000 0 0) (7000 + 500 + g) (cn x) W) = R := by
              show cn (u2 _ _ _ _ 5001 900) = R
              rw [mr _ (by decide) (by omega)]
              exact hR
            have eB : mB (u2 (u2 τ 5000 0 0) (7000 + 500 + g) (cn x) W) = B := by
              show cn (u2 _ _ _ _ 5002 900) = B
              rw [mr _ (by decide) (by omega)]
              exact hB
            have eK : mK (u2 (u2 τ 5000 0 0) (7000 + 500 + g) (cn x) W) = mK τ := by
              show cn (u2 _ _ _ _ 5003 900) = _
              rw [mr _ (by decide) (by omega)]
            have eg : mg (u2 (u2 τ 5000 0 0) (7000 + 500 + g) (cn x) W) = g := by
              show cn (u2 _ _ _ _ 7000 23) = g
              rw [mr _ (by decide) (by omega)]
              exact hg
            have ew : mw (u2 (u2 τ 5000 0 0) (7000 + 500 + g) (cn x) W) = mw τ := by
              show cn (u2 _ _ _ _ 7000 24) = _
              rw [mr _ (by decide) (by omega)]
            have en : mn (u2 (u2 τ 5000 0 0) (7000 + 500 + g) (cn x) W) = mn τ := by
              show cn (u2 _ _ _ _ 7000 21) = _
              rw [mr _ (by decide) (by omega)]
            have K60 := r.hK.2
            have N60 := r.hn.2.1
            have W2 := r.hw.2
            refine ⟨by rw [cr _ (by decide), m5 _ (by decide)]; exact h.st, by rw [cr _ (by decide)]; exact h.sb, by rw [cr _ (by decide), m5 _ (by decide)]; exact h.stp, by rw [cr _ (by decide), mr _ (by decide) (by omega)]; exact h.k, fun e => ?_, fun e => ?_, (by rw [mr 7000 (by decide) (by omega), m5 _ (by decide)]; exact h.fl), ⟨fun k hk => ?_, fun k hk j hj => ?_, fun k hk r hr => ?_, fun k hk j hj => ?_, fun k hk j hj => ?_⟩⟩
            · rw [eR, eB, eg, ew, en]
              refine ⟨?_, fun r hr => ?_, fun r h1 h2 => ?_, fun j hj => ?_, fun j h1 h2 => ?_, fun j hj => ?_, (fun j h1 h2 => by rw [u2_oi (by omega)]; exact Q.wz j h1 h2), fun j hj => ?_, fun j hj => ?_, fun j hj => ?_, fun j hj => ?_, fun k hk => ?_, fun k hk => ?_⟩
              · rw [cr _ (by decide)]; exact Q.c
              · rw [cr _ (by decide), mr _ (by decide) (by omega)]; exact Q.p r hr
              · rw [cr _ (by decide)]; exact Q.pz r h1 h2
              · rw [cr _ (by decide), mr _ (by decide) (by omega)]; exact Q.he j hj
              · rw [cr _ (by decide)]; exact Q.hz j h1 h2
              · by_cases e9 : j = cn x
                · rw [e9, u2_at, u2_at]
                  exact ⟨rfl, bW⟩
                · rw [u2_oi e9, u2_oi e9, u2_ne (show 7000 + 500 + g ≠ 5000 by omega)]
                  exact Q.wi j hj
              · rw [cr _ (by decide), mr _ (by decide) (by omega)]; exact Q.el j hj
              · rw [cr _ (by decide), mr _ (by decide) (by omega)]; exact Q.wv j hj
              · rw [cr _ (by decide), mr _ (by decide) (by omega)]; exact Q.co j hj
              · rw [show f_hasWaived (u2 σ (2000 + 3) (cn x) W) 2000 j = f_hasWaived σ 2000 j from by unfold f_hasWaived; rw [cr _ (by decide)], mr _ (by omega) (by omega)]
                exact Q.ma j hj
              · rw [cr _ (by omega), mr _ (by omega) (by omega)]; exact Q.lp k hk
              · rw [cr _ (by omega), mr _ (by omega) (by omega)]; exact Q.lh k hk
            · rw [m5 _ (by decide)] at e
              exact absurd (c5.symm.trans e) (by decide)
            · rw [eK] at hk
              rw [cr _ (by omega), mr _ (by omega) (by omega)]; exact h.lg.t k hk
            · rw [eK] at hk
              rw [eB, ← hB] at hj
              rw [cr _ (by omega), mr _ (by omega) (by omega)]; exact h.lg.m k hk j hj
            · rw [eK] at hk
              rw [eR, ← hR] at hr
              rw [cr _ (by omega), mr _ (by omega) (by omega)]; exact h.lg.p k hk r hr
            · rw [eK] at hk
              rw [eB, ← hB] at hj
              rw [cr _ (by omega), mr _ (by omega) (by omega)]; exact h.lg.w k hk j hj
            · rw [eK] at hk
              rw [eB, ← hB] at hj
              rw [cr _ (by omega), mr _ (by omega) (by omega)]; exact h.lg.h k hk j hj
        · rw [if_pos c1, if_pos c2, if_pos c3, if_neg (fun e => c4 (h.st.trans e)), if_pos c1, if_pos c2, if_pos c3, if_neg c4]
          exact h.kept r MK.s00 VK.rfl'
      · rw [if_pos c1, if_pos c2, if_neg c3, if_pos c1, if_pos c2, if_neg c3]
        exact h.kept r MK.s00 VK.rfl'
    · rw [if_pos c1, if_neg c2, if_pos c1, if_neg c2]
      exact h.kept r MK.s00 VK.rfl'
  · rw [if_neg c1, if_neg c1]
    exact h.kept r MK.s00 VK.rfl'
end
end
section
/-! ===== the clock: waivers, and the close of rounds ===== -/
section
variable {τ τ2 σ σ2 : XS9} {R B g w n : Nat}
theorem hasW {s : XS9} {b j : Nat} (hj : j < 32) : f_hasWaived s b j = 0 ↔ bt (s b 12) j = false := by
  unfold f_hasWaived
  rw [← b_tst2 hj]
  split
  · rename_i e
    exact ⟨fun _ => e, fun _ => rfl⟩
  · rename_i e
    exact ⟨fun z => absurd z (by decide), fun z => absurd z e⟩
theorem hasW_or {s s2 : XS9} {b i j : Nat} (hi : i < 32) (hj : j < 32) (e : s2 b 12 = (s b 12) ||| (1 <<< ((nI i) &&& 31))) : f_hasWaived s2 b j = 0 ↔ (j ≠ i ∧ f_hasWaived s b j = 0) := by
  rw [hasW hj, hasW hj, e, b_or, b_bit hi hj]
  by_cases q : j = i
  · rw [decide_eq_true q, Bool.or_true]
    exact ⟨fun z => absurd z (by decide), fun z => absurd q z.1⟩
  · rw [decide_eq_false q, Bool.or_false]
    exact ⟨fun z => ⟨q, z⟩, fun z => z.2⟩
theorem RC.waive {x : Int32} (h : RC τ σ) (r : JR τ) (hB : mB τ = B) (hg : mg τ = g) (hw : mw τ = w) : RC (g_Mwaive τ x B g w) (g_waive σ x B) := by
  have B6 := r.hB.2
  have W2 := r.hw.2
  have K60 := r.hK.2
  have N60 := r.hn.2.1
  have G2 := r.hg.2
  unfold g_Mwaive g_waive
  by_cases c1 : n_lt x B
  · by_cases c4 : σ 1000 7 = 1
    · have c5 : τ 5000 1 = 1 := h.st.symm.trans c4
      rw [if_pos c1, if_pos c5, if_pos c1, if_pos c4]
      have Q := h.on1 c5
      rw [hB, hw] at Q
      have hx := c1.2
      obtain ⟨v1, v2⟩ := Q.wv (cn x) hx
      have v1 : σ (2000 + 5) (cn x) = τ (7000 + 4) (cn x) := v1
      have v2 : bd 2 (τ (7000 + 4) (cn x)) := v2
      have ma := Q.ma (cn x) hx
      have ma : f_hasWaived σ 2000 (cn x) = 0 ↔ τ (7000 + 700 + w) (cn x) = 0 := ma
      have z0 : σ (2000 + 5) (cn x) ≤ 0 ↔ τ (7000 + 4) (cn x) = 0 := by
        rw [v1, v2.1, nI_le0 (by have := v2.2; omega)]
        exact ⟨fun e => by rw [e]; rfl, fun e => nI_zero (by have := v2.2; omega) e⟩
      by_cases c6 : τ (7000 + 4) (cn x) = 0
      · rw [if_pos c6, if_pos (z0.mpr c6)]
        exact h.kept r MK.s00 VK.rfl'
      · rw [if_neg c6, if_neg (fun e => c6 (z0.mp e))]
        by_cases c7 : τ (7000 + 700 + w) (cn x) = 0
        · rw [if_pos c7, if_pos (ma.mpr c7)]
          unfold g_useWaiver
          rw [v1]
          have bV : bd 2 (τ (7000 + 4) (cn x) - 1) := by
            have q2 := v2.2
            have q1 : 0 < cn (τ (7000 + 4) (cn x)) := Nat.pos_of_ne_zero fun e => c6 (by rw [v2.1, e]; rfl)
            rw [v2.1, nI_prd1 q1]
            exact bd.nat (by omega) (by decide)
          generalize τ (7000 + 4) (cn x) - 1 = V at bV ⊢
          obtain ⟨M, eM⟩ : ∃ M, M = (σ 2000 12 ||| (1 <<< ((nI (cn x)) &&& 31))) := ⟨_, rfl⟩
          rw [← eM]
          have mr : ∀ q, q ≠ 5000 → q ≠ 7004 → q ≠ 7000 + 700 + w → u2 (u2 (u2 τ 5000 0 0) (7000 + 4) (cn x) V) (7000 + 700 + w) (cn x) 1 q = τ q := fun q h1 h2 h3 => by rw [u2_ne h3, u2_ne h2, u2_ne h1]
          have m5 : ∀ i, i ≠ 0 → u2 (u2 (u2 τ 5000 0 0) (7000 + 4) (cn x) V) (7000 + 700 + w) (cn x) 1 5000 i = τ 5000 i := fun i hi => by rw [u2_ne (by omega), u2_ne (by decide), u2_oi hi]
          have cr : ∀ q, q ≠ 2005 → q ≠ 2000 → u2 (u2 σ (2000 + 5) (cn x) V) 2000 12 M q = σ q := fun q h1 h2 => by rw [u2_ne h2, u2_ne h1]
          have c0 : ∀ i, i ≠ 12 → u2 (u2 σ (2000 + 5) (cn x) V) 2000 12 M 2000 i = σ 2000 i := fun i hi => by rw [u2_oi hi, u2_ne (by decide)]
          have eR : mR (u2 (u2 (u2 τ 5000 0 0) (7000 + 4) (cn x) V) (7000 + 700 + w) (cn x) 1) = mR τ := by
            show cn (u2 _ _ _ _ 5001 900) = _
            rw [mr _ (by decide) (by decide) (by omega)]
          have eB : mB (u2 (u2 (u2 τ 5000 0 0) (7000 + 4) (cn x) V) (7000 + 700 + w) (cn x) 1) = B := by
            show cn (u2 _ _ _ _ 5002 900) = B
            rw [mr _ (by decide) (by decide) (by omega)]
            exact hB
          have eK : mK (u2 (u2 (u2 τ 5000 0 0) (7000 + 4) (cn x) V) (7000 + 700 + w) (cn x) 1) = mK τ := by
            show cn (u2 _ _ _ _ 5003 900) = _
            rw [mr _ (by decide) (by decide) (by omega)]
          have eg : mg (u2 (u2 (u2 τ 5000 0 0) (7000 + 4) (cn x) V) (7000 + 700 + w) (cn x) 1) = mg τ := by
            show cn (u2 _ _ _ _ 7000 23) = _
            rw [mr _ (by decide) (by decide) (by omega)]
          have ew : mw (u2 (u2 (u2 τ 5000 0 0) (7000 + 4) (cn x) V) (7000 + 700 + w) (cn x) 1) = w := by
            show cn (u2 _ _ _ _ 7000 24) = w
            rw [mr _ (by decide) (by decide) (by omega)]
            exact hw
          have en : mn (u2 (u2 (u2 τ 5000 0 0) (7000 + 4) (cn x) V) (7000 + 700 + w) (cn x) 1) = mn τ := by
            show cn (u2 _ _ _ _ 7000 21) = _
            rw [mr _ (by decide) (by decide) (by omega)]
          refine ⟨by rw [cr _ (by decide) (by decide), m5 _ (by decide)]; exact h.st, by rw [cr _ (by decide) (by decide)]; exact h.sb, by rw [cr _ (by decide) (by decide), m5 _ (by decide)]; exact h.stp, by rw [c0 _ (by decide), mr _ (by decide) (by decide) (by omega)]; exact h.k, fun e => ?_, fun e => ?_, (by rw [mr 7000 (by decide) (by decide) (by omega), m5 _ (by decide)]; exact h.fl), ⟨fun k hk => ?_, fun k hk j hj => ?_, fun k hk r hr => ?_, fun k hk j hj => ?_, fun k hk j hj => ?_⟩⟩
          · rw [eR, eB, eg, ew, en]
            refine ⟨?_, fun r hr => ?_, fun r h1 h2 => ?_, fun j hj => ?_, fun j h1 h2 => ?_, fun j hj => ?_, (fun j h1 h2 => by rw [cr _ (by decide) (by decide)]; exact Q.wz j h1 h2), fun j hj => ?_, fun j hj => ?_, fun j hj => ?_, fun j hj => ?_, fun k hk => ?_, fun k hk => ?_⟩
            · rw [c0 _ (by decide)]; exact Q.c
            · rw [cr _ (by decide) (by decide), mr _ (by decide) (by decide) (by omega)]; exact Q.p r hr
            · rw [cr _ (by decide) (by decide)]; exact Q.pz r h1 h2
            · rw [cr _ (by decide) (by decide), mr _ (by decide) (by decide) (by omega)]; exact Q.he j hj
            · rw [cr _ (by decide) (by decide)]; exact Q.hz j h1 h2
            · rw [cr _ (by decide) (by decide), mr _ (by omega) (by omega) (by omega)]; exact Q.wi j hj
            · rw [cr _ (by decide) (by decide), mr _ (by decide) (by decide) (by omega)]; exact Q.el j hj
            · rw [u2_ne (show 2000 + 5 ≠ 2000 by decide), u2_ne (show 7000 + 4 ≠ 7000 + 700 + w by omega)]
              by_cases e9 : j = cn x
              · rw [e9, u2_at, u2_at]
                exact ⟨rfl, bV⟩
              · rw [u2_oi e9, u2_oi e9, u2_ne (show 7000 + 4 ≠ 5000 by decide)]
                exact Q.wv j hj
            · rw [cr _ (by decide) (by decide), mr _ (by decide) (by decide) (by omega)]; exact Q.co j hj
            · rw [hasW_or (s := σ) (s2 := u2 (u2 σ (2000 + 5) (cn x) V) 2000 12 M) (b := 2000) (i := cn x) (j := j) (by omega) (by omega) (by rw [u2_at]; exact eM)]
              by_cases e9 : j = cn x
              · rw [e9, u2_at]
                exact ⟨fun z => absurd rfl z.1, fun z => absurd z (by decide)⟩
              · rw [u2_oi e9, u2_ne (show 7000 + 700 + w ≠ 7000 + 4 by omega), u2_ne (show 7000 + 700 + w ≠ 5000 by omega)]
                exact ⟨fun z => (Q.ma j hj).mp z.2, fun z => ⟨e9, (Q.ma j hj).mpr z⟩⟩
            · rw [cr _ (by omega) (by omega), mr _ (by omega) (by omega) (by omega)]; exact Q.lp k hk
            · rw [cr _ (by omega) (by omega), mr _ (by omega) (by omega) (by omega)]; exact Q.lh k hk
          · rw [m5 _ (by decide)] at e
            exact absurd (c5.symm.trans e) (by decide)
          · rw [eK] at hk
            rw [cr _ (by omega) (by omega), mr _ (by omega) (by omega) (by omega)]; exact h.lg.t k hk
          · rw [eK] at hk
            rw [eB, ← hB] at hj
            rw [cr _ (by omega) (by omega), mr _ (by omega) (by omega) (by omega)]; exact h.lg.m k hk j hj
          · rw [eK] at hk
            rw [eR] at hr
            rw [cr _ (by omega) (by omega), mr _ (by omega) (by omega) (by omega)]; exact h.lg.p k hk r hr
          · rw [eK] at hk
            rw [eB, ← hB] at hj
            rw [cr _ (by omega) (by omega), mr _ (by omega) (by omega) (by omega)]; exact h.lg.w k hk j hj
          · rw [eK] at hk
            rw [eB, ← hB] at hj
            rw [cr _ (by omega) (by omega), mr _ (by omega) (by omega) (by omega)]; exact h.lg.h k hk j hj
        · rw [if_neg c7, if_neg (fun e => c7 (ma.mp e))]
          exact h.kept r MK.s00 VK.rfl'
    · rw [if_pos c1, if_neg (fun e => c4 (h.st.trans e)), if_pos c1, if_neg c4]
      exact h.kept r MK.s00 VK.rfl'
  · rw [if_neg c1, if_neg c1]
    exact h.kept r MK.s00 VK.rfl'
end
end
section
/-! ===== the clock: the close of rounds ===== -/
section
variable {s : XS9} {x : Int32} {b R B n : Nat}
theorem crM_row {K a : Nat} (h : a ≠ b + 2 ∧ a ≠ b + 3 ∧ a ≠ b + 4 ∧ a ≠ b + 6) : crM s b x B R K a = crL s b x K a := by
  unfold crM x_closeRound_92
  refine (xit_keep (fun s : XS9 => s a) (fun i s => by
    show g_moveHeld s b i B a = s a
    exact fr_moveHeld h.1) R 0 _).trans ?_
  rw [fr_lowerEligible h.2.2.1]
  unfold crU
  split
  · rfl
  · exact fr_undoContradictions ⟨h.2.2.2, h.2.1⟩
theorem cR_7 {k : Nat} (h60 : nI n < 60) : g_closeRound s b x B R n (b + 7) k = if k = n then x else s (b + 7) k := by
  rw [closeRound_eq h60, crF_row (by omega), crM_row (by omega)]
  unfold crL
  rw [uR_ne (by omega), uR_ne (by omega), u2_ne (by omega)]
  by_cases e : k = n
  · rw [if_pos e, e, u2_at]
  · rw [if_neg e, u2_oi e]
theorem cR_8 {k : Nat} (h60 : nI n < 60) : g_closeRound s b x B R n (b + 8) k = if k = n then s b 12 else s (b + 8) k := by
  rw [closeRound_eq h60, crF_row (by omega), crM_row (by omega)]
  unfold crL
  rw [uR_ne (by omega), uR_ne (by omega)]
  by_cases e : k = n
  · rw [if_pos e, e, u2_at]
  · rw [if_neg e, u2_oi e, u2_ne (by omega)]
theorem cR_p {r : Nat} (h60 : nI n < 60) (hn : n < 60) (hr : r < 5) : g_closeRound s b x B R n (b + 101 + n) r = s (b + 1) r := by
  rw [closeRound_eq h60, crF_row (by omega), crM_row (by omega), crL_p hn hr]
theorem cR_w {j : Nat} (h60 : nI n < 60) (hn : n < 60) (hj : j < 6) : g_closeRound s b x B R n (b + 201 + n) j = s (b + 3) j := by
  rw [closeRound_eq h60, crF_row (by omega), crM_row (by omega)]
  unfold crL
  rw [uR_eq, cpy_lo hj]
end
section
variable {τ σ : XS9} {gr : Nat → Nat}
theorem RC.clo1 (h : RC τ σ) (a : RA τ σ) (z : RZ τ) (jc : JC σ) (r : JR τ) (js : JS τ) (hs : τ 5000 1 = 1) : RC (g_clo1 τ (mR τ) (mB τ) (mn τ) (mg τ) (mw τ) (mn τ)) (g_closeRound σ 2000 (τ 5000 4) (mB τ) (mR τ) (mn τ)) ∧ f_closeRound σ 2000 (τ 5000 4) (mB τ) (mR τ) (mn τ) = g_clo1 τ (mR τ) (mB τ) (mn τ) (mg τ) (mw τ) (mn τ) 7000 9 := by
  obtain ⟨_, _, e1, e2, e3, g9⟩ := js.1 hs
  have hR := r.hR
  have hB := r.hB
  have hg : mg τ < 199 := by omega
  have hw : mw τ < 199 := by omega
  have Q := h.on1 hs
  have T := told a z jc
  have h60 : nI (mn τ) < 60 := (nI_ltI (a := mn τ) (b := 60) (by omega) (by omega)).mpr g9
  obtain ⟨C1, C2⟩ := close_sim (x := τ 5000 4) (b := 2000) (b' := 7000) (by omega) (by omega) hR.2 hB.2 g9 hg hw Q T
  have lt := h.lg.t
  have lm := h.lg.m
  have lp := h.lg.p
  have lw := h.lg.w
  have lh := h.lg.h
  rw [e3] at lt lm lp lw lh
  generalize eR : mR τ = R at *
  generalize eB : mB τ = B at *
  generalize eg : mg τ = g at *
  generalize ew : mw τ = w at *
  generalize en : mn τ = n at *
  have cc := clo1_c (σ := τ) (R := R) (B := B) hg hw g9 g9
  have c1 := clo1_n (σ := τ) (R := R) (B := B) (K := n) (g := g) (w := w) (n := n)
  have fr : ∀ q, (q < 5003 ∨ (5003 < q ∧ q < 5200) ∨ (8000 ≤ q)) → g_clo1 τ R B n g w n q = τ q := fun q hq => fr_clo1 hg hw g9 g9 (by omega)
  have fl : ∀ q k, k < n → (q = 5200 + k ∨ q = 6000 + k ∨ q = 6100 + k ∨ q = 6200 + k ∨ q = 6300 + k) → g_clo1 τ R B n g w n q = τ q := fun q k hk hq => fr_clo1 hg hw g9 g9 (by omega)
  have f7 : ∀ q, 7000 ≤ q → q < 8000 → g_clo1 τ R B n g w n q = g_Kclose τ (τ 5000 4) 7000 R B g w n q := fun q h1 h2 => by
    unfold g_clo1
    exact fr_rnd (by omega)
  have rp := rnd_p (σ := g_Kclose τ (τ 5000 4) 7000 R B g w n) (K := n) (t := τ 5000 4) (f1 := τ (7000 + 1)) (f2 := τ (7000 + 500 + g)) (f3 := g_Kclose τ (τ 5000 4) 7000 R B g w n (7000 + 2)) (f4 := τ (7000 + 700 + w)) g9
  have m60 : g_clo1 τ R B n g w n (6000 + n) = τ 7001 := rp.1
  have m61 : g_clo1 τ R B n g w n (6100 + n) = τ (7000 + 500 + g) := rp.2.1
  have m62 : g_clo1 τ R B n g w n (6200 + n) = g_Kclose τ (τ 5000 4) 7000 R B g w n 7002 := rp.2.2.1
  have m63 : g_clo1 τ R B n g w n (6300 + n) = τ (7000 + 700 + w) := rp.2.2.2.1
  have m52 : g_clo1 τ R B n g w n (5200 + n) 0 = τ 5000 4 := congrFun rp.2.2.2.2 0
  have fc : ∀ q, q < 2000 → g_closeRound σ 2000 (τ 5000 4) B R n q = σ q := fun q hq => fr_closeRound (by omega)
  have fcl : ∀ q k, k < n → (q = 2101 + k ∨ q = 2201 + k ∨ q = 2301 + k) → g_closeRound σ 2000 (τ 5000 4) B R n q = σ q := fun q k hk hq => fr_closeRound (by omega)
  have cR : mR (g_clo1 τ R B n g w n) = R := by
    show cn (g_clo1 τ R B n g w n 5001 900) = R
    rw [fr _ (by omega)]
    exact eR
  have cB : mB (g_clo1 τ R B n g w n) = B := by
    show cn (g_clo1 τ R B n g w n 5002 900) = B
    rw [fr _ (by omega)]
    exact eB
  have cK : mK (g_clo1 τ R B n g w n) = n + 1 := by
    show cn (g_clo1 τ R B n g w n 5003 900) = n + 1
    rw [c1, cn_nI (by omega)]
  have cg : mg (g_clo1 τ R B n g w n) = g + 1 := by
    show cn (g_clo1 τ R B n g w n 7000 23) = g + 1
    rw [cc.2.2.2.2.1, cn_nI (by omega)]
  have cw : mw (g_clo1 τ R B n g w n) = w + 1 := by
    show cn (g_clo1 τ R B n g w n 7000 24) = w + 1
    rw [cc.2.2.2.2.2, cn_nI (by omega)]
  have cN : mn (g_clo1 τ R B n g w n) = n + 1 := by
    show cn (g_clo1 τ R B n g w n 7000 21) = n + 1
    rw [cc.2.2.1, cn_nI (by omega)]
  refine ⟨⟨?_, ?_, ?_, ?_, fun _ => ?_, fun e => ?_, (by rw [cc.2.1, fr _ (by omega)]; exact h.fl), ⟨fun k hk => ?_, fun k hk j hj => ?_, fun k hk r hr => ?_, fun k hk j hj => ?_, fun k hk j hj => ?_⟩⟩, ?_⟩
  · rw [fc _ (by decide), fr _ (by omega)]; exact h.st
  · rw [fc _ (by decide)]; exact h.sb
  · rw [fc _ (by decide), fr _ (by omega)]; exact h.stp
  · rw [c1]; exact C1.c
  · rw [cR, cB, cg, cw, cN]
    exact C1.of (by omega) (by omega) (by omega) (fun _ _ _ => rfl) (fun q h1 h2 => f7 q (by omega) (by omega))
  · rw [fr _ (by omega)] at e
    exact absurd (hs.symm.trans e) (by decide)
  · rw [cK] at hk
    refine (cR_7 (b := 2000) h60).trans ?_
    by_cases e : k = n
    · rw [if_pos e, e, m52]
    · rw [if_neg e, fl _ k (by omega) (.inl rfl)]
      exact lt k (by omega)
  · rw [cK] at hk
    rw [cB] at hj
    rw [show g_closeRound σ 2000 (τ 5000 4) B R n 2008 k = if k = n then σ 2000 12 else σ 2008 k from cR_8 (b := 2000) h60]
    by_cases e : k = n
    · rw [if_pos e, e, m63]
      have q := Q.ma j hj
      unfold f_hasWaived at q
      refine Iff.trans ?_ q
      split
      · rename_i y
        exact ⟨fun _ => rfl, fun _ => y⟩
      · rename_i y
        exact ⟨fun v => absurd v y, fun v => absurd v (by decide)⟩
    · rw [if_neg e, fl _ k (by omega) (.inr (.inr (.inr (.inr rfl))))]
      exact lm k (by omega) j hj
  · rw [cK] at hk
    rw [cR] at hr
    by_cases e : k = n
    · rw [e, m60, show g_closeRound σ 2000 (τ 5000 4) B R n (2101 + n) r = σ 2001 r from cR_p (b := 2000) h60 g9 (by omega)]
      exact Q.p r hr
    · rw [fl _ k (by omega) (.inr (.inl rfl)), fcl _ k (by omega) (.inl rfl)]
      exact lp k (by omega) r hr
  · rw [cK] at hk
    rw [cB] at hj
    by_cases e : k = n
    · rw [e, m61, show g_closeRound σ 2000 (τ 5000 4) B R n (2201 + n) j = σ 2003 j from cR_w (b := 2000) h60 g9 (by omega)]
      exact (Q.wi j hj).1
    · rw [fl _ k (by omega) (.inr (.inr (.inl rfl))), fcl _ k (by omega) (.inr (.inl rfl))]
      exact lw k (by omega) j hj
  · rw [cK] at hk
    rw [cB] at hj
    by_cases e : k = n
    · rw [e, m62]
      have q := (C1.lh n (by omega) j hj).1
      have q2 : g_Kclose τ (τ 5000 4) 7000 R B g w n (7000 + 200 + n) = g_Kclose τ (τ 5000 4) 7000 R B g w n 7002 := by
        rw [Kclose_eq]
        exact (kcF_log hg g9).trans (kcF_row (show 7000 + 2 ≠ 7000 ∧ 7000 + 2 ≠ 7000 + 200 + n ∧ 7000 + 2 ≠ 7000 + 500 + (g + 1) ∧ 7000 + 2 ≠ 7000 + 700 + (w + 1) by omega)).symm
      rw [q2] at q
      exact q
    · rw [fl _ k (by omega) (.inr (.inr (.inr (.inl rfl)))), fcl _ k (by omega) (.inr (.inr rfl))]
      exact lh k (by omega) j hj
  · rw [C2, f7 _ (by decide) (by decide)]
theorem MK.over {R B n g w : Nat} {pk : Nat → Nat} {t : XS9} (hB6 : B ≤ 6) : MK t (x_McloseOne_122 τ R B n g w n pk t) := by
  unfold x_McloseOne_122
  refine xit_inv (fun s : XS9 => MK t s) (N := B) (fun i s hi hP => ?_) B 0 _ (Nat.zero_add _) MK.rfl'
  (try dsimp only)
  split
  · exact hP
  · exact hP.trans (MK.madd (by omega))
theorem VK.over {R B K : Nat} {s : XS9} (hB6 : B ≤ 6) (hg : ∀ i, i < 6 → gr i < 4) (jc : JC s) : VK (u2 s 1000 7 2) (g_endClock s R B K gr) := by
  have hx : XCT (u2 s 1000 7 2) := fun i hi => by
    rw [u2_ne (by omega)]
    exact jc.hct i hi
  have H := endClock_loop (σ := s) (R := R) (K := K) hB6 hg (s0 := u2 s 1000 7 2) hx
  unfold g_endClock
  exact (VK.rows fun q hq => H.2 q (by omega)).trans VK.find
/-- one close on both sides -/
theorem RC.clo (h : RC τ σ) (a : RA τ σ) (z : RZ τ) (jc : JC σ) (r : JR τ) (js : JS τ) (hs : τ 5000 1 = 1) (hg : ∀ i, i < 6 → gr i < 4) : RC (g_clo τ) (if f_closeRound σ 2000 (σ 1000 8) (mB τ) (mR τ) (cn (σ 2000 9)) = 0 then g_closeRound σ 2000 (σ 1000 8) (mB τ) (mR τ) (cn (σ 2000 9)) else g_endClock (g_closeRound σ 2000 (σ 1000 8) (mB τ) (mR τ) (cn (σ 2000 9))) (mR τ) (mB τ) (min (cn (σ 2000 9)) 59) gr) := by
  obtain ⟨_, _, e1, e2, e3, g9⟩ := js.1 hs
  have hB6 := r.hB.2
  have jc2 : JC (g_closeRound σ 2000 (σ 1000 8) (mB τ) (mR τ) (cn (σ 2000 9))) := jc.closeRound
  have ek : cn (σ 2000 9) = mn τ := (congrArg cn h.k).trans e3
  obtain ⟨A, F⟩ := RC.clo1 h a z jc r js hs
  show RC (g_McloseOne τ (mR τ) (mB τ) (mK τ) (mg τ) (mw τ) (mn τ) (mpk τ)) _
  rw [ek, h.stp] at jc2 ⊢
  rw [e3]
  have cK : mK (g_clo1 τ (mR τ) (mB τ) (mn τ) (mg τ) (mw τ) (mn τ)) ≤ 60 := by
    show cn (g_clo1 τ (mR τ) (mB τ) (mn τ) (mg τ) (mw τ) (mn τ) 5003 900) ≤ 60
    rw [clo1_n, cn_nI (by omega)]
    omega
  have hbc : mn (g_clo1 τ (mR τ) (mB τ) (mn τ) (mg τ) (mw τ) (mn τ)) ≤ 60 ∧ mg (g_clo1 τ (mR τ) (mB τ) (mn τ) (mg τ) (mw τ) (mn τ)) < 200 ∧ mw (g_clo1 τ (mR τ) (mB τ) (mn τ) (mg τ) (mw τ) (mn τ)) < 200 := by
    have cc := clo1_c (σ := τ) (R := mR τ) (B := mB τ) (K := mn τ) (g := mg τ) (w := mw τ) (n := mn τ) (by omega) (by omega) g9 g9
    refine ⟨?_, ?_, ?_⟩
    · show cn (g_clo1 τ (mR τ) (mB τ) (mn τ) (mg τ) (mw τ) (mn τ) 7000 21) ≤ 60
      rw [cc.2.2.1, cn_nI (by omega)]
      omega
    · show cn (g_clo1 τ (mR τ) (mB τ) (mn τ) (mg τ) (mw τ) (mn τ) 7000 23) < 200
      rw [cc.2.2.2.2.1, cn_nI (by omega)]
      omega
    · show cn (g_clo1 τ (mR τ) (mB τ) (mn τ) (mg τ) (mw τ) (mn τ) 7000 24) < 200
      rw [cc.2.2.2.2.2, cn_nI (by omega)]
      omega
  have hst : g_clo1 τ (mR τ) (mB τ) (mn τ) (mg τ) (mw τ) (mn τ) 5000 1 = 1 := by
    rw [fr_clo1 (by omega) (by omega) g9 g9 (by omega)]
    exact hs
  unfold g_McloseOne
  rw [← F]
  by_cases c : f_closeRound σ 2000 (τ 5000 4) (mB τ) (mR τ) (mn τ) = 0
  · rw [if_pos c, if_pos c]
    exact A
  · rw [if_neg c, if_neg c]
    have e2 : u2 (g_clo1 τ (mR τ) (mB τ) (mn τ) (mg τ) (mw τ) (mn τ)) 5000 1 2 5000 1 = 2 := u2_at
    have A2 : RC (u2 (g_clo1 τ (mR τ) (mB τ) (mn τ) (mg τ) (mw τ) (mn τ)) 5000 1 2) (u2 (g_closeRound σ 2000 (τ 5000 4) (mB τ) (mR τ) (mn τ)) 1000 7 2) := A.mid hbc (fun q hq => u2_ne hq) (fun q hq => u2_ne hq) (by rw [u2_at, u2_at]) (by rw [u2_at]; exact ⟨rfl, by decide⟩) (by
      rw [u2_oi (by decide), u2_oi (by decide)]
      exact A.stp) (fun _ e => absurd (hst.symm.trans e) (by decide)) (fun e => absurd (e2.symm.trans e) (by decide))
    refine A2.kept0 ?_ ⟨?_, ?_, ?_⟩ (MK.over hB6) (VK.over hB6 hg jc2)
    · show cn (u2 _ _ _ _ 5003 900) ≤ 60
      rw [u2_ne (by decide)]
      exact cK
    · show cn (u2 _ _ _ _ 7000 21) ≤ 60
      rw [u2_ne (by decide)]
      exact hbc.1
    · show cn (u2 _ _ _ _ 7000 23) < 200
      rw [u2_ne (by decide)]
      exact hbc.2.1
    · show cn (u2 _ _ _ _ 7000 24) < 200
      rw [u2_ne (by decide)]
      exact hbc.2.2
end
end
section
/-! ===== the clock: some closes at once ===== -/
section
variable {τ σ : XS9} {gr : Nat → Nat} {R B : Nat}
def PCl (R B : Nat) (τ σ : XS9) : Prop := (RC τ σ ∧ RA τ σ ∧ RZ τ) ∧ (JC σ ∧ KB σ) ∧ (JR τ ∧ JS τ ∧ JP τ) ∧ mR τ = R ∧ mB τ = B
def stCl (R B : Nat) (gr : Nat → Nat) (_ : Nat) (s14 : XS9) : XS9 ⊕ XS9 := (if (s14 1000 7) = 1 then (if (f_closeRound s14 2000 (s14 1000 8) B R (cn (s14 2000 9))) = 0 then .inl (g_closeRound s14 2000 (s14 1000 8) B R (cn (s14 2000 9))) else .inl (g_endClock (g_closeRound s14 2000 (s14 1000 8) B R (cn (s14 2000 9))) R B (min (cn (s14 2000 9)) 59) gr)) else .inr s14)
def stMc (_ : Nat) (s37 : XS9) : XS9 ⊕ XS9 := (if (s37 5000 1) = 1 then .inl (g_clo s37) else .inr s37)
theorem PCl.fin {t : XS9} (P : PCl R B τ σ) (hs : τ 5000 1 = 1) (j : JC t ∧ KB t) (v : VA σ t) (x : RC (g_clo τ) t) : PCl R B (g_clo τ) t := by
  obtain ⟨⟨h, a, z⟩, ⟨jc, kb⟩, ⟨r, js, jp⟩, eR, eB⟩ := P
  have ca := clo_all r js jp hs
  have m := MA.clo r js hs
  refine ⟨⟨x, a.kept m v, z.kept m⟩, j, ca.1, ?_, ?_⟩
  · exact (congrArg cn ca.2.1.1).trans eR
  · exact (congrArg cn ca.2.1.2.1).trans eB
theorem close_loop (hg : ∀ i, i < 6 → gr i < 4) : ∀ (f i : Nat) (τ σ : XS9), PCl R B τ σ → PCl R B (xitB stMc f i τ) (xitB (stCl R B gr) f i σ)
  | 0, _, _, _, P => P
  | f + 1, i, τ, σ, P => by
    have P0 := P
    obtain ⟨⟨h, a, z⟩, ⟨jc, kb⟩, ⟨r, js, jp⟩, eR, eB⟩ := P0
    by_cases hs : τ 5000 1 = 1
    · have hc : σ 1000 7 = 1 := h.st.trans hs
      have X := h.clo a z jc r js hs hg
      have hR5 := r.hR.2
      have hB6 := r.hB.2
      rw [eR] at hR5
      rw [eB] at hB6
      rw [eR, eB] at X
      have h60 := jc.hK.2
      have C1 : JC (g_closeRound σ 2000 (σ 1000 8) B R (cn (σ 2000 9))) ∧ KB (g_closeRound σ 2000 (σ 1000 8) B R (cn (σ 2000 9))) := ⟨jc.closeRound, kb.closeRound kb.2.2.2.2.2 hR5 hB6 h60⟩
      have C2 : VA σ (g_closeRound σ 2000 (σ 1000 8) B R (cn (σ 2000 9))) := VA.rows fun q hq => fr_closeRound (by omega)
      rw [xitB_l (show stMc i τ = .inl (g_clo τ) from if_pos hs)]
      by_cases c : f_closeRound σ 2000 (σ 1000 8) B R (cn (σ 2000 9)) = 0
      · rw [if_pos c] at X
        rw [xitB_l (show stCl R B gr i σ = .inl (g_closeRound σ 2000 (σ 1000 8) B R (cn (σ 2000 9))) from (if_pos hc).trans (if_pos c))]
        exact close_loop hg f (i + 1) _ _ (P.fin hs C1 C2 X)
      · rw [if_neg c] at X
        rw [xitB_l (show stCl R B gr i σ = .inl (g_endClock (g_closeRound σ 2000 (σ 1000 8) B R (cn (σ 2000 9))) R B (min (cn (σ 2000 9)) 59) gr) from (if_pos hc).trans (if_neg c))]
        exact close_loop hg f (i + 1) _ _ (P.fin hs (JK.endClock C1.1 C1.2 hB6 (by omega) hg) (C2.trans (VA.endClock C1.1 hB6 hg)) X)
    · rw [xitB_r (show stMc i τ = .inr τ from if_neg hs), xitB_r (show stCl R B gr i σ = .inr σ from if_neg (fun e => hs (h.st.symm.trans e)))]
      exact P
theorem PCl.s0 (P : PCl R B τ σ) : PCl R B (u2 τ 5000 0 0) σ := by
  obtain ⟨⟨h, a, z⟩, j, ⟨r, js, jp⟩, eR, eB⟩ := P
  refine ⟨⟨h.kept r MK.s0 VK.rfl', a.kept MA.s0 VA.rfl', z.kept MA.s0⟩, j, ⟨r.s0, js.s0 r, jp.s0⟩, ?_, ?_⟩
  · refine Eq.trans ?_ eR
    show cn (u2 _ _ _ _ 5001 900) = _
    rw [u2_ne (by decide)]
  · refine Eq.trans ?_ eB
    show cn (u2 _ _ _ _ 5002 900) = _
    rw [u2_ne (by decide)]
theorem PCl.close {x : Int32} (P : PCl R B τ σ) (hg : ∀ i, i < 6 → gr i < 4) : RC (g_Mclose τ x) (g_close σ x R B gr) := by
  have P0 := P.s0
  have h := P.1.1
  have r := P.2.2.1.1
  unfold g_Mclose g_close
  by_cases c1 : n_bt x 1 9
  · by_cases c2 : τ 5000 1 = 1
    · rw [if_pos c1, if_pos c2, if_pos c1, if_pos (h.st.trans c2)]
      exact (close_loop hg (cn x) 0 _ _ P0).1.1
    · rw [if_pos c1, if_neg c2, if_pos c1, if_neg (fun e => c2 (h.st.symm.trans e))]
      exact h.kept r MK.s00 VK.rfl'
  · rw [if_neg c1, if_neg c1]
    exact h.kept r MK.s00 VK.rfl'
theorem RC.init : RC s0M s0C := by
  refine ⟨rfl, ⟨rfl, by decide⟩, rfl, rfl, fun e => absurd rfl e, fun _ => ⟨fun _ _ => rfl, fun _ _ => rfl, fun _ _ => ⟨rfl, rfl, rfl⟩, fun j hj => absurd hj (Nat.not_lt_zero _), rfl⟩, ⟨fun _ => rfl, fun _ => rfl⟩, ⟨fun k hk => absurd hk (Nat.not_lt_zero _), fun k hk => absurd hk (Nat.not_lt_zero _), fun k hk => absurd hk (Nat.not_lt_zero _), fun k hk => absurd hk (Nat.not_lt_zero _), fun k hk => absurd hk (Nat.not_lt_zero _)⟩⟩
end
end
section
/-! ===== the clock's answers ===== -/
section
variable {τ σ : XS9} {gr : Nat → Nat} {R B g w : Nat} {x y v : Int32}
theorem says_step (h : RC τ σ) (r : JR τ) : g_Mstep τ x 5000 0 = lw_k [eIAE, eISE] (o_step σ x) ∧ ∀ w, o_step σ x = .inl w → w = f_Mstep τ x := by
  unfold g_Mstep o_step f_Mstep
  have ok : u2 (u2 τ 5000 0 0) 5000 4 x 5000 0 = lw_k [eIAE, eISE] (.inl (σ 1000 8) : Int32 ⊕ String) ∧ ∀ w, (.inl (σ 1000 8) : Int32 ⊕ String) = .inl w → w = τ 5000 4 := ⟨by
    rw [u2_oi (by decide), u2_at]
    rfl, fun w e => by
    rw [← Sum.inl.inj e]
    exact h.stp⟩
  by_cases c1 : n_bt x 1 20
  · by_cases c2 : σ 1000 7 = 0
    · have c4 : τ 5000 1 ≤ 1 := by
        rw [← h.st]
        exact (stage01 h.sb).mpr (.inl c2)
      simp only [if_pos c1, if_pos c2, if_pos c4]
      exact ok
    · by_cases c3 : σ 1000 7 = 1
      · have c4 : τ 5000 1 ≤ 1 := by
          rw [← h.st]
          exact (stage01 h.sb).mpr (.inr c3)
        simp only [if_pos c1, if_neg c2, if_pos c3, if_pos c4]
        exact ok
      · have c4 : ¬ τ 5000 1 ≤ 1 := by
          rw [← h.st]
          exact fun z => ((stage01 h.sb).mp z).elim c2 c3
        simp only [if_pos c1, if_neg c2, if_neg c3, if_neg c4]
        exact bad rfl
  · simp only [if_neg c1]
    exact bad rfl
theorem says_open (h : RC τ σ) (r : JR τ) (a : RA τ σ) (z : RZ τ) : g_Mopen τ (mR τ) (mB τ) 5000 0 = lw_k [eISE] (o_open σ (mR τ) (mB τ)) ∧ ∀ w, o_open σ (mR τ) (mB τ) = .inl w → w = f_Mopen τ (mR τ) (mB τ) := by
  have R5 := r.hR.2
  have B6 := r.hB.2
  unfold g_Mopen o_open f_Mopen
  by_cases c1 : σ 1000 7 = 0
  · have c2 : τ 5000 1 = 0 := h.st.symm.trans c1
    by_cases c3 : mR τ = 0
    · simp only [if_pos c1, if_pos c2, if_pos c3, if_pos (show nI (mR τ) = 0 by rw [c3]; rfl)]
      exact bad rfl
    · have d3 : ¬ nI (mR τ) = 0 := fun e => c3 (nI_zero (by omega) e)
      by_cases c4 : mB τ = 0
      · simp only [if_pos c1, if_pos c2, if_neg c3, if_neg d3, if_pos c4, if_pos (show nI (mB τ) = 0 by rw [c4]; rfl)]
        exact bad rfl
      · have d4 : ¬ nI (mB τ) = 0 := fun e => c4 (nI_zero (by omega) e)
        simp only [if_pos c1, if_pos c2, if_neg c3, if_neg d3, if_neg c4, if_neg d4]
        have o := h.off c2
        have lo : ∀ (t : XS9) q, q < 7000 → u2 (g_Kinit t 7000 (mR τ) (mB τ)) 7000 25 1 q = t q := fun t q hq => by rw [u2_ne (by omega), fr_Kinit (by omega)]
        refine ⟨?_, fun w e => ?_⟩
        · rw [lo _ _ (by decide), u2_oi (by decide), u2_at]
          rfl
        · rw [← Sum.inl.inj e]
          have e1 : f_allPrices (u2 σ 1000 7 1) 2000 = xsum (fun i => σ 2001 i) 5 := rfl
          rw [e1, xsum_cut (N := mR τ) (M := 5) (fun j h1 h2 => by
            rw [o.p j h2, (a.2.1 j h2).2.2.1]
            exact (z j h1 h2).2.2) R5]
          unfold xsum
          refine xit_cg (N := mR τ) (fun i s hi => ?_) (mR τ) 0 0 (Nat.zero_add _)
          (try dsimp only)
          rw [lo _ _ (by omega), u2_ne (by omega), u2_ne (by omega), o.p i (by omega), (a.2.1 i (by omega)).2.2.1]
  · simp only [if_neg c1, if_neg (fun e => c1 (h.st.trans e))]
    exact bad rfl
theorem says_wish (h : RC τ σ) (r : JR τ) (a : RA τ σ) (z : RZ τ) (j : JC σ) : g_Mwish τ x y v (mR τ) (mB τ) (mg τ) 5000 0 = lw_k [eIOB, eIAE, eISE] (o_wish σ x y v (mR τ) (mB τ)) ∧ ∀ w, o_wish σ x y v (mR τ) (mB τ) = .inl w → w = f_Mwish τ x y v (mR τ) (mB τ) (mg τ) := by
  have R5 := r.hR.2
  have B6 := r.hB.2
  have G := r.hg.2
  unfold g_Mwish o_wish f_Mwish
  by_cases c1 : n_lt x (mB τ)
  · by_cases c2 : n_lt y (mR τ)
    · by_cases c3 : n_bt v 0 5
      · by_cases c4 : σ 1000 7 = 1
        · have c5 : τ 5000 1 = 1 := h.st.symm.trans c4
          have Q := h.on1 c5
          have T := told a z j
          have hx := c1.2
          have hy := c2.2
          have hv : bd 5 v := bd.bt (m := 5) c3 (by decide) rfl (by decide)
          have m0 : ∀ q, q ≠ 5000 → u2 τ 5000 0 0 q = τ q := fun q hq => u2_ne hq
          have Q0 : KQ 2000 7000 (mR τ) (mB τ) (mg τ) (mw τ) (mn τ) σ (u2 τ 5000 0 0) := Q.of r.hn.2.1 (by omega) r.hw.2 (fun _ _ _ => rfl) (fun q h1 h2 => m0 q (by omega))
          have T0 : TQ (mR τ) σ (u2 τ 5000 0 0) := ⟨by rw [u2_oi (by decide)]; exact T.rl, fun r hr => by rw [m0 _ (by omega)]; exact T.rg r hr, fun r hr => by rw [m0 _ (by omega)]; exact T.pt r hr, fun r h1 h2 => by rw [m0 _ (by omega)]; exact T.ptz r h1 h2⟩
          have em : f_mayWish σ 2000 (cn x) (cn y) (nI (cn v)) (mB τ) = f_McanWish (u2 τ 5000 0 0) (cn x) (cn y) v (mR τ) (mB τ) (mg τ) := by
            rw [← hv.1]
            exact may_eq hx (by omega) (by omega) (by omega) hv Q0 T0 (fun j9 h9 => by
              rw [m0 _ (by omega)]
              exact ⟨(a.2.2.1 j9 h9).2.2.2, (j.hgr j9 h9).1, Nat.le_of_lt_succ (j.hgr j9 h9).2⟩) (by
              rw [u2_oi (by decide)]
              exact a.1.2.1)
          by_cases c6 : f_McanWish (u2 τ 5000 0 0) (cn x) (cn y) v (mR τ) (mB τ) (mg τ) = 0
          · simp only [if_pos c1, if_pos c2, if_pos c3, if_pos c4, if_pos c5, em, if_pos c6]
            exact bad rfl
          · simp only [if_pos c1, if_pos c2, if_pos c3, if_pos c4, if_pos c5, em, if_neg c6]
            refine ⟨?_, fun w e => ?_⟩
            · rw [u2_ne (by omega), u2_at]
              rfl
            · rw [← Sum.inl.inj e, ← hv.1]
              obtain ⟨w1, w2⟩ := Q.wi (cn x) hx
              rw [show σ (2000 + 3) (cn x) = τ (7000 + 500 + mg τ) (cn x) from w1, rep_with w2 (by omega)]
              exact points_eq (w2.withd (by omega) hv) R5 (fun i hi => by
                rw [u2_ne (by omega), u2_ne (by omega)]
                exact T.pt i hi) (fun i h1 h2 => by
                rw [u2_ne (by omega), u2_ne (by omega)]
                exact T.ptz i h1 h2)
        · simp only [if_pos c1, if_pos c2, if_pos c3, if_neg c4, if_neg (fun e => c4 (h.st.trans e))]
          exact bad rfl
      · simp only [if_pos c1, if_pos c2, if_neg c3]
        exact bad rfl
    · simp only [if_pos c1, if_neg c2]
      exact bad rfl
  · simp only [if_neg c1]
    exact bad rfl
theorem says_waive (h : RC τ σ) (r : JR τ) : g_Mwaive τ x (mB τ) (mg τ) (mw τ) 5000 0 = lw_k [eIOB, eISE] (o_waive σ x (mB τ)) ∧ ∀ u, o_waive σ x (mB τ) = .inl u → u = f_Mwaive τ x (mB τ) (mg τ) (mw τ) := by
  have B6 := r.hB.2
  have W2 := r.hw.2
  unfold g_Mwaive o_waive f_Mwaive
  by_cases c1 : n_lt x (mB τ)
  · by_cases c4 : σ 1000 7 = 1
    · have c5 : τ 5000 1 = 1 := h.st.symm.trans c4
      have Q := h.on1 c5
      have hx := c1.2
      obtain ⟨v1, v2⟩ := Q.wv (cn x) hx
      have v1 : σ (2000 + 5) (cn x) = τ (7000 + 4) (cn x) := v1
      have v2 : bd 2 (τ (7000 + 4) (cn x)) := v2
      have ma : f_hasWaived σ 2000 (cn x) = 0 ↔ τ (7000 + 700 + mw τ) (cn x) = 0 := Q.ma (cn x) hx
      have z0 : σ (2000 + 5) (cn x) ≤ 0 ↔ τ (7000 + 4) (cn x) = 0 := by
        rw [v1, v2.1, nI_le0 (by have := v2.2; omega)]
        exact ⟨fun e => by rw [e]; rfl, fun e => nI_zero (by have := v2.2; omega) e⟩
      by_cases c6 : τ (7000 + 4) (cn x) = 0
      · simp only [if_pos c1, if_pos c4, if_pos c5, if_pos c6, if_pos (show τ 7004 (cn x) = 0 from c6), if_pos (z0.mpr c6), if_pos (show σ 2005 (cn x) ≤ 0 from z0.mpr c6)]
        exact bad rfl
      · by_cases c7 : τ (7000 + 700 + mw τ) (cn x) = 0
        · simp only [if_pos c1, if_pos c4, if_pos c5, if_neg c6, if_neg (show ¬ τ 7004 (cn x) = 0 from c6), if_neg (fun e => c6 (z0.mp e)), if_neg (show ¬ σ 2005 (cn x) ≤ 0 from fun e => c6 (z0.mp e)), if_pos c7, if_pos (show τ (7700 + mw τ) (cn x) = 0 from c7), if_pos (ma.mpr c7)]
          refine ⟨?_, fun u e => ?_⟩
          · rw [u2_ne (by omega), u2_ne (by decide), u2_at]
            rfl
          · rw [← Sum.inl.inj e]
            unfold g_useWaiver
            rw [u2_ne (by decide), u2_at, v1]
        · simp only [if_pos c1, if_pos c4, if_pos c5, if_neg c6, if_neg (show ¬ τ 7004 (cn x) = 0 from c6), if_neg (fun e => c6 (z0.mp e)), if_neg (show ¬ σ 2005 (cn x) ≤ 0 from fun e => c6 (z0.mp e)), if_neg c7, if_neg (show ¬ τ (7700 + mw τ) (cn x) = 0 from c7), if_neg (fun e => c7 (ma.mp e))]
          exact bad rfl
    · simp only [if_pos c1, if_neg c4, if_neg (fun e => c4 (h.st.trans e))]
      exact bad rfl
  · simp only [if_neg c1]
    exact bad rfl
theorem clo_t (js : JS τ) (hs : τ 5000 1 = 1) : g_clo τ 5000 0 = τ 5000 0 := by
  obtain ⟨_, _, e1, e2, e3, g9⟩ := js.1 hs
  have f0 : g_clo1 τ (mR τ) (mB τ) (mK τ) (mg τ) (mw τ) (mn τ) 5000 = τ 5000 := fr_clo1 (by omega) (by omega) g9 (by omega) (by omega)
  show g_McloseOne τ (mR τ) (mB τ) (mK τ) (mg τ) (mw τ) (mn τ) (mpk τ) 5000 0 = τ 5000 0
  unfold g_McloseOne
  split
  · rw [f0]
  · unfold x_McloseOne_122
    refine (congrFun (xit_keep (fun s : XS9 => s 5000) (fun i s => ?_) (mB τ) 0 _) 0).trans ?_
    · (try dsimp only)
      split
      · rfl
      · exact fr_Madd (by omega)
    · rw [u2_oi (by decide), f0]
theorem says_close {R B : Nat} (P : PCl R B τ σ) (hg : ∀ i, i < 6 → gr i < 4) : g_Mclose τ x 5000 0 = lw_k [eIAE, eISE] (o_close σ x R B gr) ∧ ∀ w, o_close σ x R B gr = .inl w → w = f_Mclose τ x := by
  have P0 := P.s0
  have h := P.1.1
  unfold g_Mclose o_close f_Mclose
  by_cases c1 : n_bt x 1 9
  · by_cases c2 : τ 5000 1 = 1
    · simp only [if_pos c1, if_pos c2, if_pos (h.st.trans c2)]
      have L := close_loop hg (cn x) 0 _ _ P0
      refine ⟨?_, fun w e => ?_⟩
      · have go := xitB_all (step := stMc) (fun s : XS9 => (JR s ∧ JS s ∧ JP s) ∧ s 5000 0 = 0) (N := cn x) (fun i s s' hi hP => by
          unfold stMc
          split
          · rename_i hs
            intro e
            rcases e with e | e
            · rw [← Sum.inl.inj e]
              exact ⟨(clo_all hP.1.1 hP.1.2.1 hP.1.2.2 hs).1, (clo_t hP.1.2.1 hs).trans hP.2⟩
            · cases e
          · intro e
            rcases e with e | e
            · cases e
            · rw [← Sum.inr.inj e]
              exact hP) (cn x) 0 (u2 τ 5000 0 0) (Nat.zero_add _) ⟨P0.2.2.1, u2_at⟩
        exact go.2
      · rw [← Sum.inl.inj e]
        exact L.1.1.st
    · simp only [if_pos c1, if_neg c2, if_neg (fun e => c2 (h.st.symm.trans e))]
      exact bad rfl
  · simp only [if_neg c1]
    exact bad rfl
end
end
section
/-! ===== the clock's questions ===== -/
def stMo (τ : XS9) (x y : Int32) (R B g : Nat) (_ : Nat) (s39 : Nat) : Nat ⊕ Nat := (if (f_McanWish (u2 τ 5000 0 0) (cn x) (cn y) (nI s39) R B g) = 0 then .inl (s39 - 1) else .inr s39)
section
variable {τ σ : XS9} {x y v : Int32}
theorem fine0 {τ : XS9} {es : List String} {a m : Int32} (e : a = m) : u2 τ 5000 0 0 5000 0 = lw_k es (.inl a : Int32 ⊕ String) ∧ ∀ w, (.inl a : Int32 ⊕ String) = .inl w → w = m := ⟨u2_at, fun w z => by
  rw [← Sum.inl.inj z]
  exact e⟩
theorem RC.eK (h : RC τ σ) : aK σ = mK τ := congrArg cn h.k
theorem says_priceIn (h : RC τ σ) : g_MpriceIn τ x y (mR τ) (mK τ) 5000 0 = lw_k [eIOB] (o_priceIn σ x y (mR τ) (mK τ)) ∧ ∀ w, o_priceIn σ x y (mR τ) (mK τ) = .inl w → w = f_MpriceIn τ x y (mR τ) (mK τ) := by
  unfold g_MpriceIn o_priceIn f_MpriceIn
  by_cases c1 : n_rd x (mK τ)
  · by_cases c2 : n_lt y (mR τ)
    · simp only [if_pos c1, if_pos c2]
      exact fine0 (h.lg.p _ c1.2 _ c2.2)
    · simp only [if_pos c1, if_neg c2]
      exact bad rfl
  · simp only [if_neg c1]
    exact bad rfl
theorem says_codeIn (h : RC τ σ) : g_McodeIn τ x y v (mB τ) (mK τ) 5000 0 = lw_k [eIOB] (o_codeIn σ x y v (mB τ) (mK τ)) ∧ ∀ w, o_codeIn σ x y v (mB τ) (mK τ) = .inl w → w = f_McodeIn τ x y v (mB τ) (mK τ) := by
  unfold g_McodeIn o_codeIn f_McodeIn
  by_cases c1 : n_rd x (mK τ)
  · by_cases c2 : n_lt y (mB τ)
    · by_cases c3 : v = 0
      · simp only [if_pos c1, if_pos c2, if_pos c3]
        exact fine0 (h.lg.w _ c1.2 _ c2.2)
      · simp only [if_pos c1, if_pos c2, if_neg c3]
        exact fine0 (h.lg.h _ c1.2 _ c2.2)
    · simp only [if_pos c1, if_neg c2]
      exact bad rfl
  · simp only [if_neg c1]
    exact bad rfl
/-- what a bidder wishes and holds, at any stage -/
theorem codes_eq (h : RC τ σ) {i : Nat} (hi : i < mB τ) (hB6 : mB τ ≤ 6) : (σ 2003 i = f_MwishedCode (u2 τ 5000 0 0) i (mg τ) ∧ bd 7775 (σ 2003 i)) ∧ σ 2002 i = f_MheldCode (u2 τ 5000 0 0) i (mg τ) ∧ bd 7775 (σ 2002 i) := by
  unfold f_MwishedCode f_MheldCode
  have e7 : ∀ q, q ≠ 5000 → u2 τ 5000 0 0 q = τ q := fun q hq => u2_ne hq
  rw [e7 7000 (by decide)]
  by_cases c : τ 5000 1 = 0
  · have o := (h.off c).h i (by omega)
    rw [if_pos (h.fl.mpr c), if_pos (h.fl.mpr c), o.1, o.2.1]
    exact ⟨⟨rfl, bd.zero⟩, rfl, bd.zero⟩
  · have n : ¬ τ 7000 25 = 0 := fun e => c (h.fl.mp e)
    have Q := h.on c
    rw [if_neg n, if_neg n]
    obtain ⟨w1, w2⟩ := Q.wi i hi
    obtain ⟨v1, v2⟩ := Q.he i hi
    have w1 : σ 2003 i = τ (7000 + 500 + mg τ) i := w1
    have v1 : σ 2002 i = τ (7000 + 2) i := v1
    refine ⟨⟨?_, by rw [w1]; exact w2⟩, ?_, by rw [v1]; exact v2⟩
    · show σ 2003 i = u2 τ 5000 0 0 (7000 + 500 + mg τ) i
      rw [e7 _ (by omega)]
      exact w1
    · show σ 2002 i = u2 τ 5000 0 0 (7000 + 2) i
      rw [e7 _ (by decide)]
      exact v1
theorem says_wants (h : RC τ σ) (r : JR τ) : g_Mwants τ x y v (mR τ) (mB τ) (mg τ) 5000 0 = lw_k [eIOB] (o_wants σ x y v (mR τ) (mB τ)) ∧ ∀ w, o_wants σ x y v (mR τ) (mB τ) = .inl w → w = f_Mwants τ x y v (mR τ) (mB τ) (mg τ) := by
  have R5 := r.hR.2
  have B6 := r.hB.2
  unfold g_Mwants o_wants f_Mwants
  by_cases c1 : n_lt x (mB τ)
  · by_cases c2 : n_lt y (mR τ)
    · have hy := c2.2
      obtain ⟨⟨k1, k2⟩, k3, k4⟩ := codes_eq h c1.2 B6
      by_cases c3 : v = 0
      · simp only [if_pos c1, if_pos c2, if_pos c3]
        refine fine0 ?_
        show f_many (σ 2003 (cn x)) (cn y) = _
        rw [many_of k2 (by omega), k1]
      · simp only [if_pos c1, if_pos c2, if_neg c3]
        refine fine0 ?_
        show f_many (σ 2002 (cn x)) (cn y) = _
        rw [many_of k4 (by omega), k3]
    · simp only [if_pos c1, if_neg c2]
      exact bad rfl
  · simp only [if_neg c1]
    exact bad rfl
theorem says_contradicts (h : RC τ σ) (r : JR τ) (js : JS τ) : g_Mcontradicts τ x (mR τ) (mB τ) (mg τ) (mn τ) 5000 0 = lw_k [eIOB] (o_contradicts σ x (mB τ) (aK σ)) ∧ ∀ w, o_contradicts σ x (mB τ) (aK σ) = .inl w → w = f_Mcontradicts τ x (mR τ) (mB τ) (mg τ) (mn τ) := by
  have R5 := r.hR.2
  have n60 := r.hn.2.1
  have g2 := r.hg.2
  unfold g_Mcontradicts o_contradicts f_Mcontradicts
  by_cases c1 : n_lt x (mB τ)
  · by_cases c2 : τ 5000 1 = 1
    · have eK : aK σ = mn τ := h.eK.trans (js.1 c2).2.2.2.2.1
      rw [eK]
      simp only [if_pos c1, if_pos c2, if_pos (h.st.trans c2)]
      refine fine0 ?_
      have Q := h.on1 c2
      have e7 : ∀ q, q ≠ 5000 → u2 τ 5000 0 0 q = τ q := fun q hq => u2_ne hq
      have Q0 : KQ 2000 7000 (mR τ) (mB τ) (mg τ) (mw τ) (mn τ) σ (u2 τ 5000 0 0) := Q.of n60 g2 r.hw.2 (fun _ _ _ => rfl) (fun q h1 h2 => e7 q (by omega))
      exact contra_eq R5 (Q0.wi _ c1.2) Q0.p Q0.pz Q0.lp (fun k hk => Q0.lh k hk _ c1.2)
    · simp only [if_pos c1, if_neg c2, if_neg (fun e => c2 (h.st.symm.trans e))]
      exact fine0 rfl
  · simp only [if_neg c1]
    exact bad rfl
theorem says_most (h : RC τ σ) (r : JR τ) (a : RA τ σ) (z : RZ τ) (j : JC σ) : g_Mmost τ x y (mR τ) (mB τ) (mg τ) 5000 0 = lw_k [eIOB] (o_most σ x y (mR τ) (mB τ)) ∧ ∀ w, o_most σ x y (mR τ) (mB τ) = .inl w → w = f_Mmost τ x y (mR τ) (mB τ) (mg τ) := by
  have R5 := r.hR.2
  have B6 := r.hB.2
  have G := r.hg.2
  unfold g_Mmost o_most f_Mmost
  by_cases c1 : n_lt x (mB τ)
  · by_cases c2 : n_lt y (mR τ)
    · by_cases c3 : τ 5000 1 = 1
      · simp only [if_pos c1, if_pos c2, if_pos c3, if_pos (h.st.trans c3)]
        refine fine0 ?_
        have hy := c2.2
        have Q := h.on1 c3
        have T := told a z j
        have m0 : ∀ q, q ≠ 5000 → u2 τ 5000 0 0 q = τ q := fun q hq => u2_ne hq
        have Q0 : KQ 2000 7000 (mR τ) (mB τ) (mg τ) (mw τ) (mn τ) σ (u2 τ 5000 0 0) := Q.of r.hn.2.1 (by omega) r.hw.2 (fun _ _ _ => rfl) (fun q h1 h2 => m0 q (by omega))
        have T0 : TQ (mR τ) σ (u2 τ 5000 0 0) := ⟨by rw [u2_oi (by decide)]; exact T.rl, fun r hr => by rw [m0 _ (by omega)]; exact T.rg r hr, fun r hr => by rw [m0 _ (by omega)]; exact T.pt r hr, fun r h1 h2 => by rw [m0 _ (by omega)]; exact T.ptz r h1 h2⟩
        have em : ∀ k : Nat, k ≤ 5 → f_mayWish σ 2000 (cn x) (cn y) (nI k) (mB τ) = f_McanWish (u2 τ 5000 0 0) (cn x) (cn y) (nI k) (mR τ) (mB τ) (mg τ) := fun k hk =>
          may_eq c1.2 (by omega) B6 R5 (bd.nat hk (by decide)) Q0 T0 (fun j9 h9 => by
            rw [m0 _ (by omega)]
            exact ⟨(a.2.2.1 j9 h9).2.2.2, (j.hgr j9 h9).1, Nat.le_of_lt_succ (j.hgr j9 h9).2⟩) (by
            rw [u2_oi (by decide)]
            exact a.1.2.1)
        have e5 := em 5 (by decide)
        have e4 := em 4 (by decide)
        have e3 := em 3 (by decide)
        have e2 := em 2 (by decide)
        have e1 := em 1 (by decide)
        have u5 : f_mayWish σ 2000 (cn x) (cn y) 5 (mB τ) = f_McanWish (u2 τ 5000 0 0) (cn x) (cn y) (nI 5) (mR τ) (mB τ) (mg τ) := e5
        have u4 : f_mayWish σ 2000 (cn x) (cn y) 4 (mB τ) = f_McanWish (u2 τ 5000 0 0) (cn x) (cn y) (nI 4) (mR τ) (mB τ) (mg τ) := e4
        have u3 : f_mayWish σ 2000 (cn x) (cn y) 3 (mB τ) = f_McanWish (u2 τ 5000 0 0) (cn x) (cn y) (nI 3) (mR τ) (mB τ) (mg τ) := e3
        have u2' : f_mayWish σ 2000 (cn x) (cn y) 2 (mB τ) = f_McanWish (u2 τ 5000 0 0) (cn x) (cn y) (nI 2) (mR τ) (mB τ) (mg τ) := e2
        have u1 : f_mayWish σ 2000 (cn x) (cn y) 1 (mB τ) = f_McanWish (u2 τ 5000 0 0) (cn x) (cn y) (nI 1) (mR τ) (mB τ) (mg τ) := e1
        unfold f_greatestWish
        rw [u5, u4, u3, u2', u1]
        show _ = nI (xitB (stMo τ x y (mR τ) (mB τ) (mg τ)) 5 0 5)
        by_cases d5 : f_McanWish (u2 τ 5000 0 0) (cn x) (cn y) (nI 5) (mR τ) (mB τ) (mg τ) = 0
        · rw [if_pos d5, xitB_l (show stMo τ x y (mR τ) (mB τ) (mg τ) 0 5 = .inl 4 from if_pos d5)]
          by_cases d4 : f_McanWish (u2 τ 5000 0 0) (cn x) (cn y) (nI 4) (mR τ) (mB τ) (mg τ) = 0
          · rw [if_pos d4, xitB_l (show stMo τ x y (mR τ) (mB τ) (mg τ) 1 4 = .inl 3 from if_pos d4)]
            by_cases d3 : f_McanWish (u2 τ 5000 0 0) (cn x) (cn y) (nI 3) (mR τ) (mB τ) (mg τ) = 0
            · rw [if_pos d3, xitB_l (show stMo τ x y (mR τ) (mB τ) (mg τ) 2 3 = .inl 2 from if_pos d3)]
              by_cases d2 : f_McanWish (u2 τ 5000 0 0) (cn x) (cn y) (nI 2) (mR τ) (mB τ) (mg τ) = 0
              · rw [if_pos d2, xitB_l (show stMo τ x y (mR τ) (mB τ) (mg τ) 3 2 = .inl 1 from if_pos d2)]
                by_cases d1 : f_McanWish (u2 τ 5000 0 0) (cn x) (cn y) (nI 1) (mR τ) (mB τ) (mg τ) = 0
                · rw [if_pos d1, xitB_l (show stMo τ x y (mR τ) (mB τ) (mg τ) 4 1 = .inl 0 from if_pos d1)]
                  rfl
                · rw [if_neg d1, xitB_r (show stMo τ x y (mR τ) (mB τ) (mg τ) 4 1 = .inr 1 from if_neg d1)]
                  rfl
              · rw [if_neg d2, xitB_r (show stMo τ x y (mR τ) (mB τ) (mg τ) 3 2 = .inr 2 from if_neg d2)]
                rfl
            · rw [if_neg d3, xitB_r (show stMo τ x y (mR τ) (mB τ) (mg τ) 2 3 = .inr 3 from if_neg d3)]
              rfl
          · rw [if_neg d4, xitB_r (show stMo τ x y (mR τ) (mB τ) (mg τ) 1 4 = .inr 4 from if_neg d4)]
            rfl
        · rw [if_neg d5, xitB_r (show stMo τ x y (mR τ) (mB τ) (mg τ) 0 5 = .inr 5 from if_neg d5)]
          rfl
      · simp only [if_pos c1, if_pos c2, if_neg c3, if_neg (fun e => c3 (h.st.symm.trans e))]
        exact fine0 rfl
    · simp only [if_pos c1, if_neg c2]
      exact bad rfl
  · simp only [if_neg c1]
    exact bad rfl
end
end
section
/-! ===== what is asked of a region ===== -/
section
variable {τ σ : XS9} {x y : Int32}
theorem wished_n {σ : XS9} {b g B r : Nat} (hr : r < 5) (h : ∀ i, i < B → bd 7775 (σ (b + 500 + g) i)) : f_KwishedIn σ b r B g = nI (nsum (fun i => dgt (σ (b + 500 + g) i) r) B) := by
  show xsum (fun i => f_of (σ (b + 500 + g) i) r) B = _
  exact xsum_n fun i hi => of_d (h i hi) hr
theorem nsum_0 {N : Nat} : nsum (fun _ => 0) N = 0 := by
  induction N with
  | zero => rfl
  | succ n ih =>
    show nsum (fun _ => 0) n + 0 = 0
    rw [ih]
theorem together0 {f : Nat → Int32} {r : Nat} (hr : r < 5) (h : ∀ j, j < 6 → f j = 0) : f_together 6 f r = 0 := by
  rw [together_x, xsum_cut (N := 0) (M := 6) (fun j a b => by
    (try dsimp only)
    rw [h j b, many0 hr]) (Nat.zero_le _)]
  rfl
theorem heldT {q R B g w n : Nat} (hq5 : q < 5) (hB6 : B ≤ 6) (Q : KQ 2000 7000 R B g w n σ τ) : f_together 6 (σ 2002) q = f_KheldIn (u2 τ 5000 0 0) 7000 q B g := by
  have e7 : u2 τ 5000 0 0 (7000 + 2) = τ (7000 + 2) := u2_ne (by decide)
  have hE : ∀ j, j < B → σ 2002 j = τ (7000 + 2) j ∧ bd 7775 (τ (7000 + 2) j) := Q.he
  rw [together_n hq5 hB6 (fun i hi => by rw [(hE i hi).1]; exact (hE i hi).2) (fun j h1 h2 => Q.hz j h1 h2), held_n hq5 (fun i hi => by rw [e7]; exact (hE i hi).2)]
  refine congrArg nI (nsum_cg fun i hi => ?_)
  (try dsimp only)
  rw [e7, (hE i hi).1]
theorem wishedT {q R B g w n : Nat} (hq5 : q < 5) (hB6 : B ≤ 6) (Q : KQ 2000 7000 R B g w n σ τ) : f_together 6 (σ 2003) q = f_KwishedIn (u2 τ 5000 0 0) 7000 q B g := by
  have e7 : u2 τ 5000 0 0 (7000 + 500 + g) = τ (7000 + 500 + g) := u2_ne (by omega)
  have hE : ∀ j, j < B → σ 2003 j = τ (7000 + 500 + g) j ∧ bd 7775 (τ (7000 + 500 + g) j) := Q.wi
  rw [together_n hq5 hB6 (fun i hi => by rw [(hE i hi).1]; exact (hE i hi).2) (fun j h1 h2 => Q.wz j h1 h2), wished_n hq5 (fun i hi => by rw [e7]; exact (hE i hi).2)]
  refine congrArg nI (nsum_cg fun i hi => ?_)
  (try dsimp only)
  rw [e7, (hE i hi).1]
theorem facts_r (h : RC τ σ) (r : JR τ) (a : RA τ σ) {q k : Nat} (hq : q < mR τ) (hk : k ≤ 8) (hc : f_countIn σ (nI q) (mC τ) = f_MstationsIn (u2 τ 5000 0 0) (nI q) (mC τ)) : f_regionFact σ (mC τ) q k = f_MofRegionNow (u2 τ 5000 0 0) q (mR τ) (mB τ) (mC τ) (mg τ) k := by
  have R5 := r.hR.2
  have B6 := r.hB.2
  have hq5 : q < 5 := by omega
  have e7 : ∀ q, q ≠ 5000 → u2 τ 5000 0 0 q = τ q := fun q hq => u2_ne hq
  obtain ⟨a0, a1, a2, a3⟩ := a.2.1 q hq5
  have z7 : u2 τ 5000 0 0 7000 25 = 0 ↔ τ 5000 1 = 0 := by
    rw [e7 _ (by decide)]
    exact h.fl
  match k, hk with
  | 0, _ =>
    show σ 1010 q = u2 τ 5000 0 0 (5010 + q) 0
    rw [e7 _ (by omega)]
    exact a0
  | 1, _ =>
    show σ 1011 q = u2 τ 5000 0 0 (5010 + q) 1
    rw [e7 _ (by omega)]
    exact a1
  | 2, _ =>
    show σ 1012 q = u2 τ 5000 0 0 (5010 + q) 2
    rw [e7 _ (by omega)]
    exact a2
  | 3, _ =>
    show σ 2001 q = if u2 τ 5000 0 0 7000 25 = 0 then u2 τ 5000 0 0 (5010 + q) 2 else u2 τ 5000 0 0 (7000 + 1) q
    by_cases c : τ 5000 1 = 0
    · rw [if_pos (z7.mpr c), e7 _ (by omega), (h.off c).p q hq5]
      exact a2
    · rw [if_neg (fun z => c (z7.mp z)), e7 _ (by omega)]
      exact (h.on c).p q hq
  | 4, _ =>
    show f_together 6 (σ 2002) q = if u2 τ 5000 0 0 7000 25 = 0 then 0 else f_KheldIn (u2 τ 5000 0 0) 7000 q (mB τ) (mg τ)
    by_cases c : τ 5000 1 = 0
    · rw [if_pos (z7.mpr c)]
      exact together0 hq5 fun j hj => ((h.off c).h j hj).1
    · have Q := h.on c
      rw [if_neg (fun z => c (z7.mp z))]
      exact heldT hq5 B6 Q
  | 5, _ =>
    show f_together 6 (σ 2002) q - σ 1010 q = if u2 τ 5000 0 0 7000 25 = 0 then 0 - u2 τ 5000 0 0 (5010 + q) 0 else f_KheldIn (u2 τ 5000 0 0) 7000 q (mB τ) (mg τ) - u2 τ 5000 0 0 (5010 + q) 0
    by_cases c : τ 5000 1 = 0
    · rw [if_pos (z7.mpr c), together0 hq5 (fun j hj => ((h.off c).h j hj).1), e7 _ (by omega), a0]
    · rw [if_neg (fun z => c (z7.mp z)), heldT hq5 B6 (h.on c), a0, e7 (5010 + q) (by omega)]
  | 6, _ =>
    show f_together 6 (σ 2003) q = if u2 τ 5000 0 0 7000 25 = 0 then 0 else f_KwishedIn (u2 τ 5000 0 0) 7000 q (mB τ) (mg τ)
    by_cases c : τ 5000 1 = 0
    · rw [if_pos (z7.mpr c)]
      exact together0 hq5 fun j hj => ((h.off c).h j hj).2.1
    · rw [if_neg (fun z => c (z7.mp z))]
      exact wishedT hq5 B6 (h.on c)
  | 7, _ =>
    show σ 1013 q = u2 τ 5000 0 0 (5010 + q) 3
    rw [e7 _ (by omega)]
    exact a3
  | 8, _ => exact hc
theorem count_eq (a : RA τ σ) (r : JR τ) {v : Int32} : f_countIn σ v (mC τ) = f_MstationsIn (u2 τ 5000 0 0) v (mC τ) := by
  have C10 := r.hS.2
  unfold f_countIn f_MstationsIn x_countIn_4 x_MstationsIn_4
  refine xit_cg (N := mC τ) (fun i s hi => ?_) (mC τ) 0 0 (Nat.zero_add _)
  (try dsimp only)
  rw [u2_ne (show 5004 ≠ 5000 by decide), ← (a.2.2.2.2.1 i (by omega)).2]
  by_cases c : σ 1151 i = v
  · rw [if_pos c, if_pos c]
  · rw [if_neg c, if_neg c, Int32.add_zero]
theorem says_ofRegion (h : RC τ σ) (r : JR τ) (a : RA τ σ) : g_MofRegion τ x y (mR τ) (mB τ) (mC τ) (mg τ) 5000 0 = lw_k [eIOB, eIAE] (o_ofRegion σ x y (mR τ) (mC τ)) ∧ ∀ w, o_ofRegion σ x y (mR τ) (mC τ) = .inl w → w = f_MofRegion τ x y (mR τ) (mB τ) (mC τ) (mg τ) := by
  unfold g_MofRegion o_ofRegion f_MofRegion
  by_cases c1 : n_lt x (mR τ)
  · by_cases c2 : n_bt y 0 8
    · simp only [if_pos c1, if_pos c2]
      have hy := bd.bt (m := 8) c2 (by decide) rfl (by decide)
      exact fine0 (facts_r h r a c1.2 hy.2 (count_eq a r))
    · simp only [if_pos c1, if_neg c2]
      exact bad rfl
  · simp only [if_neg c1]
    exact bad rfl
end
end
section
/-! ===== the relation and its interfaces ===== -/
def LIA (τ σ : XS9) : Prop := LI τ σ ∧ RA τ σ
theorem LIA.q {τ σ : XS9} (h : LIA τ σ) : LI τ σ := h.1
theorem LIA.st {τ σ : XS9} (h : LIA τ σ) : σ 1000 7 = 0 ↔ τ 5000 1 = 0 := h.1.1.2.2.2.2
theorem LIA.r {τ σ : XS9} (h : LIA τ σ) : JR τ := h.1.1.2.1.1
theorem LIA.j {τ σ : XS9} (h : LIA τ σ) : JC σ := h.1.1.1.1
theorem LIA.eR {τ σ : XS9} (h : LIA τ σ) : aR σ = mR τ := h.1.1.eqR
theorem LIA.eB {τ σ : XS9} (h : LIA τ σ) : aB σ = mB τ := h.1.1.eqB
theorem LIA.eC {τ σ : XS9} (h : LIA τ σ) : aC σ = mC τ := h.2.eC h.r.hS.2
/-! the relation of this law -/
def LIX (τ σ : XS9) : Prop := LIA τ σ ∧ RZ τ ∧ RC τ σ
theorem LIX.l {τ σ : XS9} (h : LIX τ σ) : LIA τ σ := h.1
theorem LIX.a {τ σ : XS9} (h : LIX τ σ) : RA τ σ := h.l.2
theorem LIX.r {τ σ : XS9} (h : LIX τ σ) : JR τ := h.l.r
theorem LIX.j {τ σ : XS9} (h : LIX τ σ) : JC σ := h.l.j
theorem LIX.kb {τ σ : XS9} (h : LIX τ σ) : KB σ := h.l.1.1.1.2
theorem LIX.js {τ σ : XS9} (h : LIX τ σ) : JS τ := h.l.1.1.2.1.2
theorem LIX.jp {τ σ : XS9} (h : LIX τ σ) : JP τ := h.l.1.2
theorem LIX.eR {τ σ : XS9} (h : LIX τ σ) : aR σ = mR τ := h.l.eR
theorem LIX.eB {τ σ : XS9} (h : LIX τ σ) : aB σ = mB τ := h.l.eB
theorem LIX.eC {τ σ : XS9} (h : LIX τ σ) : aC σ = mC τ := h.l.eC
theorem LIX.z {τ σ : XS9} (h : LIX τ σ) : RZ τ := h.2.1
theorem LIX.c {τ σ : XS9} (h : LIX τ σ) : RC τ σ := h.2.2
theorem LIX.P {τ σ : XS9} (h : LIX τ σ) : PCl (mR τ) (mB τ) τ σ := ⟨⟨h.c, h.a, h.z⟩, ⟨h.j, h.kb⟩, ⟨h.r, h.js, h.jp⟩, rfl, rfl⟩
theorem KA_region : ∀ τ σ (p0 p1 p2 : Int32), LIA τ σ → LIA (g_Mregion τ p0 p1 p2 (mR τ)) (g_region σ p0 p1 p2 (aR σ)) := fun τ σ p0 p1 p2 h => ⟨K_region τ σ p0 p1 p2 h.1, (by
    rw [h.eR]
    exact h.2.region h.st h.r.hR.2 rfl)⟩
theorem N_region {l : Launch} (hl : l.stackTraces = false) : IF_region l LIX := G_region hl (fun _ _ h => h.l.1) (fun τ σ p0 p1 p2 h => ⟨KA_region τ σ p0 p1 p2 h.l, (h.z.region h.r.hR.2 rfl), (by
    rw [h.eR]
    exact h.c.region h.r h.r.hR.2)⟩)
theorem KA_border : ∀ τ σ (p0 p1 : Int32), LIA τ σ → LIA (g_Mborder τ p0 p1 (mR τ)) (g_border σ p0 p1 (aR σ)) := fun τ σ p0 p1 h => ⟨K_border τ σ p0 p1 h.1, (by
    rw [h.eR]
    exact h.2.border h.st h.r.hR.2 rfl)⟩
theorem N_border {l : Launch} (hl : l.stackTraces = false) : IF_border l LIX := G_border hl (fun _ _ h => h.l.1) (fun τ σ p0 p1 h => ⟨KA_border τ σ p0 p1 h.l, (h.z.border h.r.hR.2), (h.c.kept h.r (MK.border h.r.hR.2) VK.border)⟩)
theorem KA_bidder : ∀ τ σ (p0 p1 p2 p3 : Int32), LIA τ σ → LIA (g_Mbidder τ p0 p1 p2 p3 (mB τ)) (g_bidder σ p0 p1 p2 p3 (aB σ)) := fun τ σ p0 p1 p2 p3 h => ⟨K_bidder τ σ p0 p1 p2 p3 h.1, (by
    rw [h.eB]
    exact h.2.bidder h.st h.r.hB.2)⟩
theorem N_bidder {l : Launch} (hl : l.stackTraces = false) : IF_bidder l LIX := G_bidder hl (fun _ _ h => h.l.1) (fun τ σ p0 p1 p2 p3 h => ⟨KA_bidder τ σ p0 p1 p2 p3 h.l, (h.z.bidder h.r.hB.2), (by
    rw [h.eB]
    exact h.c.bidder h.r h.r.hB.2)⟩)
theorem KA_rules : ∀ τ σ (p0 p1 : Int32), LIA τ σ → LIA (g_Mrules τ p0 p1) (g_rules σ p0 p1) := fun τ σ p0 p1 h => ⟨K_rules τ σ p0 p1 h.1, (h.2.rules h.st)⟩
theorem N_rules {l : Launch} (hl : l.stackTraces = false) : IF_rules l LIX := G_rules hl (fun _ _ h => h.l.1) (fun τ σ p0 p1 h => ⟨KA_rules τ σ p0 p1 h.l, h.z.rules, (h.c.kept h.r MK.rules VK.rules)⟩)
theorem KA_step : ∀ τ σ (p0 : Int32), LIA τ σ → LIA (g_Mstep τ p0) (g_step σ p0) := fun τ σ p0 h => ⟨K_step τ σ p0 h.1, (h.2.kept MA.step VA.step)⟩
theorem N_step {l : Launch} (hl : l.stackTraces = false) : IF_step l LIX := G_step hl (fun _ _ h => h.l.1) (fun τ σ p0 h => ⟨KA_step τ σ p0 h.l, (h.z.kept MA.step), (h.c.step h.r)⟩)
theorem KA_opn : ∀ τ σ, LIA τ σ → LIA (g_Mopen τ (mR τ) (mB τ)) (g_open σ (aR σ) (aB σ)) := fun τ σ h => ⟨K_opn τ σ h.1, (h.2.kept MA.opn VA.opn)⟩
theorem N_opn {l : Launch} (hl : l.stackTraces = false) : IF_open l LIX := G_opn hl (fun _ _ h => h.l.1) (fun τ σ h => ⟨KA_opn τ σ h.l, (h.z.kept MA.opn), (by
    rw [h.eR, h.eB]
    exact h.c.opn h.r h.a h.z rfl rfl)⟩)
theorem KA_wish : ∀ τ σ (p0 p1 p2 : Int32), LIA τ σ → LIA (g_Mwish τ p0 p1 p2 (mR τ) (mB τ) (mg τ)) (g_wish σ p0 p1 p2 (aR σ) (aB σ)) := fun τ σ p0 p1 p2 h => ⟨K_wish τ σ p0 p1 p2 h.1, (h.2.kept MA.wish VA.wish)⟩
theorem N_wish {l : Launch} (hl : l.stackTraces = false) : IF_wish l LIX := G_wish hl (fun _ _ h => h.l.1) (fun τ σ p0 p1 p2 h => ⟨KA_wish τ σ p0 p1 p2 h.l, (h.z.kept MA.wish), (by
    rw [h.eR, h.eB]
    exact h.c.wish h.r h.a h.z h.j rfl rfl rfl)⟩)
theorem KA_waive : ∀ τ σ (p0 : Int32), LIA τ σ → LIA (g_Mwaive τ p0 (mB τ) (mg τ) (mw τ)) (g_waive σ p0 (aB σ)) := fun τ σ p0 h => ⟨K_waive τ σ p0 h.1, (h.2.kept MA.waive VA.waive)⟩
theorem N_waive {l : Launch} (hl : l.stackTraces = false) : IF_waive l LIX := G_waive hl (fun _ _ h => h.l.1) (fun τ σ p0 h => ⟨KA_waive τ σ p0 h.l, (h.z.kept MA.waive), (by
    rw [h.eB]
    exact h.c.waive h.r rfl rfl rfl)⟩)
theorem KA_close : ∀ τ σ (p0 : Int32), LIA τ σ → LIA (g_Mclose τ p0) (g_close σ p0 (aR σ) (aB σ) (agr σ)) := fun τ σ p0 h => ⟨K_close τ σ p0 h.1, (h.2.kept (MA.close h.r h.1.1.2.1.2 h.1.2) (VA.close h.j h.1.1.1.2 h.j.hR.2 h.j.hB.2 (fun i hi => (h.j.hgr i hi).2)))⟩
theorem N_close {l : Launch} (hl : l.stackTraces = false) : IF_close l LIX := G_close hl (fun _ _ h => h.l.1) (fun τ σ p0 h => ⟨KA_close τ σ p0 h.l, (h.z.kept (MA.close h.r h.js h.jp)), (by
    rw [h.eR, h.eB]
    exact h.P.close (fun i hi => (h.j.hgr i hi).2))⟩)
theorem KA_offer : ∀ τ σ (p0 p1 p2 : Int32), LIA τ σ → LIA (g_Moffer τ p0 p1 p2 (mR τ) (mB τ) (mpk τ)) (g_offer σ p0 p1 p2 (aR σ) (aB σ) (agr σ) (acn σ)) := fun τ σ p0 p1 p2 h => ⟨K_offer τ σ p0 p1 p2 h.1, (h.2.kept MA.offer (VA.offer h.j.hB.2 (fun i hi => (h.j.hgr i hi).2) (fun i hi => (h.j.hct i hi).2)))⟩
theorem N_offer {l : Launch} (hl : l.stackTraces = false) : IF_offer l LIX := G_offer hl (fun _ _ h => h.l.1) (fun τ σ p0 p1 p2 h => ⟨KA_offer τ σ p0 p1 p2 h.l, (h.z.kept MA.offer), (h.c.kept h.r (MK.offer h.r.hB.2) (VK.offer h.j.hB.2 (fun i hi => (h.j.hgr i hi).2) (fun i hi => (h.j.hct i hi).2)))⟩)
theorem KA_settle : ∀ τ σ (p0 : Int32), LIA τ σ → LIA (g_Msettle τ p0 (mR τ) (mB τ) (mpk τ) (mgr τ) (mcd τ) (msp τ)) (g_settle σ p0 (aR σ) (asp σ)) := fun τ σ p0 h => ⟨K_settle τ σ p0 h.1, (h.2.kept (MA.settle h.r.hB.2) (VA.settle h.j.hR.2))⟩
theorem N_settle {l : Launch} (hl : l.stackTraces = false) : IF_settle l LIX := G_settle hl (fun _ _ h => h.l.1) (fun τ σ p0 h => ⟨KA_settle τ σ p0 h.l, (h.z.kept (MA.settle h.r.hB.2)), (by
    rw [h.eR]
    exact h.c.settle h.r h.r.hR.2 h.r.hB.2)⟩)
theorem KA_fail : ∀ τ σ (p0 : Int32), LIA τ σ → LIA (g_Mfail τ p0 (mR τ) (mB τ) (mpk τ) (mgr τ) (mcd τ) (mwy τ) (msp τ)) (g_fail σ p0 (aR σ) (aB σ) (asp σ)) := fun τ σ p0 h => ⟨K_fail τ σ p0 h.1, (h.2.kept (MA.fail h.r.hB.2) (VA.fail h.j.hR.2))⟩
theorem N_fail {l : Launch} (hl : l.stackTraces = false) : IF_fail l LIX := G_fail hl (fun _ _ h => h.l.1) (fun τ σ p0 h => ⟨KA_fail τ σ p0 h.l, (h.z.kept (MA.fail h.r.hB.2)), (h.c.kept h.r (MK.fail h.r.hB.2) (VK.fail h.j.hR.2))⟩)
theorem KA_station : ∀ τ σ (p0 p1 : Int32), LIA τ σ → LIA (g_Mstation τ p0 p1 (mR τ) (mC τ)) (g_station σ p0 p1 (aR σ) (aC σ)) := fun τ σ p0 p1 h => ⟨K_station τ σ p0 p1 h.1, (by
    rw [h.eR, h.eC]
    exact h.2.station h.r.hS.2 rfl)⟩
theorem N_station {l : Launch} (hl : l.stackTraces = false) : IF_station l LIX := G_station hl (fun _ _ h => h.l.1) (fun τ σ p0 p1 h => ⟨KA_station τ σ p0 p1 h.l, h.z.station, (h.c.kept h.r MK.station VK.station)⟩)
theorem KA_ask : ∀ τ σ (p0 p1 : Int32), LIA τ σ → LIA (g_Mask τ p0 p1 (mC τ)) (g_ask σ p0 p1 (aC σ)) := fun τ σ p0 p1 h => ⟨K_ask τ σ p0 p1 h.1, (by
    rw [h.eC]
    exact h.2.ask h.r.hS.2)⟩
theorem N_ask {l : Launch} (hl : l.stackTraces = false) : IF_ask l LIX := G_ask hl (fun _ _ h => h.l.1) (fun τ σ p0 p1 h => ⟨KA_ask τ σ p0 p1 h.l, h.z.ask, (h.c.kept h.r MK.ask VK.ask)⟩)
theorem KA_packs : ∀ τ σ (p0 p1 : Int32), LIA τ σ → LIA (g_Mpacks τ p0 p1 (mR τ) (mC τ) (mrg τ)) (g_packs σ p0 p1 (aC σ) (arg σ)) := fun τ σ p0 p1 h => ⟨K_packs τ σ p0 p1 h.1, (h.2.kept MA.packs VA.packs)⟩
theorem N_packs {l : Launch} (hl : l.stackTraces = false) : IF_packs l LIX := G_packs hl (fun _ _ h => h.l.1) (fun τ σ p0 p1 h => ⟨KA_packs τ σ p0 p1 h.l, (h.z.kept MA.packs), (h.c.kept h.r MK.packs VK.packs)⟩)
theorem KA_channel : ∀ τ σ (p0 p1 p2 : Int32), LIA τ σ → LIA (g_Mchannel τ p0 p1 p2 (mR τ) (mC τ) (mrg τ)) (g_channel σ p0 p1 p2 (aC σ) (arg σ)) := fun τ σ p0 p1 p2 h => ⟨K_channel τ σ p0 p1 p2 h.1, (h.2.kept MA.channel VA.channel)⟩
theorem N_channel {l : Launch} (hl : l.stackTraces = false) : IF_channel l LIX := G_channel hl (fun _ _ h => h.l.1) (fun τ σ p0 p1 p2 h => ⟨KA_channel τ σ p0 p1 p2 h.l, (h.z.kept MA.channel), (h.c.kept h.r MK.channel VK.channel)⟩)
theorem KA_clear : ∀ τ σ (p0 : Int32), LIA τ σ → LIA (g_Mclear τ p0 (mR τ) (mC τ) (mrg τ)) (g_clear σ p0 (aC σ) (arg σ)) := fun τ σ p0 h => ⟨K_clear τ σ p0 h.1, (h.2.kept MA.clear VA.clear)⟩
theorem N_clear {l : Launch} (hl : l.stackTraces = false) : IF_clear l LIX := G_clear hl (fun _ _ h => h.l.1) (fun τ σ p0 h => ⟨KA_clear τ σ p0 h.l, (h.z.kept MA.clear), (h.c.kept h.r MK.clear VK.clear)⟩)
theorem KA_ofRegion : ∀ τ σ (p0 p1 : Int32), LIA τ σ → LIA (g_MofRegion τ p0 p1 (mR τ) (mB τ) (mC τ) (mg τ)) σ := fun τ σ p0 p1 h => ⟨K_ofRegion τ σ p0 p1 h.1, (h.2.kept (by
    unfold g_MofRegion
    (repeat' split) <;> first | exact MA.s0 | exact MA.s00) VA.rfl')⟩
theorem N_ofRegion {l : Launch} (hl : l.stackTraces = false) : IF_ofRegion l LIX := G_ofRegion hl (fun _ _ h => h.l.1) (fun τ σ p0 p1 h => by
    rw [h.eR, h.eC]
    exact says_ofRegion h.c h.r h.a) (fun τ σ p0 p1 h => ⟨KA_ofRegion τ σ p0 p1 h.l, (h.z.kept (by
    unfold g_MofRegion
    (repeat' split) <;> first | exact MA.s0 | exact MA.s00)), (h.c.kept h.r (by
    unfold g_MofRegion
    (repeat' split) <;> first | exact MK.s0 | exact MK.s00) VK.rfl')⟩)
theorem KA_ofBidder : ∀ τ σ (p0 p1 : Int32), LIA τ σ → LIA (g_MofBidder τ p0 p1 (mR τ) (mB τ) (mpk τ) (mg τ)) σ := fun τ σ p0 p1 h => ⟨K_ofBidder τ σ p0 p1 h.1, (h.2.kept (by
    unfold g_MofBidder
    (repeat' split) <;> first | exact MA.s0 | exact MA.s00) VA.rfl')⟩
theorem N_ofBidder {l : Launch} (hl : l.stackTraces = false) : IF_ofBidder l LIX := G_ofBidder hl (fun _ _ h => h.l.1) (fun τ σ p0 p1 h => ⟨KA_ofBidder τ σ p0 p1 h.l, (h.z.kept (by
    unfold g_MofBidder
    (repeat' split) <;> first | exact MA.s0 | exact MA.s00)), (h.c.kept h.r (by
    unfold g_MofBidder
    (repeat' split) <;> first | exact MK.s0 | exact MK.s00) VK.rfl')⟩)
theorem KA_wants : ∀ τ σ (p0 p1 p2 : Int32), LIA τ σ → LIA (g_Mwants τ p0 p1 p2 (mR τ) (mB τ) (mg τ)) σ := fun τ σ p0 p1 p2 h => ⟨K_wants τ σ p0 p1 p2 h.1, (h.2.kept (by
    unfold g_Mwants
    (repeat' split) <;> first | exact MA.s0 | exact MA.s00) VA.rfl')⟩
theorem N_wants {l : Launch} (hl : l.stackTraces = false) : IF_wants l LIX := G_wants hl (fun _ _ h => h.l.1) (fun τ σ p0 p1 p2 h => ⟨KA_wants τ σ p0 p1 p2 h.l, (h.z.kept (by
    unfold g_Mwants
    (repeat' split) <;> first | exact MA.s0 | exact MA.s00)), (h.c.kept h.r (by
    unfold g_Mwants
    (repeat' split) <;> first | exact MK.s0 | exact MK.s00) VK.rfl')⟩)
theorem KA_priceIn : ∀ τ σ (p0 p1 : Int32), LIA τ σ → LIA (g_MpriceIn τ p0 p1 (mR τ) (mK τ)) σ := fun τ σ p0 p1 h => ⟨K_priceIn τ σ p0 p1 h.1, (h.2.kept (by
    unfold g_MpriceIn
    (repeat' split) <;> first | exact MA.s0 | exact MA.s00) VA.rfl')⟩
theorem N_priceIn {l : Launch} (hl : l.stackTraces = false) : IF_priceIn l LIX := G_priceIn hl (fun _ _ h => h.l.1) (fun τ σ p0 p1 h => ⟨KA_priceIn τ σ p0 p1 h.l, (h.z.kept (by
    unfold g_MpriceIn
    (repeat' split) <;> first | exact MA.s0 | exact MA.s00)), (h.c.kept h.r (by
    unfold g_MpriceIn
    (repeat' split) <;> first | exact MK.s0 | exact MK.s00) VK.rfl')⟩)
theorem KA_codeIn : ∀ τ σ (p0 p1 p2 : Int32), LIA τ σ → LIA (g_McodeIn τ p0 p1 p2 (mB τ) (mK τ)) σ := fun τ σ p0 p1 p2 h => ⟨K_codeIn τ σ p0 p1 p2 h.1, (h.2.kept (by
    unfold g_McodeIn
    (repeat' split) <;> first | exact MA.s0 | exact MA.s00) VA.rfl')⟩
theorem N_codeIn {l : Launch} (hl : l.stackTraces = false) : IF_codeIn l LIX := G_codeIn hl (fun _ _ h => h.l.1) (fun τ σ p0 p1 p2 h => ⟨KA_codeIn τ σ p0 p1 p2 h.l, (h.z.kept (by
    unfold g_McodeIn
    (repeat' split) <;> first | exact MA.s0 | exact MA.s00)), (h.c.kept h.r (by
    unfold g_McodeIn
    (repeat' split) <;> first | exact MK.s0 | exact MK.s00) VK.rfl')⟩)
theorem KA_ofPackage : ∀ τ σ (p0 p1 p2 : Int32), LIA τ σ → LIA (g_MofPackage τ p0 p1 p2 (mB τ) (mpk τ)) σ := fun τ σ p0 p1 p2 h => ⟨K_ofPackage τ σ p0 p1 p2 h.1, (h.2.kept (by
    unfold g_MofPackage
    (repeat' split) <;> first | exact MA.s0 | exact MA.s00) VA.rfl')⟩
theorem N_ofPackage {l : Launch} (hl : l.stackTraces = false) : IF_ofPackage l LIX := G_ofPackage hl (fun _ _ h => h.l.1) (fun τ σ p0 p1 p2 h => ⟨KA_ofPackage τ σ p0 p1 p2 h.l, (h.z.kept (by
    unfold g_MofPackage
    (repeat' split) <;> first | exact MA.s0 | exact MA.s00)), (h.c.kept h.r (by
    unfold g_MofPackage
    (repeat' split) <;> first | exact MK.s0 | exact MK.s00) VK.rfl')⟩)
theorem KA_wins : ∀ τ σ (p0 : Int32), LIA τ σ → LIA (g_Mwins τ p0 (mR τ) (mB τ) (mpk τ) (mgr τ) (mcd τ)) σ := fun τ σ p0 h => ⟨K_wins τ σ p0 h.1, (h.2.kept (by
    unfold g_Mwins
    (repeat' split) <;> first | exact MA.s00 | exact MA.s0.trans MA.cinit) VA.rfl')⟩
theorem N_wins {l : Launch} (hl : l.stackTraces = false) : IF_wins l LIX := G_wins hl (fun _ _ h => h.l.1) (fun τ σ p0 h => ⟨KA_wins τ σ p0 h.l, (h.z.kept (by
    unfold g_Mwins
    (repeat' split) <;> first | exact MA.s00 | exact MA.s0.trans MA.cinit)), (h.c.kept h.r (by
    unfold g_Mwins
    (repeat' split) <;> first | exact MK.s00 | exact MK.s0.trans MK.cinit) VK.rfl')⟩)
theorem KA_pays : ∀ τ σ (p0 p1 : Int32), LIA τ σ → LIA (g_Mpays τ p0 p1 (mB τ)) σ := fun τ σ p0 p1 h => ⟨K_pays τ σ p0 p1 h.1, (h.2.kept (by
    unfold g_Mpays
    (repeat' split) <;> first | exact MA.s0 | exact MA.s00) VA.rfl')⟩
theorem N_pays {l : Launch} (hl : l.stackTraces = false) : IF_pays l LIX := G_pays hl (fun _ _ h => h.l.1) (fun τ σ p0 p1 h => ⟨KA_pays τ σ p0 p1 h.l, (h.z.kept (by
    unfold g_Mpays
    (repeat' split) <;> first | exact MA.s0 | exact MA.s00)), (h.c.kept h.r (by
    unfold g_Mpays
    (repeat' split) <;> first | exact MK.s0 | exact MK.s00) VK.rfl')⟩)
theorem KA_holder : ∀ τ σ (p0 p1 : Int32), LIA τ σ → LIA (g_Mholder τ p0 p1 (mR τ) (mB τ) (mtn τ) (msp τ)) σ := fun τ σ p0 p1 h => ⟨K_holder τ σ p0 p1 h.1, (h.2.kept (by
    unfold g_Mholder
    (repeat' split) <;> first | exact MA.s0 | exact MA.s00) VA.rfl')⟩
theorem N_holder {l : Launch} (hl : l.stackTraces = false) : IF_holder l LIX := G_holder hl (fun _ _ h => h.l.1) (fun τ σ p0 p1 h => ⟨KA_holder τ σ p0 p1 h.l, (h.z.kept (by
    unfold g_Mholder
    (repeat' split) <;> first | exact MA.s0 | exact MA.s00)), (h.c.kept h.r (by
    unfold g_Mholder
    (repeat' split) <;> first | exact MK.s0 | exact MK.s00) VK.rfl')⟩)
theorem KA_chart : ∀ τ σ (t : Int32), LIA τ σ → LIA (u2 τ 5000 0 t) σ := fun τ σ t h => ⟨K_chart τ σ t h.1, (h.2.kept MA.s0 VA.rfl')⟩
theorem N_chart {l : Launch} (hl : l.stackTraces = false) : IF_chart l LIX := G_chart hl (fun _ _ h => h.l.1) (fun τ σ t h => ⟨KA_chart τ σ t h.l, (h.z.kept MA.s0), (h.c.kept h.r MK.s0 VK.rfl')⟩)
theorem KA_sale : ∀ τ σ (p0 : Int32), LIA τ σ → LIA (g_Msale τ p0 (mR τ) (mB τ) (mpk τ) (mgr τ) (mcd τ) (mK τ) (mC τ) (mg τ) (mtn τ) (msp τ)) σ := fun τ σ p0 h => ⟨K_sale τ σ p0 h.1, (h.2.kept (by
    unfold g_Msale
    (repeat' split) <;> first | exact MA.s00 | exact MA.s0.trans MA.cinit) VA.rfl')⟩
theorem N_sale {l : Launch} (hl : l.stackTraces = false) : IF_sale l LIX := G_sale hl (fun _ _ h => h.l.1) (fun τ σ p0 h => ⟨KA_sale τ σ p0 h.l, (h.z.kept (by
    unfold g_Msale
    (repeat' split) <;> first | exact MA.s00 | exact MA.s0.trans MA.cinit)), (h.c.kept h.r (by
    unfold g_Msale
    (repeat' split) <;> first | exact MK.s00 | exact MK.s0.trans MK.cinit) VK.rfl')⟩)
theorem KA_worth : ∀ τ σ (p0 : Int32), LIA τ σ → LIA (g_Mworth τ p0 (mR τ) (mB τ) (mpk τ) (mgr τ) (mcd τ)) σ := fun τ σ p0 h => ⟨K_worth τ σ p0 h.1, (h.2.kept (by
    unfold g_Mworth
    (repeat' split) <;> first | exact MA.s00 | exact MA.s0.trans MA.cinit) VA.rfl')⟩
theorem N_worth {l : Launch} (hl : l.stackTraces = false) : IF_worth l LIX := G_worth hl (fun _ _ h => h.l.1) (fun τ σ p0 h => ⟨KA_worth τ σ p0 h.l, (h.z.kept (by
    unfold g_Mworth
    (repeat' split) <;> first | exact MA.s00 | exact MA.s0.trans MA.cinit)), (h.c.kept h.r (by
    unfold g_Mworth
    (repeat' split) <;> first | exact MK.s00 | exact MK.s0.trans MK.cinit) VK.rfl')⟩)
theorem KA_wouldPay : ∀ τ σ (p0 p1 : Int32), LIA τ σ → LIA (g_MwouldPay τ p0 p1 (mR τ) (mB τ) (mpk τ) (mgr τ) (mcd τ)) σ := fun τ σ p0 p1 h => ⟨K_wouldPay τ σ p0 p1 h.1, (h.2.kept (by
    unfold g_MwouldPay
    (repeat' split) <;> first | exact MA.s00 | exact MA.s0.trans (MA.cpay h.r.hB.2)) VA.rfl')⟩
theorem N_wouldPay {l : Launch} (hl : l.stackTraces = false) : IF_wouldPay l LIX := G_wouldPay hl (fun _ _ h => h.l.1) (fun τ σ p0 p1 h => ⟨KA_wouldPay τ σ p0 p1 h.l, (h.z.kept (by
    unfold g_MwouldPay
    (repeat' split) <;> first | exact MA.s00 | exact MA.s0.trans (MA.cpay h.r.hB.2))), (h.c.kept h.r (by
    unfold g_MwouldPay
    (repeat' split) <;> first | exact MK.s00 | exact MK.s0.trans (MK.cpay h.r.hB.2)) VK.rfl')⟩)
theorem KA_objects : ∀ τ σ (p0 p1 : Int32), LIA τ σ → LIA (g_Mobjects τ p0 p1 (mR τ) (mB τ) (mpk τ) (mgr τ) (mcd τ)) σ := fun τ σ p0 p1 h => ⟨K_objects τ σ p0 p1 h.1, (h.2.kept (by
    unfold g_Mobjects
    (repeat' split) <;> first | exact MA.s00 | exact MA.s0.trans (MA.cpay h.r.hB.2)) VA.rfl')⟩
theorem N_objects {l : Launch} (hl : l.stackTraces = false) : IF_objects l LIX := G_objects hl (fun _ _ h => h.l.1) (fun τ σ p0 p1 h => ⟨KA_objects τ σ p0 p1 h.l, (h.z.kept (by
    unfold g_Mobjects
    (repeat' split) <;> first | exact MA.s00 | exact MA.s0.trans (MA.cpay h.r.hB.2))), (h.c.kept h.r (by
    unfold g_Mobjects
    (repeat' split) <;> first | exact MK.s00 | exact MK.s0.trans (MK.cpay h.r.hB.2)) VK.rfl')⟩)
theorem KA_most : ∀ τ σ (p0 p1 : Int32), LIA τ σ → LIA (g_Mmost τ p0 p1 (mR τ) (mB τ) (mg τ)) σ := fun τ σ p0 p1 h => ⟨K_most τ σ p0 p1 h.1, (h.2.kept (by
    unfold g_Mmost
    (repeat' split) <;> first | exact MA.s0 | exact MA.s00) VA.rfl')⟩
theorem N_most {l : Launch} (hl : l.stackTraces = false) : IF_most l LIX := G_most hl (fun _ _ h => h.l.1) (fun τ σ p0 p1 h => ⟨KA_most τ σ p0 p1 h.l, (h.z.kept (by
    unfold g_Mmost
    (repeat' split) <;> first | exact MA.s0 | exact MA.s00)), (h.c.kept h.r (by
    unfold g_Mmost
    (repeat' split) <;> first | exact MK.s0 | exact MK.s00) VK.rfl')⟩)
theorem KA_contradicts : ∀ τ σ (p0 : Int32), LIA τ σ → LIA (g_Mcontradicts τ p0 (mR τ) (mB τ) (mg τ) (mn τ)) σ := fun τ σ p0 h => ⟨K_contradicts τ σ p0 h.1, (h.2.kept (by
    unfold g_Mcontradicts
    (repeat' split) <;> first | exact MA.s0 | exact MA.s00) VA.rfl')⟩
theorem N_contradicts {l : Launch} (hl : l.stackTraces = false) : IF_contradicts l LIX := G_contradicts hl (fun _ _ h => h.l.1) (fun τ σ p0 h => ⟨KA_contradicts τ σ p0 h.l, (h.z.kept (by
    unfold g_Mcontradicts
    (repeat' split) <;> first | exact MA.s0 | exact MA.s00)), (h.c.kept h.r (by
    unfold g_Mcontradicts
    (repeat' split) <;> first | exact MK.s0 | exact MK.s00) VK.rfl')⟩)
theorem KA_anew : ∀ τ σ (p0 p1 p2 p3 : Int32), LIA τ σ → LIA (u2 (u2 τ 5000 0 0) 5000 0 (t_anew p0 p1 p2 p3 (mR τ) (mB τ) (mK τ))) (g_anew σ p0 p1 p2 p3 (aR σ) (aB σ) (aK σ)) := fun τ σ p0 p1 p2 p3 h => ⟨K_anew τ σ p0 p1 p2 p3 h.1, (h.2.kept MA.s00 (VA.anew h.j.hK.2))⟩
theorem N_anew {l : Launch} (hl : l.stackTraces = false) : IF_anew l LIX := G_anew hl (fun _ _ h => h.l.1) (fun τ σ p0 p1 p2 p3 h => ⟨KA_anew τ σ p0 p1 p2 p3 h.l, (h.z.kept MA.s00), (h.c.kept h.r MK.s00 (VK.anew h.j.hK.2))⟩)
theorem KA_knock : ∀ τ σ, LIA τ σ → LIA (g_Mknock τ) (g_knock σ) := fun τ σ h => ⟨K_knock τ σ h.1, h.2.knock⟩
theorem N_knock {l : Launch} (hl : l.stackTraces = false) : IF_knock l LIX := G_knock hl (fun _ _ h => h.l.1) (fun τ σ h => ⟨KA_knock τ σ h.l, h.z.knock, (h.c.kept h.r MK.knock VK.knock)⟩)
theorem KA_isSound : ∀ τ σ, LIA τ σ → LIA (u2 τ 5000 0 0) (g_isSound σ (aR σ) (aB σ) (aw σ) (aK σ)) := fun τ σ h => ⟨K_isSound τ σ h.1, (h.2.kept MA.s0 (VA.isSound h.j.hK.2))⟩
theorem N_isSound {l : Launch} (hl : l.stackTraces = false) : IF_isSound l LIX := G_isSound hl (fun _ _ h => h.l.1) (fun τ σ h => ⟨KA_isSound τ σ h.l, (h.z.kept MA.s0), (h.c.kept h.r MK.s0 (VK.isSound h.j.hK.2))⟩)
theorem KA_digest : ∀ τ σ, LIA τ σ → LIA (u2 τ 5000 0 0) (g_digest σ (aK σ) (aB σ) (aR σ) (aC σ) (aw σ) (arg σ)) := fun τ σ h => ⟨K_digest τ σ h.1, (h.2.kept MA.s0 (VA.digest h.j.hK.2))⟩
theorem N_digest {l : Launch} (hl : l.stackTraces = false) : IF_digest l LIX := G_digest hl (fun _ _ h => h.l.1) (fun τ σ h => ⟨KA_digest τ σ h.l, (h.z.kept MA.s0), (h.c.kept h.r MK.s0 (VK.digest h.j.hK.2))⟩)
end
