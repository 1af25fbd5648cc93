/-! ===== the clock: regions, bidders, the opening ===== -/
section
variable {τ τ2 σ σ2 : XS9} {R B : Nat}
theorem fillz {a n : Nat} {x : Int32} {s : XS9} {j : Nat} (hj : j < n) : g_fill s a n x a j = x := by
  unfold g_fill x_fill_5
  exact fill_at n 0 s (fun h => absurd h (by omega)) (by omega)
theorem begin_ok {s : XS9} : (∀ r, r < 5 → g_begin s 2000 2001 r = s 1012 r) ∧ (∀ j, j < 6 → g_begin s 2000 2004 j = s 1015 j) ∧ (∀ j, j < 6 → g_begin s 2000 2002 j = 0 ∧ g_begin s 2000 2003 j = 0 ∧ g_begin s 2000 2006 j = 0) ∧ (∀ j, j < 6 → g_begin s 2000 2005 j = 2) ∧ g_begin s 2000 2000 12 = 0 ∧ g_begin s 2000 2000 9 = 0 := by
  unfold g_begin
  refine ⟨fun r hr => ?_, fun j hj => ?_, fun j hj => ⟨?_, ?_, ?_⟩, fun j hj => ?_, u2_at, ?_⟩
  · rw [u2_ne (by decide), u2_ne (by decide), fr_fill (by decide), fr_fill (by decide), fr_fill (by decide), fr_fill (by decide), uR_ne (by decide), uR_eq, cpy_lo hr]
  · rw [u2_ne (by decide), u2_ne (by decide), fr_fill (by decide), fr_fill (by decide), fr_fill (by decide), fr_fill (by decide), uR_eq, cpy_lo hj]
  · rw [u2_ne (by decide), u2_ne (by decide), fr_fill (by decide), fr_fill (by decide), fr_fill (by decide)]
    exact fillz hj
  · rw [u2_ne (by decide), u2_ne (by decide), fr_fill (by decide), fr_fill (by decide)]
    exact fillz hj
  · rw [u2_ne (by decide), u2_ne (by decide)]
    exact fillz hj
  · rw [u2_ne (by decide), u2_ne (by decide), fr_fill (by decide)]
    exact fillz hj
  · rw [u2_oi (by decide), u2_at]
/-- the clock begun anew, before the opening -/
theorem RC.begun {s : XS9} (h : RC τ σ) (r : JR τ) (e0 : τ 5000 1 = 0) (eB : mB τ2 ≤ 6) (m1 : τ2 5000 1 = τ 5000 1) (m4 : τ2 5000 4 = τ 5000 4) (m3 : τ2 5003 900 = τ 5003 900) (c7 : s 1000 7 = σ 1000 7) (c8 : s 1000 8 = σ 1000 8) (m25 : τ2 7000 25 = τ 7000 25) : RC τ2 (g_begin s 2000) := by
  obtain ⟨b1, b2, b3, b4, b5, b6⟩ := begin_ok (s := s)
  have k0 : τ 5003 900 = 0 := (r.hp0 e0).2.2
  have eK : mK τ2 = 0 := by
    show cn (τ2 5003 900) = 0
    rw [m3, k0]
    rfl
  have r0 : g_begin s 2000 1000 = s 1000 := fr_begin (by omega)
  have r12 : g_begin s 2000 1012 = s 1012 := fr_begin (by omega)
  have r15 : g_begin s 2000 1015 = s 1015 := fr_begin (by omega)
  refine ⟨?_, ?_, ?_, ?_, fun e => ?_, fun e => ?_, (by rw [m25, m1]; exact h.fl), ⟨fun k hk => ?_, fun k hk j hj => ?_, fun k hk r hr => ?_, fun k hk j hj => ?_, fun k hk j hj => ?_⟩⟩
  · rw [r0, c7, m1]; exact h.st
  · rw [r0, c7]; exact h.sb
  · rw [r0, c8, m4]; exact h.stp
  · rw [b6, m3, k0]
  · exact absurd (m1.trans e0) e
  · refine ⟨fun r hr => ?_, fun j hj => ?_, b3, fun j hj => b4 j (by omega), b5⟩
    · rw [b1 r hr, r12]
    · rw [b2 j hj, r15]
  all_goals (rw [eK] at hk; exact absurd hk (by omega))
theorem RC.region {x y v : Int32} (h : RC τ σ) (r : JR τ) (hR5 : R ≤ 5) : RC (g_Mregion τ x y v R) (g_region σ x y v R) := by
  unfold g_Mregion g_region
  by_cases c1 : n_bt x 1 5
  · by_cases c2 : n_bt y 1 9
    · by_cases c3 : n_bt v 1 999
      · by_cases c4 : σ 1000 7 = 0
        · have c6 : τ 5000 1 = 0 := h.st.symm.trans c4
          by_cases c5 : nI R < 5
          · rw [if_pos c1, if_pos c2, if_pos c3, if_pos c6, if_neg ((nI5 hR5).mp c5), if_pos c1, if_pos c2, if_pos c3, if_pos c4, if_pos c5]
            have hR : R < 5 := (nI_ltI (a := R) (b := 5) (by omega) (by omega)).mp c5
            refine h.begun r c6 ?_ ?_ ?_ ?_ ?_ ?_ ?_
            · show cn (u2 _ _ _ _ 5002 900) ≤ 6
              rw [u2_ne (by decide), uR_ne (by omega), u2_ne (by decide)]
              exact r.hB.2
            · rw [u2_ne (by decide), uR_ne (by omega), u2_oi (by decide)]
            · rw [u2_ne (by decide), uR_ne (by omega), u2_oi (by decide)]
            · rw [u2_ne (by decide), uR_ne (by omega), u2_ne (by decide)]
            · rw [fr_addRegion (by decide)]
            · rw [fr_addRegion (by decide)]
            · rw [u2_ne (by decide), uR_ne (by omega), u2_ne (by decide)]
          · rw [if_pos c1, if_pos c2, if_pos c3, if_pos c6, if_pos (Classical.not_not.mp (fun e => c5 ((nI5 hR5).mpr e))), if_pos c1, if_pos c2, if_pos c3, if_pos c4, if_neg c5]
            exact h.kept r MK.s00 VK.rfl'
        · rw [if_pos c1, if_pos c2, if_pos c3, if_neg (fun e => c4 (h.st.trans e)), if_pos c1, if_pos c2, if_pos c3, if_neg c4]
          exact h.kept r MK.s00 VK.rfl'
      · rw [if_pos c1, if_pos c2, if_neg c3, if_pos c1, if_pos c2, if_neg c3]
        exact h.kept r MK.s00 VK.rfl'
    · rw [if_pos c1, if_neg c2, if_pos c1, if_neg c2]
      exact h.kept r MK.s00 VK.rfl'
  · rw [if_neg c1, if_neg c1]
    exact h.kept r MK.s00 VK.rfl'
theorem RC.bidder {x y v u : Int32} (h : RC τ σ) (r : JR τ) (hB6 : B ≤ 6) : RC (g_Mbidder τ x y v u B) (g_bidder σ x y v u B) := by
  unfold g_Mbidder g_bidder
  by_cases c1 : n_bt x 0 99999
  · by_cases c2 : n_bt y 1 200
    · by_cases c3 : n_bt v 0 30
      · by_cases c7 : n_bt u 0 3
        · by_cases c4 : σ 1000 7 = 0
          · have c6 : τ 5000 1 = 0 := h.st.symm.trans c4
            by_cases c5 : nI B < 6
            · rw [if_pos c1, if_pos c2, if_pos c3, if_pos c7, if_pos c6, if_neg ((nI6 hB6).mp c5), if_pos c1, if_pos c2, if_pos c3, if_pos c7, if_pos c4, if_pos c5]
              have hB : B < 6 := (nI_ltI (a := B) (b := 6) (by omega) (by omega)).mp c5
              refine h.begun r c6 ?_ ?_ ?_ ?_ ?_ ?_ ?_
              · show cn (u2 _ _ _ _ 5002 900) ≤ 6
                rw [u2_at, cn_nI (by omega)]
                omega
              · rw [u2_ne (by decide), u2_ne (by omega), uR_ne (by omega), u2_oi (by decide)]
              · rw [u2_ne (by decide), u2_ne (by omega), uR_ne (by omega), u2_oi (by decide)]
              · rw [u2_ne (by decide), u2_ne (by omega), uR_ne (by omega), u2_ne (by decide)]
              · rw [fr_addBidder (by decide)]
              · rw [fr_addBidder (by decide)]
              · rw [u2_ne (by decide), u2_ne (by omega), uR_ne (by omega), u2_ne (by decide)]
            · rw [if_pos c1, if_pos c2, if_pos c3, if_pos c7, if_pos c6, if_pos (Classical.not_not.mp (fun e => c5 ((nI6 hB6).mpr e))), if_pos c1, if_pos c2, if_pos c3, if_pos c7, if_pos c4, if_neg c5]
              exact h.kept r MK.s00 VK.rfl'
          · rw [if_pos c1, if_pos c2, if_pos c3, if_pos c7, if_neg (fun e => c4 (h.st.trans e)), if_pos c1, if_pos c2, if_pos c3, if_pos c7, if_neg c4]
            exact h.kept r MK.s00 VK.rfl'
        · rw [if_pos c1, if_pos c2, if_pos c3, if_neg c7, if_pos c1, if_pos c2, if_pos c3, if_neg c7]
          exact h.kept r MK.s00 VK.rfl'
      · rw [if_pos c1, if_pos c2, if_neg c3, if_pos c1, if_pos c2, if_neg c3]
        exact h.kept r MK.s00 VK.rfl'
    · rw [if_pos c1, if_neg c2, if_pos c1, if_neg c2]
      exact h.kept r MK.s00 VK.rfl'
  · rw [if_neg c1, if_neg c1]
    exact h.kept r MK.s00 VK.rfl'
/-! regions that are not there have nothing -/
def RZ (τ : XS9) : Prop := ∀ r, cn (τ 5001 900) ≤ r → r < 5 → τ (5010 + r) 0 = 0 ∧ τ (5010 + r) 1 = 0 ∧ τ (5010 + r) 2 = 0
theorem RZ.kept (h : RZ τ) (m : MA τ τ2) : RZ τ2 := fun r h1 h2 => by
  have M : ∀ q i, kb q i → τ2 q i = τ q i := m
  rw [M _ _ (by unfold kb; omega)] at h1
  rw [M _ _ (by unfold kb; omega), M _ _ (by unfold kb; omega), M _ _ (by unfold kb; omega)]
  exact h r h1 h2
theorem RZ.of (h : RZ τ) (e1 : τ2 5001 900 = τ 5001 900) (e : ∀ r i, r < 5 → i < 3 → τ2 (5010 + r) i = τ (5010 + r) i) : RZ τ2 := fun r h1 h2 => by
  rw [e1] at h1
  rw [e r 0 h2 (by decide), e r 1 h2 (by decide), e r 2 h2 (by decide)]
  exact h r h1 h2
theorem RZ.s00 (h : RZ τ) {x : Int32} : RZ (u2 (u2 τ 5000 0 0) 5000 0 x) := h.kept MA.s00
theorem RZ.init : RZ s0M := fun r _ h2 => ⟨s0M_50 (by omega), s0M_50 (by omega), s0M_50 (by omega)⟩
theorem RZ.region {x y v : Int32} (h : RZ τ) (hR5 : R ≤ 5) (eR : cn (τ 5001 900) = R) : RZ (g_Mregion τ x y v R) := by
  unfold g_Mregion
  (repeat' split) <;> first | exact h.s00 | skip
  rename_i hn
  have hR : R < 5 := by
    have : R ≠ 5 := fun e => hn (by rw [e]; rfl)
    omega
  intro r h1 h2
  rw [u2_at, cn_nI (by omega)] at h1
  rw [u2_ne (by omega), uR_ne (by omega), u2_ne (by omega)]
  exact h r (by omega) h2
theorem RZ.bidder {x y v u : Int32} (h : RZ τ) (hB6 : B ≤ 6) : RZ (g_Mbidder τ x y v u B) := by
  unfold g_Mbidder
  (repeat' split) <;> first | exact h.s00 | skip
  rename_i hn
  have hB : B < 6 := by
    have : B ≠ 6 := fun e => hn (by rw [e]; rfl)
    omega
  exact h.of (by rw [u2_ne (by decide), u2_ne (by omega), uR_ne (by omega), u2_ne (by decide)]) (fun r i hr hi => by rw [u2_ne (by omega), u2_ne (by omega), uR_ne (by omega), u2_ne (by omega)])
theorem RZ.rules {x y : Int32} (h : RZ τ) : RZ (g_Mrules τ x y) := by
  unfold g_Mrules
  (repeat' split) <;> first | exact h.s00 | exact h.of (by rw [u2_ne (by decide), u2_ne (by decide), u2_ne (by decide)]) (fun r i hr hi => by rw [u2_ne (by omega), u2_ne (by omega), u2_ne (by omega)])
theorem RZ.knock (h : RZ τ) : RZ (g_Mknock τ) := by
  unfold g_Mknock
  exact h.of (by rw [u2_ne (by decide), u2_ne (by decide)]) (fun r i hr hi => by rw [u2_ne (by omega), u2_ne (by omega)])
theorem RZ.slot {q : Nat} {x : Int32} (h : RZ τ) : RZ (u2 τ q 3 x) := h.of (u2_sl (by decide)) (fun r i hr hi => u2_sl (by omega))
theorem RZ.border {x y : Int32} (h : RZ τ) (hR5 : R ≤ 5) : RZ (g_Mborder τ x y R) := by
  unfold g_Mborder
  split
  · split
    · split
      · exact h.s00
      · split
        · exact (h.kept MA.s0).slot.slot
        · exact h.s00
    · exact h.s00
  · exact h.s00
theorem RZ.station {x y : Int32} {C : Nat} (h : RZ τ) : RZ (g_Mstation τ x y R C) := by
  unfold g_Mstation g_addI
  (repeat' split) <;> first | exact h.s00 | exact h.of (by rw [u2_ne (by decide), u2_ne (by decide), u2_ne (by decide), u2_ne (by decide), u2_ne (by decide)]) (fun r i hr hi => by rw [u2_ne (by omega), u2_ne (by omega), u2_ne (by omega), u2_ne (by omega), u2_ne (by omega)])
theorem RZ.ask {x y : Int32} {C : Nat} (h : RZ τ) : RZ (g_Mask τ x y C) := by
  unfold g_Mask g_setS
  (repeat' split) <;> first | exact h.s00 | exact h.of (by rw [u2_ne (by decide), u2_ne (by decide), u2_ne (by decide)]) (fun r i hr hi => by rw [u2_ne (by omega), u2_ne (by omega), u2_ne (by omega)])
/-- what the clock was told -/
theorem told (a : RA τ σ) (z : RZ τ) (j : JC σ) : TQ (mR τ) σ τ := ⟨a.1.2.2, fun r hr => ⟨(a.2.1 r hr).1, by rw [← (a.2.1 r hr).1]; exact j.hsp r hr⟩, fun r hr => (a.2.1 r hr).2.1, fun r h1 h2 => (z r h1 h2).2.1⟩
end
