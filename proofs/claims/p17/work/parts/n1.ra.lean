section
/-! ===== what was told, alike on both sides ===== -/
def ka (q i : Nat) : Prop := (1010 ≤ q ∧ q ≤ 1017) ∨ q = 1006 ∨ q = 1150 ∨ q = 1151 ∨ (q = 1000 ∧ i = 11) ∨ (q = 1001 ∧ (i = 10 ∨ i = 11))
def VA (σ σ2 : XS9) : Prop := ∀ q i, ka q i → σ2 q i = σ q i
theorem VA.rfl' {σ : XS9} : VA σ σ := fun _ _ _ => rfl
theorem VA.trans {σ σ2 σ3 : XS9} (a : VA σ σ2) (b : VA σ2 σ3) : VA σ σ3 := fun q i h => (b q i h).trans (a q i h)
theorem VA.set {σ : XS9} {q i : Nat} {x : Int32} (hq : ¬ ka q i) : VA σ (u2 σ q i x) := fun q9 i9 hk => u2_o (fun a b => hq (by rw [← a, ← b]; exact hk))
theorem VA.rows {σ σ2 : XS9} (h : ∀ q, (q = 1000 ∨ q = 1001 ∨ (1010 ≤ q ∧ q ≤ 1017) ∨ q = 1006 ∨ q = 1150 ∨ q = 1151) → σ2 q = σ q) : VA σ σ2 := fun q i hk => by rw [h q (by unfold ka at hk; omega)]
section
variable {σ τ : XS9} {R B C K g w : Nat} {gr cnt sp pk tn rg : Nat → Nat} {cd : Nat → Nat → Nat}
theorem nka {q i : Nat} (h : 2000 ≤ q) : ¬ ka q i := fun k => by unfold ka at k; omega
theorem VA.step {x : Int32} : VA σ (g_step σ x) := by
  unfold g_step
  (repeat' split) <;> first | exact VA.rfl' | exact VA.set (fun k => by unfold ka at k; omega)
theorem VA.opn : VA σ (g_open σ R B) := by
  unfold g_open
  (repeat' split) <;> first | exact VA.rfl' | exact VA.set (fun k => by unfold ka at k; omega)
theorem VA.wish {x y z : Int32} : VA σ (g_wish σ x y z R B) := by
  unfold g_wish
  (repeat' split) <;> first | exact VA.rfl' | exact VA.set (q := 2003) (nka (by omega))
theorem VA.waive {x : Int32} : VA σ (g_waive σ x B) := by
  unfold g_waive
  (repeat' split) <;> first | exact VA.rfl' | (unfold g_useWaiver; exact (VA.set (q := 2005) (nka (by omega))).trans (VA.set (q := 2000) (nka (by omega))))
theorem VA.packs {x y : Int32} : VA σ (g_packs σ x y C rg) := by
  unfold g_packs
  (repeat' split) <;> first | exact VA.rfl' | exact VA.rows (fun q hq => fr_packM (by omega))
theorem VA.channel {x y z : Int32} : VA σ (g_channel σ x y z C rg) := by
  unfold g_channel
  (repeat' split) <;> first | exact VA.rfl' | exact VA.rows (fun q hq => fr_packM (by omega))
theorem VA.clear {x : Int32} : VA σ (g_clear σ x C rg) := by
  unfold g_clear
  (repeat' split) <;> first | exact VA.rfl' | exact VA.rows (fun q hq => fr_cheapest (by omega))
theorem VA.anew {x y z v : Int32} (hK60 : K ≤ 60) : VA σ (g_anew σ x y z v R B K) := by
  unfold g_anew
  (repeat' split) <;> first | exact VA.rfl' | exact VA.rows (fun q hq => fr_runLog hK60 (by omega))
theorem VA.isSound (hK60 : K ≤ 60) : VA σ (g_isSound σ R B w K) := VA.rows (fun q hq => fr_runLog hK60 (by omega))
theorem VA.digest (hK60 : K ≤ 60) : VA σ (g_digest σ K B R C w rg) := by
  unfold g_digest g_dgS
  split
  · exact ((VA.rows (fun q hq => fr_cheapest (by omega))).trans (VA.rows (fun q hq => fr_cheapest (by omega)))).trans (VA.isSound hK60)
  · exact VA.isSound hK60
theorem VA.find : VA σ (g_find σ) := VA.rows (fun q hq => fr_find (by omega))
theorem VA.addM {i : Nat} {x y : Int32} (hi : i < 6) (hg : ∀ i, i < 6 → gr i < 4) (hc : cnt i ≤ 6) : VA σ (g_addM σ i x y R B gr cnt) := VA.rows (fun q hq => fr_addM ⟨hi, by omega, hg⟩ hc)
theorem VA.offer {x y z : Int32} (hB6 : B ≤ 6) (hg : ∀ i, i < 6 → gr i < 4) (hc : ∀ i, i < 6 → cnt i ≤ 6) : VA σ (g_offer σ x y z R B gr cnt) := by
  unfold g_offer
  split
  · rename_i hx
    have hx6 : cn x < 6 := by have := hx.2; omega
    split
    · exact VA.rfl'
    · split
      · split
        · split
          · exact VA.rfl'
          · split
            · exact VA.rfl'
            · exact (VA.addM hx6 hg (hc _ hx6)).trans VA.find
        · exact VA.rfl'
      · exact VA.rfl'
  · exact VA.rfl'
theorem VA.give (hR5 : R ≤ 5) : VA σ (g_give σ R sp) := VA.rows (fun q hq => fr_give hR5 ⟨by omega, by omega⟩)
theorem VA.settle {x : Int32} (hR5 : R ≤ 5) : VA σ (g_settle σ x R sp) := by
  unfold g_settle
  (repeat' split) <;> first | exact VA.rfl' | exact ((VA.set (fun k => by unfold ka at k; omega)).trans (VA.set (fun k => by unfold ka at k; omega))).trans (VA.give hR5)
theorem VA.leaveOut {i : Nat} : VA σ (g_leaveOut σ i) := VA.rows (fun q hq => fr_leaveOut (by omega))
theorem VA.fail {x : Int32} (hR5 : R ≤ 5) : VA σ (g_fail σ x R B sp) := by
  unfold g_fail
  (repeat' split) <;> first | exact VA.rfl' | exact (((VA.set (fun k => by unfold ka at k; omega)).trans VA.leaveOut).trans VA.find).trans (VA.give hR5)
theorem VA.endClock {s : XS9} (hJ : JC s) (hB6 : B ≤ 6) (hg : ∀ i, i < 6 → gr i < 4) : VA s (g_endClock s R B K gr) := by
  have hx : XCT (u2 s 1000 7 2) := fun i hi => by
    rw [u2_ne (by omega)]
    exact hJ.hct i hi
  have H := endClock_loop (σ := s) (R := R) (K := K) hB6 hg (s0 := u2 s 1000 7 2) hx
  unfold g_endClock
  exact ((VA.set (fun k => by unfold ka at k; omega)).trans (VA.rows fun q hq => H.2 q (by omega))).trans VA.find
theorem VA.close (hJ : JC σ) (hK : KB σ) {x : Int32} (hR5 : R ≤ 5) (hB6 : B ≤ 6) (hg : ∀ i, i < 6 → gr i < 4) : VA σ (g_close σ x R B gr) := by
  unfold g_close
  split
  · split
    · have go : (JC (x_close_14 σ x R B gr σ) ∧ KB (x_close_14 σ x R B gr σ)) ∧ VA σ (x_close_14 σ x R B gr σ) := by
        unfold x_close_14
        refine xitB_all (fun s => (JC s ∧ KB s) ∧ VA σ s) (N := cn x) (fun i s s' hi hP => ?_) (cn x) 0 _ (Nat.zero_add _) ⟨⟨hJ, hK⟩, VA.rfl'⟩
        have h60 := hP.1.1.hK.2
        have C1 : JC (g_closeRound s 2000 (s 1000 8) B R (cn (s 2000 9))) ∧ KB (g_closeRound s 2000 (s 1000 8) B R (cn (s 2000 9))) := ⟨hP.1.1.closeRound, hP.1.2.closeRound hP.1.2.2.2.2.2.2 hR5 hB6 h60⟩
        have C2 : VA σ (g_closeRound s 2000 (s 1000 8) B R (cn (s 2000 9))) := hP.2.trans (VA.rows fun q hq => fr_closeRound (by omega))
        (try dsimp only)
        split
        · split
          · intro e
            rcases e with e | e
            · rw [← Sum.inl.inj e]
              exact ⟨C1, C2⟩
            · cases e
          · intro e
            rcases e with e | e
            · rw [← Sum.inl.inj e]
              exact ⟨JK.endClock C1.1 C1.2 hB6 (by omega) hg, C2.trans (VA.endClock C1.1 hB6 hg)⟩
            · cases e
        · intro e
          rcases e with e | e
          · cases e
          · rw [← Sum.inr.inj e]
            exact hP
      exact go.2
    · exact VA.rfl'
  · exact VA.rfl'
/-! the reference's -/
def kb (q i : Nat) : Prop := (5010 ≤ q ∧ q ≤ 5014) ∨ q = 5004 ∨ (5020 ≤ q ∧ q ≤ 5025 ∧ i < 4) ∨ (q = 5000 ∧ (i = 2 ∨ i = 3 ∨ i = 6)) ∨ (q = 5001 ∧ i = 900)
def MA (τ τ2 : XS9) : Prop := ∀ q i, kb q i → τ2 q i = τ q i
theorem MA.rfl' : MA τ τ := fun _ _ _ => rfl
theorem MA.trans {τ τ2 τ3 : XS9} (a : MA τ τ2) (b : MA τ2 τ3) : MA τ τ3 := fun q i h => (b q i h).trans (a q i h)
theorem MA.set {q i : Nat} {x : Int32} (hq : ¬ kb q i) : MA τ (u2 τ q i x) := fun q9 i9 hk => u2_o (fun a b => hq (by rw [← a, ← b]; exact hk))
theorem nkb {i : Nat} (h : i ≠ 2 ∧ i ≠ 3 ∧ i ≠ 6) : ¬ kb 5000 i := fun k => by unfold kb at k; omega
theorem MA.s0 {x : Int32} : MA τ (u2 τ 5000 0 x) := MA.set (nkb (by decide))
theorem MA.s00 {x : Int32} : MA τ (u2 (u2 τ 5000 0 0) 5000 0 x) := MA.s0.trans MA.s0
theorem MA.hi {τ2 : XS9} (e : ∀ q, q < 7000 → τ2 q = τ q) : MA τ τ2 := fun q i hk => by rw [e q (by unfold kb at hk; omega)]
theorem MA.step {x : Int32} : MA τ (g_Mstep τ x) := by
  unfold g_Mstep
  (repeat' split) <;> first | exact MA.s00 | exact MA.s0.trans (MA.set (nkb (by decide)))
theorem MA.opn : MA τ (g_Mopen τ R B) := by
  unfold g_Mopen
  (repeat' split) <;> first | exact MA.s00 | exact MA.trans (τ2 := u2 (u2 τ 5000 0 0) 5000 1 1) (MA.s0.trans (MA.set (nkb (by decide)))) (MA.hi fun q hq => by rw [u2_ne (by omega), fr_Kinit (by omega)])
theorem MA.wish {x y v : Int32} : MA τ (g_Mwish τ x y v R B g) := by
  unfold g_Mwish
  (repeat' split) <;> first | exact MA.s00 | exact MA.s0.trans (MA.set (fun k => by unfold kb at k; omega))
theorem MA.waive {x : Int32} : MA τ (g_Mwaive τ x B g w) := by
  unfold g_Mwaive
  (repeat' split) <;> first | exact MA.s00 | exact (MA.s0.trans (MA.set (fun k => by unfold kb at k; omega))).trans (MA.set (fun k => by unfold kb at k; omega))
theorem MA.madd {j p : Nat} {c a : Int32} : MA τ (g_Madd τ j p c a) := by
  unfold g_Madd g_addI
  exact (((MA.set (fun k => by unfold kb at k; omega)).trans (MA.set (fun k => by unfold kb at k; omega))).trans (MA.set (fun k => by unfold kb at k; omega))).trans (MA.set (fun k => by unfold kb at k; omega))
theorem MA.offer {x y v : Int32} : MA τ (g_Moffer τ x y v R B pk) := by
  unfold g_Moffer
  (repeat' split) <;> first | exact MA.s00 | exact MA.s0.trans MA.madd
theorem MA.cinit : MA τ (u2 (g_Cinit τ R B pk gr cd) 9000 20 0) := MA.hi fun q hq => by rw [u2_ne (by omega), fr_Cinit (by omega)]
theorem MA.cpay {y : Nat} (hB6 : B ≤ 6) : MA τ (u2 (u2 (g_Cpay (g_Cinit τ R B pk gr cd) y 20000 B) 9000 20 0) 20000 20 0) := MA.hi fun q hq => by rw [u2_ne (by omega), u2_ne (by omega), fr_Cpay ⟨by omega, hB6⟩, fr_Cinit (by omega)]
theorem MA.keep {wy : Nat} (hB6 : B ≤ 6) : MA τ (g_Mkeep τ R B pk gr cd wy sp) := fun q i hk => by rw [fr_Mkeep ⟨by unfold kb at hk; omega, by unfold kb at hk; omega, by unfold kb at hk; omega, hB6⟩]
theorem MA.settle {x : Int32} (hB6 : B ≤ 6) : MA τ (g_Msettle τ x R B pk gr cd sp) := by
  unfold g_Msettle
  (repeat' split) <;> first | exact MA.s00 | exact ((MA.s0.trans (MA.set (nkb (by decide)))).trans (MA.set (nkb (by decide)))).trans (MA.keep hB6)
theorem MA.fail {x : Int32} {wy : Nat} (hB6 : B ≤ 6) : MA τ (g_Mfail τ x R B pk gr cd wy sp) := by
  unfold g_Mfail
  (repeat' split) <;> first | exact MA.s00 | exact ((MA.s0.trans (MA.set (nkb (by decide)))).trans (MA.set (fun k => by unfold kb at k; omega))).trans (MA.keep hB6)
theorem MA.packs {x y : Int32} : MA τ (g_Mpacks τ x y R C rg) := by
  unfold g_Mpacks
  split
  · split
    · rename_i hy
      have hc := cn6 hy
      exact MA.s0.trans (MA.hi fun q hq => by rw [u2_ne (by omega), fr_Mcp ⟨by omega, hc⟩, uR_ne (by omega)])
    · exact MA.s0
  · exact MA.s0
theorem MA.clear {x : Int32} : MA τ (g_Mclear τ x R C rg) := by
  unfold g_Mclear
  split
  · rename_i hy
    exact MA.s0.trans (MA.hi fun q hq => fr_MclearNow ⟨by omega, cn6 hy⟩)
  · exact MA.s00
theorem MA.channel {x y v : Int32} : MA τ (g_Mchannel τ x y v R C rg) := by
  rcases chan_mem (τ := τ) (x := x) (y := y) (v := v) (R := R) (C := C) (rg := rg) with ⟨t, e⟩ | ⟨e1, e2⟩
  · rw [e]
    exact MA.s00
  · exact MA.s0.trans (MA.hi fun q hq => e1 q (by omega))
theorem MA.clo (r : JR τ) (h : JS τ) (hs : τ 5000 1 = 1) : MA τ (g_clo τ) := by
  obtain ⟨a, b, c, d, f, g9⟩ := h.1 hs
  have hK : mK τ < 60 := by omega
  have hg : mg τ < 199 := by omega
  have hw : mw τ < 199 := by omega
  have fr : MA τ (g_clo1 τ (mR τ) (mB τ) (mK τ) (mg τ) (mw τ) (mn τ)) := fun q i hk => by rw [fr_clo1 hg hw g9 hK (by unfold kb at hk; omega)]
  show MA τ (g_McloseOne τ (mR τ) (mB τ) (mK τ) (mg τ) (mw τ) (mn τ) (mpk τ))
  unfold g_McloseOne
  split
  · exact fr
  · unfold x_McloseOne_122
    refine xit_inv (fun s : XS9 => MA τ s) (N := mB τ) (fun i s hi hP => ?_) (mB τ) 0 _ (Nat.zero_add _) (fr.trans (MA.set (nkb (by decide))))
    (try dsimp only)
    split
    · exact hP
    · exact hP.trans MA.madd
theorem MA.close {x : Int32} (r : JR τ) (h : JS τ) (p : JP τ) : MA τ (g_Mclose τ x) := by
  unfold g_Mclose
  split
  · split
    · unfold x_Mclose_37
      have go := xitB_all (step := fun i37 (s37 : XS9) => (if (s37 5000 1) = 1 then .inl (g_clo s37) else .inr s37)) (fun s : XS9 => (JR s ∧ JS s ∧ JP s) ∧ MA τ s) (N := cn x) (fun i s s' hi hP => by
        (try dsimp only)
        split
        · rename_i hs
          intro e
          rcases e with e | e
          · rw [← Sum.inl.inj e]
            exact ⟨(clo_all hP.1.1 hP.1.2.1 hP.1.2.2 hs).1, hP.2.trans (MA.clo hP.1.1 hP.1.2.1 hs)⟩
          · cases e
        · intro e
          rcases e with e | e
          · cases e
          · rw [← Sum.inr.inj e]
            exact hP) (cn x) 0 (u2 τ 5000 0 0) (Nat.zero_add _) ⟨⟨r.s0, h.s0 r, p.s0⟩, MA.s0⟩
      exact go.2
    · exact MA.s00
  · exact MA.s00
end
def RA (τ σ : XS9) : Prop := (σ 1000 11 = τ 5000 6 ∧ σ 1001 10 = τ 5000 2 ∧ σ 1001 11 = τ 5000 3) ∧ (∀ r, r < 5 → σ 1010 r = τ (5010 + r) 0 ∧ σ 1011 r = τ (5010 + r) 1 ∧ σ 1012 r = τ (5010 + r) 2 ∧ σ 1013 r = τ (5010 + r) 3) ∧ (∀ j, j < 6 → σ 1014 j = τ (5020 + j) 0 ∧ σ 1015 j = τ (5020 + j) 1 ∧ σ 1016 j = τ (5020 + j) 2 ∧ σ 1017 j = τ (5020 + j) 3) ∧ σ 1006 1 = nI (mC τ) ∧ (∀ k, k < 10 → σ 1150 k = τ 5004 (2 * k + 1) ∧ σ 1151 k = τ 5004 (2 * k)) ∧ ∀ r, cn (τ 5001 900) ≤ r → r < 5 → τ (5010 + r) 3 = 0
section
variable {σ τ τ2 σ2 : XS9}
theorem RA.kept (h : RA τ σ) (m : MA τ τ2) (c : VA σ σ2) : RA τ2 σ2 := by
  obtain ⟨⟨a1, a2, a3⟩, a4, a5, a6, a7, a8⟩ := h
  have C : ∀ q i, ka q i → σ2 q i = σ q i := c
  have M : ∀ q i, kb q i → τ2 q i = τ q i := m
  refine ⟨⟨?_, ?_, ?_⟩, fun r hr => ?_, fun j hj => ?_, ?_, fun k hk => ?_, fun r h1 h2 => ?_⟩
  · rw [C _ _ (by unfold ka; omega), M _ _ (by unfold kb; omega)]; exact a1
  · rw [C _ _ (by unfold ka; omega), M _ _ (by unfold kb; omega)]; exact a2
  · rw [C _ _ (by unfold ka; omega), M _ _ (by unfold kb; omega)]; exact a3
  · rw [C 1010 r (by unfold ka; omega), C 1011 r (by unfold ka; omega), C 1012 r (by unfold ka; omega), C 1013 r (by unfold ka; omega), M _ _ (by unfold kb; omega), M _ _ (by unfold kb; omega), M _ _ (by unfold kb; omega), M _ _ (by unfold kb; omega)]
    exact a4 r hr
  · rw [C 1014 j (by unfold ka; omega), C 1015 j (by unfold ka; omega), C 1016 j (by unfold ka; omega), C 1017 j (by unfold ka; omega), M _ _ (by unfold kb; omega), M _ _ (by unfold kb; omega), M _ _ (by unfold kb; omega), M _ _ (by unfold kb; omega)]
    exact a5 j hj
  · rw [C _ _ (by unfold ka; omega), a6]
    show nI (cn (τ 5004 900) / 2) = nI (cn (τ2 5004 900) / 2)
    rw [M _ _ (by unfold kb; omega)]
  · rw [C 1150 k (by unfold ka; omega), C 1151 k (by unfold ka; omega), M _ _ (by unfold kb; omega), M _ _ (by unfold kb; omega)]
    exact a7 k hk
  · rw [M _ _ (by unfold kb; omega)] at h1
    rw [M _ _ (by unfold kb; omega)]
    exact a8 r h1 h2
theorem s0M_50 {q i : Nat} (h : q ≠ 5000) : s0M q i = 0 := if_neg h
theorem RA.init : RA s0M s0C := by
  refine ⟨⟨rfl, rfl, rfl⟩, fun r hr => ?_, fun j hj => ?_, rfl, fun k hk => ?_, fun r _ hr => s0M_50 (by omega)⟩
  · rw [s0M_50 (by omega), s0M_50 (by omega), s0M_50 (by omega), s0M_50 (by omega)]
    exact ⟨rfl, rfl, rfl, rfl⟩
  · rw [s0M_50 (by omega), s0M_50 (by omega), s0M_50 (by omega), s0M_50 (by omega)]
    exact ⟨rfl, rfl, rfl, rfl⟩
  · rw [s0M_50 (by omega), s0M_50 (by omega)]
    exact ⟨rfl, rfl⟩
theorem RA.s00 (h : RA τ σ) {x : Int32} : RA (u2 (u2 τ 5000 0 0) 5000 0 x) σ := h.kept MA.s00 VA.rfl'
theorem nI5 {R : Nat} (hR5 : R ≤ 5) : nI R < 5 ↔ ¬ nI R = 5 := by
  refine (nI_ltI (a := R) (b := 5) (by omega) (by omega)).trans ⟨fun h e => ?_, fun h => ?_⟩
  · have := congrArg cn e
    rw [cn_nI (by omega)] at this
    have e5 : cn (5 : Int32) = 5 := rfl
    omega
  · have : R ≠ 5 := fun e => h (by rw [e]; rfl)
    omega
theorem nI6 {B : Nat} (hB6 : B ≤ 6) : nI B < 6 ↔ ¬ nI B = 6 := by
  refine (nI_ltI (a := B) (b := 6) (by omega) (by omega)).trans ⟨fun h e => ?_, fun h => ?_⟩
  · have := congrArg cn e
    rw [cn_nI (by omega)] at this
    have e5 : cn (6 : Int32) = 6 := rfl
    omega
  · have : B ≠ 6 := fun e => h (by rw [e]; rfl)
    omega
theorem beg {σ : XS9} {q : Nat} (h : q < 2000) : g_begin σ 2000 q = σ q := fr_begin (by omega)
theorem RA.region {x y v : Int32} {R : Nat} (h : RA τ σ) (q2 : σ 1000 7 = 0 ↔ τ 5000 1 = 0) (hR5 : R ≤ 5) (eR : cn (τ 5001 900) = R) : RA (g_Mregion τ x y v R) (g_region σ x y v R) := by
  unfold g_Mregion g_region
  by_cases c1 : n_bt x 1 5
  · by_cases c2 : n_bt y 1 9
    · by_cases c3 : n_bt v 1 999
      · by_cases c4 : σ 1000 7 = 0
        · by_cases c5 : nI R < 5
          · rw [if_pos c1, if_pos c2, if_pos c3, if_pos (q2.mp c4), if_neg ((nI5 hR5).mp c5), if_pos c1, if_pos c2, if_pos c3, if_pos c4, if_pos c5]
            have hR : R < 5 := (nI_ltI (a := R) (b := 5) (by omega) (by omega)).mp c5
            obtain ⟨⟨a1, a2, a3⟩, a4, a5, a6, a7, a8⟩ := h
            unfold g_addRegion
            have cf : ∀ q, q < 2000 → q ≠ 1001 → q ≠ 1010 → q ≠ 1011 → q ≠ 1012 → g_begin (u2 (u2 (u2 (u2 σ 1010 R x) 1011 R y) 1012 R v) 1001 4 (nI (R + 1))) 2000 q = σ q := fun q h0 h1 h2 h3 h4 => by rw [beg h0, u2_ne h1, u2_ne h4, u2_ne h3, u2_ne h2]
            have mf : ∀ (fx : Nat → Int32) q, q ≠ 5000 → q ≠ 5001 → q ≠ 5010 + R → u2 (uR (u2 τ 5000 0 0) (5010 + R) fx) 5001 900 (nI (R + 1)) q = τ q := fun fx q h0 h1 h2 => by rw [u2_ne h1, uR_ne h2, u2_ne h0]
            have m0 : ∀ (fx : Nat → Int32) i, i ≠ 0 → u2 (uR (u2 τ 5000 0 0) (5010 + R) fx) 5001 900 (nI (R + 1)) 5000 i = τ 5000 i := fun fx i hi => by rw [u2_ne (by decide), uR_ne (by omega), u2_oi hi]
            have mR : ∀ fx : Nat → Int32, u2 (uR (u2 τ 5000 0 0) (5010 + R) fx) 5001 900 (nI (R + 1)) (5010 + R) = fx := fun fx => by rw [u2_ne (by omega), uR_eq]
            have c10 : ∀ i, i ≠ 4 → g_begin (u2 (u2 (u2 (u2 σ 1010 R x) 1011 R y) 1012 R v) 1001 4 (nI (R + 1))) 2000 1001 i = σ 1001 i := fun i hi => by rw [beg (by decide), u2_oi hi, u2_ne (by decide), u2_ne (by decide), u2_ne (by decide)]
            refine ⟨⟨?_, ?_, ?_⟩, fun r hr => ?_, fun j hj => ?_, ?_, fun k hk => ?_, fun r h1 h2 => ?_⟩
            · rw [cf _ (by decide) (by decide) (by decide) (by decide) (by decide), m0 _ _ (by decide)]
              exact a1
            · rw [c10 _ (by decide), m0 _ _ (by decide)]
              exact a2
            · rw [c10 _ (by decide), m0 _ _ (by decide)]
              exact a3
            · have o4 := a4 r hr
              rw [cf 1013 (by decide) (by decide) (by decide) (by decide) (by decide), beg (show 1010 < 2000 by decide), beg (show 1011 < 2000 by decide), beg (show 1012 < 2000 by decide), u2_ne (show (1010 : Nat) ≠ 1001 by decide), u2_ne (show (1011 : Nat) ≠ 1001 by decide), u2_ne (show (1012 : Nat) ≠ 1001 by decide), u2_ne (show (1010 : Nat) ≠ 1012 by decide), u2_ne (show (1011 : Nat) ≠ 1012 by decide), u2_ne (show (1010 : Nat) ≠ 1011 by decide)]
              by_cases e : r = R
              · subst e
                rw [mR, u2_at, u2_at, u2_at]
                exact ⟨rfl, rfl, rfl, o4.2.2.2.trans (a8 r (by omega) hr)⟩
              · rw [mf _ _ (by omega) (by omega) (by omega), u2_oi e, u2_oi e, u2_oi e, u2_ne (show (1011 : Nat) ≠ 1010 by decide), u2_ne (show (1012 : Nat) ≠ 1011 by decide), u2_ne (show (1012 : Nat) ≠ 1010 by decide)]
                exact o4
            · rw [cf 1014 (by decide) (by decide) (by decide) (by decide) (by decide), cf 1015 (by decide) (by decide) (by decide) (by decide) (by decide), cf 1016 (by decide) (by decide) (by decide) (by decide) (by decide), cf 1017 (by decide) (by decide) (by decide) (by decide) (by decide), mf _ _ (by omega) (by omega) (by omega)]
              exact a5 j hj
            · rw [cf _ (by decide) (by decide) (by decide) (by decide) (by decide), a6]
              show nI (cn (τ 5004 900) / 2) = nI (cn _ / 2)
              rw [mf _ _ (by omega) (by omega) (by omega)]
            · rw [cf 1150 (by decide) (by decide) (by decide) (by decide) (by decide), cf 1151 (by decide) (by decide) (by decide) (by decide) (by decide), mf _ _ (by omega) (by omega) (by omega)]
              exact a7 k hk
            · rw [u2_at, cn_nI (by omega)] at h1
              rw [mf _ _ (by omega) (by omega) (by omega)]
              exact a8 r (by omega) h2
          · rw [if_pos c1, if_pos c2, if_pos c3, if_pos (q2.mp c4), if_pos (Classical.not_not.mp (fun e => c5 ((nI5 hR5).mpr e))), if_pos c1, if_pos c2, if_pos c3, if_pos c4, if_neg c5]
            exact h.s00
        · rw [if_pos c1, if_pos c2, if_pos c3, if_neg (fun e => c4 (q2.mpr e)), if_pos c1, if_pos c2, if_pos c3, if_neg c4]
          exact h.s00
      · rw [if_pos c1, if_pos c2, if_neg c3, if_pos c1, if_pos c2, if_neg c3]
        exact h.s00
    · rw [if_pos c1, if_neg c2, if_pos c1, if_neg c2]
      exact h.s00
  · rw [if_neg c1, if_neg c1]
    exact h.s00
theorem RA.bidder {x y v u : Int32} {B : Nat} (h : RA τ σ) (q2 : σ 1000 7 = 0 ↔ τ 5000 1 = 0) (hB6 : B ≤ 6) : RA (g_Mbidder τ x y v u B) (g_bidder σ x y v u B) := by
  unfold g_Mbidder g_bidder
  by_cases c1 : n_bt x 0 99999
  · by_cases c2 : n_bt y 1 200
    · by_cases c3 : n_bt v 0 30
      · by_cases c6 : n_bt u 0 3
        · by_cases c4 : σ 1000 7 = 0
          · by_cases c5 : nI B < 6
            · rw [if_pos c1, if_pos c2, if_pos c3, if_pos c6, if_pos (q2.mp c4), if_neg ((nI6 hB6).mp c5), if_pos c1, if_pos c2, if_pos c3, if_pos c6, if_pos c4, if_pos c5]
              have hB : B < 6 := (nI_ltI (a := B) (b := 6) (by omega) (by omega)).mp c5
              obtain ⟨⟨a1, a2, a3⟩, a4, a5, a6, a7, a8⟩ := h
              unfold g_addBidder
              have cf : ∀ q, q < 2000 → q ≠ 1001 → q ≠ 1014 → q ≠ 1015 → q ≠ 1016 → q ≠ 1017 → g_begin (u2 (u2 (u2 (u2 (u2 σ 1014 B x) 1015 B y) 1016 B v) 1017 B u) 1001 9 (nI (B + 1))) 2000 q = σ q := fun q h0 h1 h2 h3 h4 h5 => by rw [beg h0, u2_ne h1, u2_ne h5, u2_ne h4, u2_ne h3, u2_ne h2]
              have mf : ∀ (fx : Nat → Int32) q, q ≠ 5000 → q ≠ 5002 → q ≠ 5020 + B → q ≠ 5030 + B → u2 (u2 (uR (u2 τ 5000 0 0) (5020 + B) fx) (5030 + B) 900 0) 5002 900 (nI (B + 1)) q = τ q := fun fx q h0 h1 h2 h3 => by rw [u2_ne h1, u2_ne h3, uR_ne h2, u2_ne h0]
              have m0 : ∀ (fx : Nat → Int32) i, i ≠ 0 → u2 (u2 (uR (u2 τ 5000 0 0) (5020 + B) fx) (5030 + B) 900 0) 5002 900 (nI (B + 1)) 5000 i = τ 5000 i := fun fx i hi => by rw [u2_ne (by decide), u2_ne (by omega), uR_ne (by omega), u2_oi hi]
              have mB : ∀ fx : Nat → Int32, u2 (u2 (uR (u2 τ 5000 0 0) (5020 + B) fx) (5030 + B) 900 0) 5002 900 (nI (B + 1)) (5020 + B) = fx := fun fx => by rw [u2_ne (by omega), u2_ne (by omega), uR_eq]
              have c10 : ∀ i, i ≠ 9 → g_begin (u2 (u2 (u2 (u2 (u2 σ 1014 B x) 1015 B y) 1016 B v) 1017 B u) 1001 9 (nI (B + 1))) 2000 1001 i = σ 1001 i := fun i hi => by rw [beg (by decide), u2_oi hi, u2_ne (by decide), u2_ne (by decide), u2_ne (by decide), u2_ne (by decide)]
              refine ⟨⟨?_, ?_, ?_⟩, fun r hr => ?_, fun j hj => ?_, ?_, fun k hk => ?_, fun r h1 h2 => ?_⟩
              · rw [cf _ (by decide) (by decide) (by decide) (by decide) (by decide) (by decide), m0 _ _ (by decide)]
                exact a1
              · rw [c10 _ (by decide), m0 _ _ (by decide)]
                exact a2
              · rw [c10 _ (by decide), m0 _ _ (by decide)]
                exact a3
              · rw [cf 1010 (by decide) (by decide) (by decide) (by decide) (by decide) (by decide), cf 1011 (by decide) (by decide) (by decide) (by decide) (by decide) (by decide), cf 1012 (by decide) (by decide) (by decide) (by decide) (by decide) (by decide), cf 1013 (by decide) (by decide) (by decide) (by decide) (by decide) (by decide), mf _ _ (by omega) (by omega) (by omega) (by omega)]
                exact a4 r hr
              · have o5 := a5 j hj
                rw [beg (show 1014 < 2000 by decide), beg (show 1015 < 2000 by decide), beg (show 1016 < 2000 by decide), beg (show 1017 < 2000 by decide), u2_ne (show (1014 : Nat) ≠ 1001 by decide), u2_ne (show (1015 : Nat) ≠ 1001 by decide), u2_ne (show (1016 : Nat) ≠ 1001 by decide), u2_ne (show (1017 : Nat) ≠ 1001 by decide), u2_ne (show (1014 : Nat) ≠ 1017 by decide), u2_ne (show (1015 : Nat) ≠ 1017 by decide), u2_ne (show (1016 : Nat) ≠ 1017 by decide), u2_ne (show (1014 : Nat) ≠ 1016 by decide), u2_ne (show (1015 : Nat) ≠ 1016 by decide), u2_ne (show (1014 : Nat) ≠ 1015 by decide)]
                by_cases e : j = B
                · subst e
                  rw [mB, u2_at, u2_at, u2_at, u2_at]
                  exact ⟨rfl, rfl, rfl, rfl⟩
                · rw [mf _ _ (by omega) (by omega) (by omega) (by omega), u2_oi e, u2_oi e, u2_oi e, u2_oi e, u2_ne (show (1015 : Nat) ≠ 1014 by decide), u2_ne (show (1016 : Nat) ≠ 1015 by decide), u2_ne (show (1016 : Nat) ≠ 1014 by decide), u2_ne (show (1017 : Nat) ≠ 1016 by decide), u2_ne (show (1017 : Nat) ≠ 1015 by decide), u2_ne (show (1017 : Nat) ≠ 1014 by decide)]
                  exact o5
              · rw [cf _ (by decide) (by decide) (by decide) (by decide) (by decide) (by decide), a6]
                show nI (cn (τ 5004 900) / 2) = nI (cn _ / 2)
                rw [mf _ _ (by omega) (by omega) (by omega) (by omega)]
              · rw [cf 1150 (by decide) (by decide) (by decide) (by decide) (by decide) (by decide), cf 1151 (by decide) (by decide) (by decide) (by decide) (by decide) (by decide), mf _ _ (by omega) (by omega) (by omega) (by omega)]
                exact a7 k hk
              · rw [mf _ _ (by omega) (by omega) (by omega) (by omega)] at h1
                rw [mf _ _ (by omega) (by omega) (by omega) (by omega)]
                exact a8 r h1 h2
            · rw [if_pos c1, if_pos c2, if_pos c3, if_pos c6, if_pos (q2.mp c4), if_pos (Classical.not_not.mp (fun e => c5 ((nI6 hB6).mpr e))), if_pos c1, if_pos c2, if_pos c3, if_pos c6, if_pos c4, if_neg c5]
              exact h.s00
          · rw [if_pos c1, if_pos c2, if_pos c3, if_pos c6, if_neg (fun e => c4 (q2.mpr e)), if_pos c1, if_pos c2, if_pos c3, if_pos c6, if_neg c4]
            exact h.s00
        · rw [if_pos c1, if_pos c2, if_pos c3, if_neg c6, if_pos c1, if_pos c2, if_pos c3, if_neg c6]
          exact h.s00
      · rw [if_pos c1, if_pos c2, if_neg c3, if_pos c1, if_pos c2, if_neg c3]
        exact h.s00
    · rw [if_pos c1, if_neg c2, if_pos c1, if_neg c2]
      exact h.s00
  · rw [if_neg c1, if_neg c1]
    exact h.s00
theorem RA.rules {x y : Int32} (h : RA τ σ) (q2 : σ 1000 7 = 0 ↔ τ 5000 1 = 0) : RA (g_Mrules τ x y) (g_rules σ x y) := by
  unfold g_Mrules g_rules
  by_cases c1 : n_bt x 1 5
  · by_cases c4 : σ 1000 7 = 0
    · rw [if_pos c1, if_pos (q2.mp c4), if_pos c1, if_pos c4]
      obtain ⟨⟨a1, a2, a3⟩, a4, a5, a6, a7, a8⟩ := h
      have cf : ∀ q, q ≠ 1001 → u2 (u2 σ 1001 10 x) 1001 11 y q = σ q := fun q hq => by rw [u2_ne hq, u2_ne hq]
      have mf : ∀ q, q ≠ 5000 → u2 (u2 (u2 τ 5000 0 0) 5000 2 x) 5000 3 y q = τ q := fun q hq => by rw [u2_ne hq, u2_ne hq, u2_ne hq]
      refine ⟨⟨?_, ?_, ?_⟩, fun r hr => ?_, fun j hj => ?_, ?_, fun k hk => ?_, fun r h1 h2 => ?_⟩
      · rw [cf _ (by decide), u2_oi (by decide), u2_oi (by decide), u2_oi (by decide)]
        exact a1
      · rw [u2_oi (by decide), u2_at, u2_oi (by decide), u2_at]
      · rw [u2_at, u2_at]
      · rw [cf _ (by decide), cf _ (by decide), cf _ (by decide), cf _ (by decide), mf _ (by omega)]
        exact a4 r hr
      · rw [cf _ (by decide), cf _ (by decide), cf _ (by decide), cf _ (by decide), mf _ (by omega)]
        exact a5 j hj
      · rw [cf _ (by decide), a6]
        show nI (cn (τ 5004 900) / 2) = nI (cn _ / 2)
        rw [mf _ (by omega)]
      · rw [cf _ (by decide), cf _ (by decide), mf _ (by omega)]
        exact a7 k hk
      · rw [mf _ (by omega)] at h1
        rw [mf _ (by omega)]
        exact a8 r h1 h2
    · rw [if_pos c1, if_neg (fun e => c4 (q2.mpr e)), if_pos c1, if_neg c4]
      exact h.s00
  · rw [if_neg c1, if_neg c1]
    exact h.s00
theorem RA.knock (h : RA τ σ) : RA (g_Mknock τ) (g_knock σ) := by
  unfold g_Mknock g_knock
  obtain ⟨⟨a1, a2, a3⟩, a4, a5, a6, a7, a8⟩ := h
  have cf : ∀ q, q ≠ 1000 → u2 σ 1000 11 (σ 1000 11 + 1) q = σ q := fun q hq => u2_ne hq
  have mf : ∀ q, q ≠ 5000 → u2 (u2 τ 5000 0 0) 5000 6 (τ 5000 6 + 1) q = τ q := fun q hq => by rw [u2_ne hq, u2_ne hq]
  refine ⟨⟨?_, ?_, ?_⟩, fun r hr => ?_, fun j hj => ?_, ?_, fun k hk => ?_, fun r h1 h2 => ?_⟩
  · rw [u2_at, u2_at, a1]
  · rw [cf _ (by decide), u2_oi (by decide), u2_oi (by decide)]
    exact a2
  · rw [cf _ (by decide), u2_oi (by decide), u2_oi (by decide)]
    exact a3
  · rw [cf _ (by decide), cf _ (by decide), cf _ (by decide), cf _ (by decide), mf _ (by omega)]
    exact a4 r hr
  · rw [cf _ (by decide), cf _ (by decide), cf _ (by decide), cf _ (by decide), mf _ (by omega)]
    exact a5 j hj
  · rw [cf _ (by decide), a6]
    show nI (cn (τ 5004 900) / 2) = nI (cn _ / 2)
    rw [mf _ (by omega)]
  · rw [cf _ (by decide), cf _ (by decide), mf _ (by omega)]
    exact a7 k hk
  · rw [mf _ (by omega)] at h1
    rw [mf _ (by omega)]
    exact a8 r h1 h2
theorem RA.border {x y : Int32} {R : Nat} (h : RA τ σ) (q2 : σ 1000 7 = 0 ↔ τ 5000 1 = 0) (hR5 : R ≤ 5) (eR : cn (τ 5001 900) = R) : RA (g_Mborder τ x y R) (g_border σ x y R) := by
  unfold g_Mborder g_border
  by_cases c1 : n_lt x R
  · by_cases c2 : n_lt y R
    · by_cases c3 : nI (cn x) = nI (cn y)
      · rw [if_pos c1, if_pos c2, if_pos c3, if_pos c1, if_pos c2, if_pos c3]
        exact h.s00
      · by_cases c4 : σ 1000 7 = 0
        · rw [if_pos c1, if_pos c2, if_neg c3, if_pos (q2.mp c4), if_pos c1, if_pos c2, if_neg c3, if_pos c4]
          obtain ⟨⟨a1, a2, a3⟩, a4, a5, a6, a7, a8⟩ := h
          have hx := c1.2
          have hy := c2.2
          have hxy : cn y ≠ cn x := fun e => c3 (by rw [e])
          unfold g_addBorder
          rw [u2_oi hxy, u2_ne (show 5010 + cn y ≠ 5010 + cn x by omega), u2_ne (show 5010 + cn y ≠ 5000 by omega), (a4 _ (by omega)).2.2.2, (a4 (cn y) (by omega)).2.2.2]
          generalize τ (5010 + cn x) 3 ||| 1 <<< (nI (cn y) &&& 31) = A
          generalize τ (5010 + cn y) 3 ||| 1 <<< (nI (cn x) &&& 31) = A2
          have cf : ∀ q, q ≠ 1013 → u2 (u2 σ 1013 (cn x) A) 1013 (cn y) A2 q = σ q := fun q hq => by rw [u2_ne hq, u2_ne hq]
          have mf : ∀ q, q ≠ 5000 → q ≠ 5010 + cn x → q ≠ 5010 + cn y → u2 (u2 (u2 τ 5000 0 0) (5010 + cn x) 3 A) (5010 + cn y) 3 A2 q = τ q := fun q h0 h1 h2 => by rw [u2_ne h2, u2_ne h1, u2_ne h0]
          have m0 : ∀ q i, i ≠ 3 → i ≠ 0 ∨ q ≠ 5000 → u2 (u2 (u2 τ 5000 0 0) (5010 + cn x) 3 A) (5010 + cn y) 3 A2 q i = τ q i := fun q i h0 h1 => by rw [u2_o (fun _ b => h0 b), u2_o (fun _ b => h0 b), u2_o (fun a b => by omega)]
          refine ⟨⟨?_, ?_, ?_⟩, fun r hr => ?_, fun j hj => ?_, ?_, fun k hk => ?_, fun r h1 h2 => ?_⟩
          · rw [cf _ (by decide), m0 _ _ (by decide) (by decide)]
            exact a1
          · rw [cf _ (by decide), m0 _ _ (by decide) (by decide)]
            exact a2
          · rw [cf _ (by decide), u2_ne (by omega), u2_ne (by omega), u2_oi (by decide)]
            exact a3
          · have o4 := a4 r hr
            rw [cf _ (by decide), cf _ (by decide), cf _ (by decide), m0 _ 0 (by decide) (by omega), m0 _ 1 (by decide) (by omega), m0 _ 2 (by decide) (by omega)]
            refine ⟨o4.1, o4.2.1, o4.2.2.1, ?_⟩
            by_cases e1 : r = cn y
            · rw [e1, u2_at, u2_at]
            · rw [u2_oi e1, u2_ne (show 5010 + r ≠ 5010 + cn y by omega)]
              by_cases e2 : r = cn x
              · rw [e2, u2_at, u2_at]
              · rw [u2_oi e2, u2_ne (show 5010 + r ≠ 5010 + cn x by omega), u2_ne (show 5010 + r ≠ 5000 by omega)]
                exact o4.2.2.2
          · rw [cf _ (by decide), cf _ (by decide), cf _ (by decide), cf _ (by decide), mf _ (by omega) (by omega) (by omega)]
            exact a5 j hj
          · rw [cf _ (by decide), a6]
            show nI (cn (τ 5004 900) / 2) = nI (cn _ / 2)
            rw [mf _ (by omega) (by omega) (by omega)]
          · rw [cf _ (by decide), cf _ (by decide), mf _ (by omega) (by omega) (by omega)]
            exact a7 k hk
          · rw [mf _ (by omega) (by omega) (by omega)] at h1
            rw [mf _ (by omega) (by omega) (by omega)]
            exact a8 r h1 h2
        · rw [if_pos c1, if_pos c2, if_neg c3, if_neg (fun e => c4 (q2.mpr e)), if_pos c1, if_pos c2, if_neg c3, if_neg c4]
          exact h.s00
    · rw [if_pos c1, if_neg c2, if_pos c1, if_neg c2]
      exact h.s00
  · rw [if_neg c1, if_neg c1]
    exact h.s00
theorem RA.eC (h : RA τ σ) (hS : mC τ ≤ 10) : aC σ = mC τ := by
  show cn (σ 1006 1) = mC τ
  rw [h.2.2.2.1, cn_nI (by omega)]
theorem RA.station {x y : Int32} {R C : Nat} (h : RA τ σ) (hC : C ≤ 10) (eC : mC τ = C) : RA (g_Mstation τ x y R C) (g_station σ x y R C) := by
  unfold g_Mstation g_station
  by_cases c1 : n_lt x R
  · by_cases c2 : n_bt y 1 9999
    · by_cases c3 : nI C < 10
      · have hC9 : C < 10 := (nI_ltI (a := C) (b := 10) (by omega) (by omega)).mp c3
        have c4 : ¬ nI (2 * C) = 20 := fun e => by
          have := congrArg cn e
          rw [cn_nI (by omega)] at this
          have e5 : cn (20 : Int32) = 20 := rfl
          omega
        rw [if_pos c1, if_pos c2, if_neg c4, if_pos c1, if_pos c2, if_pos c3]
        obtain ⟨⟨a1, a2, a3⟩, a4, a5, a6, a7, a8⟩ := h
        unfold g_add g_addI
        have cf : ∀ q, q ≠ 1006 → q ≠ 1150 → q ≠ 1151 → u2 (u2 (u2 σ 1151 C (nI (cn x))) 1150 C y) 1006 1 (nI (C + 1)) q = σ q := fun q h0 h1 h2 => by rw [u2_ne h0, u2_ne h1, u2_ne h2]
        have mf : ∀ q, q ≠ 5000 → q ≠ 5004 → u2 (u2 (u2 (u2 (u2 τ 5000 0 0) 5004 (2 * C) (nI (cn x))) 5004 900 (nI (2 * C + 1))) 5004 (2 * C + 1) y) 5004 900 (nI (2 * C + 1 + 1)) q = τ q := fun q h0 h1 => by rw [u2_ne h1, u2_ne h1, u2_ne h1, u2_ne h1, u2_ne h0]
        have m0 : ∀ i, i ≠ 0 → u2 (u2 (u2 (u2 (u2 τ 5000 0 0) 5004 (2 * C) (nI (cn x))) 5004 900 (nI (2 * C + 1))) 5004 (2 * C + 1) y) 5004 900 (nI (2 * C + 1 + 1)) 5000 i = τ 5000 i := fun i hi => by rw [u2_ne (by decide), u2_ne (by decide), u2_ne (by decide), u2_ne (by decide), u2_oi hi]
        refine ⟨⟨?_, ?_, ?_⟩, fun r hr => ?_, fun j hj => ?_, ?_, fun k hk => ?_, fun r h1 h2 => ?_⟩
        · rw [cf _ (by decide) (by decide) (by decide), m0 _ (by decide)]
          exact a1
        · rw [cf _ (by decide) (by decide) (by decide), m0 _ (by decide)]
          exact a2
        · rw [cf _ (by decide) (by decide) (by decide), m0 _ (by decide)]
          exact a3
        · rw [cf _ (by decide) (by decide) (by decide), cf _ (by decide) (by decide) (by decide), cf _ (by decide) (by decide) (by decide), cf _ (by decide) (by decide) (by decide), mf _ (by omega) (by omega)]
          exact a4 r hr
        · rw [cf _ (by decide) (by decide) (by decide), cf _ (by decide) (by decide) (by decide), cf _ (by decide) (by decide) (by decide), cf _ (by decide) (by decide) (by decide), mf _ (by omega) (by omega)]
          exact a5 j hj
        · rw [u2_at]
          show nI (C + 1) = nI (cn _ / 2)
          rw [u2_at, cn_nI (by omega), show (2 * C + 1 + 1) / 2 = C + 1 by omega]
        · rw [u2_ne (show (1150 : Nat) ≠ 1006 by decide), u2_ne (show (1151 : Nat) ≠ 1006 by decide), u2_ne (show (1151 : Nat) ≠ 1150 by decide)]
          by_cases e : k = C
          · rw [e, u2_at, u2_at, u2_oi (show 2 * C + 1 ≠ 900 by omega), u2_at, u2_oi (show 2 * C ≠ 900 by omega), u2_oi (show 2 * C ≠ 2 * C + 1 by omega), u2_oi (show 2 * C ≠ 900 by omega), u2_at]
            exact ⟨rfl, rfl⟩
          · rw [u2_oi e, u2_oi e, u2_ne (show (1150 : Nat) ≠ 1151 by decide), u2_oi (show 2 * k + 1 ≠ 900 by omega), u2_oi (show 2 * k + 1 ≠ 2 * C + 1 by omega), u2_oi (show 2 * k + 1 ≠ 900 by omega), u2_oi (show 2 * k + 1 ≠ 2 * C by omega), u2_oi (show 2 * k ≠ 900 by omega), u2_oi (show 2 * k ≠ 2 * C + 1 by omega), u2_oi (show 2 * k ≠ 900 by omega), u2_oi (show 2 * k ≠ 2 * C by omega), u2_ne (show (5004 : Nat) ≠ 5000 by decide)]
            exact a7 k hk
        · rw [mf _ (by omega) (by omega)] at h1
          rw [mf _ (by omega) (by omega)]
          exact a8 r h1 h2
      · have c4 : nI (2 * C) = 20 := by
          have : ¬ C < 10 := fun q => c3 ((nI_ltI (a := C) (b := 10) (by omega) (by omega)).mpr q)
          rw [show C = 10 by omega]
          rfl
        rw [if_pos c1, if_pos c2, if_pos c4, if_pos c1, if_pos c2, if_neg c3]
        exact h.s00
    · rw [if_pos c1, if_neg c2, if_pos c1, if_neg c2]
      exact h.s00
  · rw [if_neg c1, if_neg c1]
    exact h.s00
theorem RA.ask {x y : Int32} {C : Nat} (h : RA τ σ) (hC : C ≤ 10) : RA (g_Mask τ x y C) (g_ask σ x y C) := by
  unfold g_Mask g_ask
  by_cases c1 : n_lt x C
  · have c0 := (sub1_lt (x := x) (R := C) (by omega)).mpr c1
    by_cases c2 : n_bt y 1 9999
    · rw [if_pos c0, if_pos c2, if_pos c1, if_pos c2]
      obtain ⟨⟨a1, a2, a3⟩, a4, a5, a6, a7, a8⟩ := h
      have hx := c1.2
      unfold g_setS
      generalize (if u2 τ 5000 0 0 5004 (100 + (2 * cn x + 1)) = 0 then (1 : Int32) else 0) = F
      have cf : ∀ q, q ≠ 1150 → u2 σ 1150 (cn x) y q = σ q := fun q h1 => u2_ne h1
      have mf : ∀ q, q ≠ 5000 → q ≠ 5004 → u2 (u2 (u2 τ 5000 0 0) 5004 (2 * cn x + 1) y) 5004 (100 + (2 * cn x + 1)) F q = τ q := fun q h0 h1 => by rw [u2_ne h1, u2_ne h1, u2_ne h0]
      have m0 : ∀ i, i ≠ 0 → u2 (u2 (u2 τ 5000 0 0) 5004 (2 * cn x + 1) y) 5004 (100 + (2 * cn x + 1)) F 5000 i = τ 5000 i := fun i hi => by rw [u2_ne (by decide), u2_ne (by decide), u2_oi hi]
      refine ⟨⟨?_, ?_, ?_⟩, fun r hr => ?_, fun j hj => ?_, ?_, fun k hk => ?_, fun r h1 h2 => ?_⟩
      · rw [cf _ (by decide), m0 _ (by decide)]
        exact a1
      · rw [cf _ (by decide), m0 _ (by decide)]
        exact a2
      · rw [cf _ (by decide), m0 _ (by decide)]
        exact a3
      · rw [cf _ (by decide), cf _ (by decide), cf _ (by decide), cf _ (by decide), mf _ (by omega) (by omega)]
        exact a4 r hr
      · rw [cf _ (by decide), cf _ (by decide), cf _ (by decide), cf _ (by decide), mf _ (by omega) (by omega)]
        exact a5 j hj
      · rw [cf _ (by decide), a6]
        show nI (cn (τ 5004 900) / 2) = nI (cn _ / 2)
        rw [u2_oi (show (900 : Nat) ≠ 100 + (2 * cn x + 1) by omega), u2_oi (show (900 : Nat) ≠ 2 * cn x + 1 by omega), u2_ne (by decide)]
      · rw [cf 1151 (by decide), u2_oi (show 2 * k + 1 ≠ 100 + (2 * cn x + 1) by omega), u2_oi (show 2 * k ≠ 100 + (2 * cn x + 1) by omega), u2_oi (show 2 * k ≠ 2 * cn x + 1 by omega), u2_ne (show (5004 : Nat) ≠ 5000 by decide)]
        refine ⟨?_, (a7 k hk).2⟩
        by_cases e : k = cn x
        · rw [e, u2_at, u2_at]
        · rw [u2_oi e, u2_oi (show 2 * k + 1 ≠ 2 * cn x + 1 by omega), u2_ne (show (5004 : Nat) ≠ 5000 by decide)]
          exact (a7 k hk).1
      · rw [mf _ (by omega) (by omega)] at h1
        rw [mf _ (by omega) (by omega)]
        exact a8 r h1 h2
    · rw [if_pos c0, if_neg c2, if_pos c1, if_neg c2]
      exact h.s00
  · rw [if_neg (fun q => c1 ((sub1_lt (x := x) (R := C) (by omega)).mp q)), if_neg c1]
    exact h.s00
end
end
section
/-! ===== the answers, from the relation ===== -/
section
variable {τ σ : XS9} {x y v u : Int32} {R B C : Nat}
theorem bad {τ : XS9} {es : List String} {E : String} {k m : Int32} (e : lw_ix es E = k) : u2 (u2 τ 5000 0 0) 5000 0 k 5000 0 = lw_k es (.inr E : Int32 ⊕ String) ∧ ∀ w, (.inr E : Int32 ⊕ String) = .inl w → w = m := ⟨u2_at.trans e.symm, fun w z => by cases z⟩
theorem xit_cg {S : Type} {step step' : Nat → S → S} {N : Nat} (h : ∀ i s, i < N → step i s = step' i s) : ∀ (f i : Nat) (s : S), i + f = N → xit step f i s = xit step' f i s
  | 0, _, _, _ => rfl
  | f + 1, i, s, e => by
    show xit step f (i + 1) (step i s) = xit step' f (i + 1) (step' i s)
    rw [h i s (by omega), xit_cg h f (i + 1) _ (by omega)]
theorem says_rules (h : RA τ σ) (q2 : σ 1000 7 = 0 ↔ τ 5000 1 = 0) : g_Mrules τ x y 5000 0 = lw_k [eIAE, eISE] (o_rules σ x y) ∧ ∀ w, o_rules σ x y = .inl w → w = f_Mrules τ x y := by
  unfold g_Mrules o_rules f_Mrules
  by_cases c1 : n_bt x 1 5
  · by_cases c4 : σ 1000 7 = 0
    · simp only [if_pos c1, if_pos c4, if_pos (q2.mp c4)]
      refine ⟨?_, fun w e => ?_⟩
      · rw [u2_oi (by decide), u2_oi (by decide), u2_at]
        rfl
      · rw [← Sum.inl.inj e]
        exact h.1.2.1
    · simp only [if_pos c1, if_neg c4, if_neg (fun e => c4 (q2.mpr e))]
      exact bad rfl
  · simp only [if_neg c1]
    exact bad rfl
theorem says_bidder (q2 : σ 1000 7 = 0 ↔ τ 5000 1 = 0) (hB6 : B ≤ 6) : g_Mbidder τ x y v u B 5000 0 = lw_k [eIAE, eISE] (o_bidder σ x y v u B) ∧ ∀ w, o_bidder σ x y v u B = .inl w → w = f_Mbidder τ x y v u B := by
  unfold g_Mbidder o_bidder f_Mbidder
  by_cases c1 : n_bt x 0 99999
  · by_cases c2 : n_bt y 1 200
    · by_cases c3 : n_bt v 0 30
      · by_cases c6 : n_bt u 0 3
        · by_cases c4 : σ 1000 7 = 0
          · by_cases c5 : nI B < 6
            · simp only [if_pos c1, if_pos c2, if_pos c3, if_pos c6, if_pos c4, if_pos (q2.mp c4), if_pos c5, if_neg ((nI6 hB6).mp c5)]
              refine ⟨?_, fun w e => (Sum.inl.inj e).symm⟩
              rw [u2_ne (by decide), u2_ne (by omega), uR_ne (by omega), u2_at]
              rfl
            · simp only [if_pos c1, if_pos c2, if_pos c3, if_pos c6, if_pos c4, if_pos (q2.mp c4), if_neg c5, if_pos (Classical.not_not.mp (fun e => c5 ((nI6 hB6).mpr e)))]
              exact bad rfl
          · simp only [if_pos c1, if_pos c2, if_pos c3, if_pos c6, if_neg c4, if_neg (fun e => c4 (q2.mpr e))]
            exact bad rfl
        · simp only [if_pos c1, if_pos c2, if_pos c3, if_neg c6]
          exact bad rfl
      · simp only [if_pos c1, if_pos c2, if_neg c3]
        exact bad rfl
    · simp only [if_pos c1, if_neg c2]
      exact bad rfl
  · simp only [if_neg c1]
    exact bad rfl
theorem says_border (h : RA τ σ) (q2 : σ 1000 7 = 0 ↔ τ 5000 1 = 0) (hR5 : mR τ ≤ 5) : g_Mborder τ x y (mR τ) 5000 0 = lw_k [eIOB, eIAE, eISE] (o_border σ x y (mR τ)) ∧ ∀ w, o_border σ x y (mR τ) = .inl w → w = f_Mborder τ x y (mR τ) := by
  have P := (h.border (x := x) (y := y) q2 hR5 rfl).2.1
  unfold g_Mborder g_border at P
  unfold g_Mborder o_border f_Mborder
  by_cases c1 : n_lt x (mR τ)
  · by_cases c2 : n_lt y (mR τ)
    · by_cases c3 : nI (cn x) = nI (cn y)
      · simp only [if_pos c1, if_pos c2, if_pos c3]
        exact bad rfl
      · by_cases c4 : σ 1000 7 = 0
        · simp only [if_pos c1, if_pos c2, if_neg c3, if_pos c4, if_pos (q2.mp c4)] at P ⊢
          refine ⟨?_, fun w e => ?_⟩
          · have hx := c1.2
            have hy := c2.2
            rw [u2_ne (by omega), u2_ne (by omega), u2_at]
            rfl
          · rw [← Sum.inl.inj e]
            unfold f_addBorder x_addBorder_29
            congr 1
            refine xit_cg (N := mR τ) (fun i s hi => ?_) (mR τ) 0 0 (Nat.zero_add _)
            have p := (P i (by omega)).2.2.2
            unfold g_addBorder at p
            (try dsimp only)
            rw [p]
        · simp only [if_pos c1, if_pos c2, if_neg c3, if_neg c4, if_neg (fun e => c4 (q2.mpr e))]
          exact bad rfl
    · simp only [if_pos c1, if_neg c2]
      exact bad rfl
  · simp only [if_neg c1]
    exact bad rfl
theorem says_station (hC : C ≤ 10) : g_Mstation τ x y R C 5000 0 = lw_k [eIOB, eIAE, eISE] (o_station σ x y R C) ∧ ∀ w, o_station σ x y R C = .inl w → w = f_Mstation τ x y R C := by
  unfold g_Mstation o_station f_Mstation
  by_cases c1 : n_lt x R
  · by_cases c2 : n_bt y 1 9999
    · by_cases c3 : nI C < 10
      · have hC9 : C < 10 := (nI_ltI (a := C) (b := 10) (by omega) (by omega)).mp c3
        have c4 : ¬ nI (2 * C) = 20 := fun e => by
          have := congrArg cn e
          rw [cn_nI (by omega)] at this
          have e5 : cn (20 : Int32) = 20 := rfl
          omega
        simp only [if_pos c1, if_pos c2, if_neg c4, if_pos c3]
        refine ⟨?_, fun w e => (Sum.inl.inj e).symm⟩
        unfold g_addI
        rw [u2_ne (by decide), u2_ne (by decide), u2_ne (by decide), u2_ne (by decide), u2_at]
        rfl
      · have c4 : nI (2 * C) = 20 := by
          have : ¬ C < 10 := fun q => c3 ((nI_ltI (a := C) (b := 10) (by omega) (by omega)).mpr q)
          rw [show C = 10 by omega]
          rfl
        simp only [if_pos c1, if_pos c2, if_pos c4, if_neg c3]
        exact bad rfl
    · simp only [if_pos c1, if_neg c2]
      exact bad rfl
  · simp only [if_neg c1]
    exact bad rfl
theorem says_ask (h : RA τ σ) (hC : C ≤ 10) : g_Mask τ x y C 5000 0 = lw_k [eIOB, eIAE] (o_ask σ x y C) ∧ ∀ w, o_ask σ x y C = .inl w → w = f_Mask τ x y C := by
  unfold g_Mask o_ask f_Mask
  by_cases c1 : n_lt x C
  · have c0 := (sub1_lt (x := x) (R := C) (by omega)).mpr c1
    by_cases c2 : n_bt y 1 9999
    · simp only [if_pos c0, if_pos c1, if_pos c2]
      refine ⟨?_, fun w e => ?_⟩
      · unfold g_setS
        rw [u2_ne (by decide), u2_ne (by decide), u2_at]
        rfl
      · rw [← Sum.inl.inj e, u2_ne (by decide)]
        exact (h.2.2.2.2.1 _ (by have := c1.2; omega)).1
    · simp only [if_pos c0, if_pos c1, if_neg c2]
      exact bad rfl
  · simp only [if_neg c1, if_neg (fun q => c1 ((sub1_lt (x := x) (R := C) (by omega)).mp q))]
    exact bad rfl
end
end
section
/-! ===== a row that is filled ===== -/
theorem fill_at {a : Nat} {x : Int32} {j : Nat} : ∀ (f i : Nat) (s : XS9), (j < i → s a j = x) → j < i + f → xit (fun i5 (s5 : XS9) => u2 s5 a i5 x) f i s a j = x
  | 0, i, s, h1, h2 => h1 (by omega)
  | f + 1, i, s, h1, h2 => fill_at f (i + 1) (u2 s a i x) (fun h3 => by
      by_cases e : j = i
      · subst e
        exact u2_at
      · show u2 s a i x a j = x
        rw [u2_oi e]
        exact h1 (by omega)) (by omega)
/-! loops with an invariant by number -/
theorem xit_ind {S : Type} {step : Nat → S → S} (P : Nat → S → Prop) {N : Nat} (h : ∀ i s, i < N → P i s → P (i + 1) (step i s)) : ∀ (f i : Nat) (s : S), i + f = N → P i s → P N (xit step f i s)
  | 0, i, s, e, hP => by
    obtain rfl : i = N := by omega
    exact hP
  | f + 1, i, s, e, hP => xit_ind P h f (i + 1) (step i s) (by omega) (h i s (by omega) hP)
theorem xit_two {S T : Type} {f : Nat → S → S} {g : Nat → T → T} (P : Nat → S → T → Prop) {N : Nat} (h : ∀ i s t, i < N → P i s t → P (i + 1) (f i s) (g i t)) : ∀ (n i : Nat) (s : S) (t : T), i + n = N → P i s t → P N (xit f n i s) (xit g n i t)
  | 0, i, s, t, e, hP => by
    obtain rfl : i = N := by omega
    exact hP
  | n + 1, i, s, t, e, hP => xit_two P h n (i + 1) (f i s) (g i t) (by omega) (h i s t (by omega) hP)
end
section
/-! ===== Int32 by its bits: bt x i ===== -/
def bt (x : Int32) (i : Nat) : Bool := x.toBitVec.getLsbD i
theorem b_ext {x y : Int32} (h : ∀ i, i < 32 → bt x i = bt y i) : x = y := Int32.toBitVec_inj.mp (BitVec.eq_of_getLsbD_eq (fun i hi => h i hi))
theorem b_or (x y : Int32) (i : Nat) : bt (x ||| y) i = (bt x i || bt y i) := by unfold bt; rw [Int32.toBitVec_or, BitVec.getLsbD_or]
theorem b_and (x y : Int32) (i : Nat) : bt (x &&& y) i = (bt x i && bt y i) := by unfold bt; rw [Int32.toBitVec_and, BitVec.getLsbD_and]
theorem b_xor (x y : Int32) (i : Nat) : bt (x ^^^ y) i = (bt x i ^^ bt y i) := by unfold bt; rw [Int32.toBitVec_xor, BitVec.getLsbD_xor]
theorem b_big {x : Int32} {i : Nat} (h : 32 ≤ i) : bt x i = false := BitVec.getLsbD_of_ge _ _ h
theorem b_255 (i : Nat) : bt 255 i = decide (i < 8) := by
  rcases Nat.lt_or_ge i 32 with h | h
  · exact (by decide +kernel : ∀ i, i < 32 → bt 255 i = decide (i < 8)) i h
  · rw [b_big h, decide_eq_false (by omega)]
theorem b_65535 (i : Nat) : bt 65535 i = decide (i < 16) := by
  rcases Nat.lt_or_ge i 32 with h | h
  · exact (by decide +kernel : ∀ i, i < 32 → bt 65535 i = decide (i < 16)) i h
  · rw [b_big h, decide_eq_false (by omega)]
theorem b_m1 : ∀ i, i < 32 → bt (-1) i = true := by decide +kernel
theorem b_0 (i : Nat) : bt 0 i = false := BitVec.getLsbD_zero
theorem s_l : ∀ n, n < 32 → ((nI n &&& 31).toBitVec.smod 32).toNat = n := by decide +kernel
theorem s_u : ∀ n, n < 32 → (((nI n).toUInt32 &&& Int32.toUInt32 31).toBitVec % 32).toNat = n := by decide +kernel
theorem b_shl (n : Nat) (hn : n < 32) (x : Int32) {i : Nat} (hi : i < 32) : bt (x <<< (nI n &&& 31)) i = (decide (n ≤ i) && bt x (i - n)) := by
  unfold bt
  rw [Int32.toBitVec_shiftLeft]
  show (x.toBitVec <<< ((nI n &&& 31).toBitVec.smod 32).toNat).getLsbD i = _
  rw [s_l n hn, BitVec.getLsbD_shiftLeft]
  rcases Nat.lt_or_ge i n with h | h
  · simp [h, Nat.not_le.mpr h]
  · simp [hi, h, Nat.not_lt.mpr h]
theorem b_ushr (n : Nat) (hn : n < 32) (x : Int32) (i : Nat) : bt ((x.toUInt32 >>> ((nI n).toUInt32 &&& Int32.toUInt32 31)).toInt32) i = bt x (n + i) := by
  show (x.toUInt32 >>> ((nI n).toUInt32 &&& Int32.toUInt32 31)).toBitVec.getLsbD i = x.toUInt32.toBitVec.getLsbD (n + i)
  rw [UInt32.toBitVec_shiftRight]
  show (x.toUInt32.toBitVec >>> (((nI n).toUInt32 &&& Int32.toUInt32 31).toBitVec % 32).toNat).getLsbD i = _
  rw [s_u n hn, BitVec.getLsbD_ushiftRight]
theorem b_sshr (n : Nat) (hn : n < 32) (x : Int32) {i : Nat} (hi : i < 32) : bt (x >>> (nI n &&& 31)) i = if n + i < 32 then bt x (n + i) else bt x 31 := by
  unfold bt
  rw [Int32.toBitVec_shiftRight]
  show (x.toBitVec.sshiftRight ((nI n &&& 31).toBitVec.smod 32).toNat).getLsbD i = _
  rw [s_l n hn, BitVec.getLsbD_sshiftRight, BitVec.msb_eq_getLsbD_last]
  simp [hi]
end
section
/-! ===== bits ===== -/
section
variable {σ τ s t : XS9} {x y laid : Int32} {i j m C ch u qa : Nat} {rg : Nat → Nat}
theorem b_one : ∀ i, i < 32 → bt 1 i = decide (i = 0) := by decide +kernel
theorem b_bit (hj : j < 32) (hi : i < 32) : bt ((1 : Int32) <<< ((nI j) &&& 31)) i = decide (i = j) := by
  rw [b_shl j hj 1 hi]
  by_cases e : i = j
  · subst e
    rw [Nat.sub_self, b_one 0 (by decide)]
    simp
  · by_cases l : j ≤ i
    · rw [b_one (i - j) (by omega)]
      simp only [decide_eq_true l, Bool.true_and]
      rw [decide_eq_false (by omega), decide_eq_false e]
    · rw [decide_eq_false l, decide_eq_false e, Bool.false_and]
theorem b_tst1 (hj : j < 32) : (((x >>> ((nI j) &&& 31)) &&& 1) = 1 ↔ bt x j = true) ∧ (((x >>> ((nI j) &&& 31)) &&& 1) = 0 ↔ bt x j = false) := by
  have e : ∀ i, i < 32 → bt ((x >>> ((nI j) &&& 31)) &&& 1) i = (decide (i = 0) && bt x j) := fun i hi => by
    rw [b_and, b_one i hi, b_sshr j hj x hi]
    by_cases z : i = 0
    · subst z
      rw [if_pos (by omega), Nat.add_zero, Bool.and_comm]
    · rw [decide_eq_false z, Bool.and_false, Bool.false_and]
  cases h : bt x j with
  | true =>
    have v : (x >>> ((nI j) &&& 31)) &&& 1 = 1 := b_ext fun i hi => by rw [e i hi, h, b_one i hi, Bool.and_true]
    rw [v]
    exact ⟨⟨fun _ => rfl, fun _ => rfl⟩, ⟨fun q => absurd q (by decide), fun q => absurd q (by decide)⟩⟩
  | false =>
    have v : (x >>> ((nI j) &&& 31)) &&& 1 = 0 := b_ext fun i hi => by rw [e i hi, h, b_0, Bool.and_false]
    rw [v]
    exact ⟨⟨fun q => absurd q (by decide), fun q => absurd q (by decide)⟩, ⟨fun _ => rfl, fun _ => rfl⟩⟩
theorem b_tst2 (hj : j < 32) : (x &&& ((1 : Int32) <<< ((nI j) &&& 31))) = 0 ↔ bt x j = false := by
  refine ⟨fun h => ?_, fun h => b_ext fun i hi => ?_⟩
  · have := congrArg (fun v => bt v j) h
    rw [b_0] at this
    rw [b_and, b_bit hj hj, decide_eq_true rfl, Bool.and_true] at this
    exact this
  · rw [b_and, b_bit hj hi, b_0]
    by_cases e : i = j
    · rw [e, h, Bool.false_and]
    · rw [decide_eq_false e, Bool.and_false]
theorem b_dis : (x &&& y) = 0 ↔ ∀ i, i < 32 → bt x i = true → bt y i = false := by
  refine ⟨fun h i hi hx => ?_, fun h => b_ext fun i hi => ?_⟩
  · have := congrArg (fun v => bt v i) h
    rw [b_0] at this
    rw [b_and, hx, Bool.true_and] at this
    exact this
  · rw [b_and, b_0]
    cases e : bt x i with
    | true => rw [h i hi e, Bool.and_false]
    | false => rw [Bool.false_and]
theorem b_lo (hm : m < 2 ^ i) (hk : i ≤ j) : bt (nI m) j = false := by
  show (BitVec.ofNat 32 m).getLsbD j = false
  rw [BitVec.getLsbD_ofNat, Nat.testBit_lt_two_pow (Nat.lt_of_lt_of_le hm (Nat.pow_le_pow_right (by decide) hk)), Bool.and_false]
theorem bsubm {t m : Nat} (ht : t < 10) (hm : m < 2 ^ t) : nI (m + 2 ^ t) - ((1 : Int32) <<< (nI t &&& 31)) = nI m := by
  have e : ∀ t, t < 10 → ((1 : Int32) <<< (nI t &&& 31)) = nI (2 ^ t) := by decide +kernel
  rw [e t ht, nI_minus (Nat.le_add_left _ _), Nat.add_sub_cancel]
end
end
section
/-! ===== digits of codes, alike on both sides ===== -/
def dgt (c : Int32) (r : Nat) : Nat := cn c / 6 ^ r % 6
theorem dgt_le {c : Int32} {r : Nat} : dgt c r ≤ 5 := by
  have := Nat.mod_lt (cn c / 6 ^ r) (show 0 < 6 by decide)
  unfold dgt
  omega
theorem dgt_bd {c : Int32} {r : Nat} : bd 5 (nI (dgt c r)) := bd.nat dgt_le (by decide)
section
variable {c m : Int32} {r j : Nat}
theorem of_d (h : bd 7775 c) (hr : r < 5) : f_of c r = nI (dgt c r) := by
  have := of_eq h.2 hr
  rw [← h.1] at this
  exact this
theorem many_d (h : bd 7775 c) (hr : r < 5) : f_many c r = nI (dgt c r) := by
  have := many_eq h.2 hr
  rw [← h.1] at this
  exact this
theorem many_of (h : bd 7775 c) (hr : r < 5) : f_many c r = f_of c r := by rw [many_d h hr, of_d h hr]
theorem rep_with (h : bd 7775 c) (hr : r < 5) : f_replaced c r m = f_with c r m := by
  unfold f_replaced f_with
  rw [many_of h hr]
  rfl
theorem with_val (h : bd 7775 c) (hr : r < 5) (hm : bd 5 m) : f_with c r m = nI (cn c - dgt c r * 6 ^ r + cn m * 6 ^ r) := by
  have q : cn c / 6 ^ r % 6 * 6 ^ r ≤ cn c := Nat.le_trans (Nat.mul_le_mul_right _ (Nat.mod_le _ _)) (Nat.div_mul_le_self _ _)
  have e := rep_eq (k := cn m) q
  rw [← h.1, ← hm.1] at e
  unfold f_with
  rw [of_d h hr, power_eq hr]
  exact e
theorem with_n {n k r j : Nat} (hn : n ≤ 7775) (hk : k ≤ 5) (hr : r < 5) (hj : j < 5) : (n - n / 6 ^ r % 6 * 6 ^ r + k * 6 ^ r) / 6 ^ j % 6 = if j = r then k else n / 6 ^ j % 6 := by
  have a : r = 0 ∨ r = 1 ∨ r = 2 ∨ r = 3 ∨ r = 4 := by omega
  have b : j = 0 ∨ j = 1 ∨ j = 2 ∨ j = 3 ∨ j = 4 := by omega
  rcases a with rfl | rfl | rfl | rfl | rfl <;> rcases b with rfl | rfl | rfl | rfl | rfl <;> split <;> simp only [Nat.reducePow] <;> omega
theorem with_nat (h : bd 7775 c) (hr : r < 5) (hm : bd 5 m) : cn (f_with c r m) = cn c - dgt c r * 6 ^ r + cn m * 6 ^ r := by
  have p := pow6r hr
  have q : cn m * 6 ^ r ≤ 5 * 1296 := Nat.mul_le_mul hm.2 p.2
  have c2 := h.2
  rw [with_val h hr hm, cn_nI (by omega)]
theorem with_d (h : bd 7775 c) (hr : r < 5) (hm : bd 5 m) (hj : j < 5) : dgt (f_with c r m) j = if j = r then cn m else dgt c j := by
  unfold dgt
  rw [with_nat h hr hm]
  exact with_n h.2 hm.2 hr hj
theorem with_at (h : bd 7775 c) (hr : r < 5) (hm : bd 5 m) : dgt (f_with c r m) r = cn m := (with_d h hr hm hr).trans (if_pos rfl)
theorem with_ne (h : bd 7775 c) (hr : r < 5) (hm : bd 5 m) (hj : j < 5) (e : j ≠ r) : dgt (f_with c r m) j = dgt c j := (with_d h hr hm hj).trans (if_neg e)
theorem with_self : f_with c r (f_of c r) = c := by
  unfold f_with
  rw [Int32.sub_self, Int32.zero_mul, Int32.add_zero]
theorem with_dgt (h : bd 7775 c) (hr : r < 5) : f_with c r (nI (dgt c r)) = c := by
  rw [← of_d h hr]
  exact with_self
theorem with_with {m2 : Int32} (h : bd 7775 c) (hr : r < 5) (hm : bd 5 m) (hm2 : bd 5 m2) : f_with (f_with c r m) r m2 = f_with c r m2 := by
  rw [with_val (h.withd hr hm) hr hm2, with_val h hr hm2, with_at h hr hm, with_nat h hr hm, Nat.add_sub_cancel]
theorem pred_neg {d : Nat} (h : 1 ≤ d) (h5 : d ≤ 5) : nI (d - 1) - nI d = -1 := by
  have : ∀ d : Fin 6, 1 ≤ d.1 → nI (d.1 - 1) - nI d.1 = -1 := by decide +kernel
  exact this ⟨d, by omega⟩ h
theorem sub_power (h : bd 7775 c) (hr : r < 5) (h1 : 1 ≤ dgt c r) : c - f_power r = f_with c r (nI (dgt c r - 1)) := by
  unfold f_with
  rw [of_d h hr, pred_neg h1 dgt_le, Int32.neg_mul, Int32.one_mul, Int32.sub_eq_add_neg]
end
/-! sums -/
theorem xit_app {S : Type} {step : Nat → S → S} : ∀ (a b i : Nat) (s : S), xit step (a + b) i s = xit step b (i + a) (xit step a i s)
  | 0, b, i, s => by
    rw [Nat.zero_add]
    rfl
  | a + 1, b, i, s => by
    rw [show a + 1 + b = (a + b) + 1 by omega]
    show xit step (a + b) (i + 1) (step i s) = xit step b (i + (a + 1)) (xit step a (i + 1) (step i s))
    rw [xit_app a b (i + 1) (step i s), show i + 1 + a = i + (a + 1) by omega]
theorem xit_last {S : Type} {step : Nat → S → S} {a : Nat} {s : S} : xit step (a + 1) 0 s = step a (xit step a 0 s) := by
  rw [xit_app a 1 0 s, Nat.zero_add]
  rfl
/-- a sum -/
def xsum (t : Nat → Int32) (N : Nat) : Int32 := xit (fun i s => s + t i) N 0 0
def nsum (d : Nat → Nat) : Nat → Nat
  | 0 => 0
  | n + 1 => nsum d n + d n
section
variable {t t2 : Nat → Int32} {d d2 : Nat → Nat} {N M : Nat}
theorem xsum_s : xsum t (N + 1) = xsum t N + t N := xit_last
theorem xsum_cg (h : ∀ i, i < N → t i = t2 i) : xsum t N = xsum t2 N := xit_cg (fun i s hi => by
  show s + t i = s + t2 i
  rw [h i hi]) N 0 0 (Nat.zero_add _)
theorem xsum_cut (h : ∀ j, N ≤ j → j < M → t j = 0) (hN : N ≤ M) : xsum t M = xsum t N := by
  obtain ⟨k, rfl⟩ : ∃ k, M = N + k := ⟨M - N, by omega⟩
  induction k with
  | zero => rfl
  | succ k ih =>
    rw [← Nat.add_assoc, xsum_s, h (N + k) (by omega) (by omega), Int32.add_zero]
    exact ih (fun j a b => h j a (by omega)) (by omega)
theorem xsum_n (h : ∀ i, i < N → t i = nI (d i)) : xsum t N = nI (nsum d N) := by
  induction N with
  | zero => rfl
  | succ n ih =>
    rw [xsum_s, ih (fun i hi => h i (by omega)), h n (by omega), nI_plus]
    rfl
theorem nsum_cg (h : ∀ i, i < N → d i = d2 i) : nsum d N = nsum d2 N := by
  induction N with
  | zero => rfl
  | succ n ih =>
    show nsum d n + d n = nsum d2 n + d2 n
    rw [ih (fun i hi => h i (by omega)), h n (by omega)]
theorem nsum_le {k : Nat} (h : ∀ i, i < N → d i ≤ k) : nsum d N ≤ k * N := by
  induction N with
  | zero => exact Nat.zero_le _
  | succ n ih =>
    have a := ih (fun i hi => h i (by omega))
    have b := h n (by omega)
    show nsum d n + d n ≤ k * (n + 1)
    rw [Nat.mul_succ]
    omega
theorem nsum_set {i : Nat} (hi : i < N) (h : ∀ j, j < N → j ≠ i → d2 j = d j) : nsum d2 N + d i = nsum d N + d2 i := by
  induction N with
  | zero => omega
  | succ n ih =>
    show nsum d2 n + d2 n + d i = nsum d n + d n + d2 i
    by_cases e : i = n
    · subst e
      rw [nsum_cg (d := d2) (d2 := d) (fun j hj => h j (by omega) (by omega))]
      omega
    · have := ih (by omega) (fun j a b => h j (by omega) b)
      rw [h n (by omega) (fun q => e q.symm)]
      omega
theorem nsum_ge {i : Nat} (hi : i < N) : d i ≤ nsum d N := by
  induction N with
  | zero => omega
  | succ n ih =>
    show d i ≤ nsum d n + d n
    by_cases e : i = n
    · subst e
      omega
    · have := ih (by omega)
      omega
end
section
variable {c : Int32} {R B r : Nat}
theorem many0 (hr : r < 5) : f_many 0 r = 0 := by
  rw [many_d bd.zero hr]
  exact congrArg nI (show 0 / 6 ^ r % 6 = 0 by simp)
theorem total_x {f : Nat → Int32} : f_total c 5 f = xsum (fun i => f_many c i * f i) 5 := rfl
theorem dearer_x {d : Int32} {f g : Nat → Int32} : f_dearer c d 5 f g = xsum (fun i => (f i - g i) * (f_many c i - f_many d i)) 5 := rfl
theorem points_x {σ : XS9} : f_Mpoints σ c R = xsum (fun i => f_of c i * σ (5010 + i) 1) R := rfl
theorem held_x {σ : XS9} {b g : Nat} : f_KheldIn σ b r B g = xsum (fun i => f_of (σ (b + 2) i) r) B := rfl
theorem together_x {f : Nat → Int32} : f_together 6 f r = xsum (fun i => f_many (f i) r) 6 := rfl
theorem contra_x {σ : XS9} {b i g n i2 : Nat} : x_Kcontradicts_18 σ b i R g n i2 0 = xsum (fun k => (σ (b + 1) k - σ (b + 100 + i2) k) * (f_of (σ (b + 500 + g) i) k - f_of (σ (b + 200 + i2) i) k)) R := rfl
/-- the points of a code -/
theorem points_eq {σ : XS9} {w : Nat → Int32} (h : bd 7775 c) (hR5 : R ≤ 5) (hw : ∀ j, j < 5 → w j = σ (5010 + j) 1) (hz : ∀ j, R ≤ j → j < 5 → σ (5010 + j) 1 = 0) : f_total c 5 w = f_Mpoints σ c R := by
  rw [total_x, points_x, xsum_cut (N := R) (M := 5) (fun j a b => by
    (try dsimp only)
    rw [hw j b, hz j a b, Int32.mul_zero]) hR5]
  exact xsum_cg fun i hi => by
    (try dsimp only)
    rw [many_of h (by omega), hw i (by omega)]
theorem dearer_eq {σ : XS9} {b i g n i2 : Nat} {d : Int32} {f f2 : Nat → Int32} (hc : bd 7775 c) (hd : bd 7775 d) (hR5 : R ≤ 5) (e1 : σ (b + 500 + g) i = c) (e2 : σ (b + 200 + i2) i = d) (h1 : ∀ j, j < R → f j = σ (b + 1) j) (h2 : ∀ j, j < R → f2 j = σ (b + 100 + i2) j) (hz : ∀ j, R ≤ j → j < 5 → f j = 0 ∧ f2 j = 0) : f_dearer c d 5 f f2 = x_Kcontradicts_18 σ b i R g n i2 0 := by
  rw [dearer_x, contra_x, xsum_cut (N := R) (M := 5) (fun j a b => by
    (try dsimp only)
    rw [(hz j a b).1, (hz j a b).2, Int32.sub_self, Int32.zero_mul]) hR5]
  exact xsum_cg fun k hk => by
    (try dsimp only)
    rw [many_of hc (by omega), many_of hd (by omega), h1 k hk, h2 k hk, e1, e2]
theorem held_n {σ : XS9} {b g : Nat} (hr : r < 5) (h : ∀ i, i < B → bd 7775 (σ (b + 2) i)) : f_KheldIn σ b r B g = nI (nsum (fun i => dgt (σ (b + 2) i) r) B) := by
  rw [held_x]
  exact xsum_n fun i hi => of_d (h i hi) hr
theorem together_n {f : Nat → Int32} (hr : r < 5) (hB6 : B ≤ 6) (h : ∀ i, i < B → bd 7775 (f i)) (hz : ∀ i, B ≤ i → i < 6 → f i = 0) : f_together 6 f r = nI (nsum (fun i => dgt (f i) r) B) := by
  rw [together_x, xsum_cut (N := B) (M := 6) (fun j a b => by
    (try dsimp only)
    rw [hz j a b, many0 hr]) hB6]
  exact xsum_n fun i hi => many_d (h i hi) hr
end
end
section
/-! ===== moving what is held, alike on both sides ===== -/
theorem u2_id {s : XS9} {q i : Nat} {x : Int32} (e : x = s q i) : u2 s q i x = s := by
  funext r j
  by_cases e1 : r = q
  · by_cases e2 : j = i
    · rw [e1, e2, u2_at]
      exact e
    · rw [e1, u2_oi e2]
  · rw [u2_ne e1]
theorem u2_two {s : XS9} {q i : Nat} {x y : Int32} : u2 (u2 s q i x) q i y = u2 s q i y := by
  funext r j
  by_cases e1 : r = q
  · by_cases e2 : j = i
    · rw [e1, e2, u2_at, u2_at]
    · rw [e1, u2_oi e2, u2_oi e2, u2_oi e2]
  · rw [u2_ne e1, u2_ne e1, u2_ne e1]
theorem nle {a b : Nat} (ha : a < 2147483648) (hb : b < 2147483648) : nI a ≤ nI b ↔ a ≤ b := by
  rw [i_le, toI_nI ha, toI_nI hb]
  omega
theorem nlt {a b : Nat} (ha : a < 2147483648) (hb : b < 2147483648) : nI a < nI b ↔ a < b := by
  rw [i_lt, toI_nI ha, toI_nI hb]
  omega
theorem over_le {S q : Nat} (hS : S ≤ 30) (hq : q ≤ 5) : nI S - nI q ≤ 0 ↔ S ≤ q := by
  have : ∀ S : Fin 31, ∀ q : Fin 6, nI S.1 - nI q.1 ≤ 0 ↔ S.1 ≤ q.1 := by decide +kernel
  exact this ⟨S, by omega⟩ ⟨q, by omega⟩
/-- the row of a state -/
abbrev hsum (s : XS9) (a r B : Nat) : Nat := nsum (fun j => dgt (s a j) r) B
section
variable {σ : XS9} {b b' R B g w n r q v i : Nat}
theorem hsum_30 {s : XS9} {a : Nat} (hB6 : B ≤ 6) : hsum s a r B ≤ 30 := by
  have : hsum s a r B ≤ 5 * B := nsum_le fun _ _ => dgt_le
  omega
theorem hsum_u2 {s : XS9} {a : Nat} {x : Int32} (hi : i < B) : hsum (u2 s a i x) a r B + dgt (s a i) r = hsum s a r B + dgt x r := by
  have := nsum_set (d := fun j => dgt (s a j) r) (d2 := fun j => dgt (u2 s a i x a j) r) hi (fun j _ e => by
    show dgt (u2 s a i x a j) r = dgt (s a j) r
    rw [u2_oi e])
  (try dsimp only at this)
  rw [show dgt (u2 s a i x a i) r = dgt x r from by rw [u2_at]] at this
  exact this
theorem inner (hr : r < 5) (hi : i < B) (hB6 : B ≤ 6) (hv : v ≤ 5) (hq : q ≤ 5) : ∀ (f k : Nat) (s : XS9), (∀ j, j < B → bd 7775 (s (b + 2) j)) → min (dgt (s (b + 2) i) r - v) (hsum s (b + 2) r B - q) ≤ f → xitB (fun (_ : Nat) (s : XS9) => if f_of (s (b + 2) i) r ≤ nI v then .inr s else (if f_KheldIn s b r B g ≤ nI q then .inr s else .inl (u2 s (b + 2) i (s (b + 2) i - f_power r)))) f k s = u2 s (b + 2) i (f_with (s (b + 2) i) r (nI (dgt (s (b + 2) i) r - min (dgt (s (b + 2) i) r - v) (hsum s (b + 2) r B - q))))
  | 0, k, s, h, ht => by
    rw [show min (dgt (s (b + 2) i) r - v) (hsum s (b + 2) r B - q) = 0 by omega, Nat.sub_zero, with_dgt (h i hi) hr, u2_id rfl]
    rfl
  | f + 1, k, s, h, ht => by
    have hc := h i hi
    have hd := dgt_le (c := s (b + 2) i) (r := r)
    have hS := hsum_30 (s := s) (a := b + 2) (r := r) hB6
    have stay : min (dgt (s (b + 2) i) r - v) (hsum s (b + 2) r B - q) = 0 → s = u2 s (b + 2) i (f_with (s (b + 2) i) r (nI (dgt (s (b + 2) i) r - min (dgt (s (b + 2) i) r - v) (hsum s (b + 2) r B - q)))) := fun e => by
      rw [e, Nat.sub_zero, with_dgt hc hr, u2_id rfl]
    unfold xitB
    (try dsimp only)
    by_cases c1 : dgt (s (b + 2) i) r ≤ v
    · rw [if_pos (show f_of (s (b + 2) i) r ≤ nI v by rw [of_d hc hr]; exact (nle (by omega) (by omega)).mpr c1)]
      exact stay (by omega)
    · rw [if_neg (show ¬ f_of (s (b + 2) i) r ≤ nI v by rw [of_d hc hr]; exact fun z => c1 ((nle (by omega) (by omega)).mp z))]
      by_cases c2 : hsum s (b + 2) r B ≤ q
      · rw [if_pos (show f_KheldIn s b r B g ≤ nI q by rw [held_n hr h]; exact (nle (a := hsum s (b + 2) r B) (by omega) (by omega)).mpr c2)]
        exact stay (by omega)
      · rw [if_neg (show ¬ f_KheldIn s b r B g ≤ nI q by rw [held_n hr h]; exact fun z => c2 ((nle (a := hsum s (b + 2) r B) (by omega) (by omega)).mp z))]
        have b1 : bd 5 (nI (dgt (s (b + 2) i) r - 1)) := bd.nat (by omega) (by decide)
        have ev := sub_power hc hr (by omega)
        have e3 := hsum_u2 (s := s) (a := b + 2) (r := r) (x := s (b + 2) i - f_power r) hi
        have ed : dgt (s (b + 2) i - f_power r) r = dgt (s (b + 2) i) r - 1 := by rw [ev, with_at hc hr b1, cn_nI (by omega)]
        have h' : ∀ j, j < B → bd 7775 (u2 s (b + 2) i (s (b + 2) i - f_power r) (b + 2) j) := fun j hj => by
          by_cases e : j = i
          · rw [e, u2_at, ev]
            exact hc.withd hr b1
          · rw [u2_oi e]
            exact h j hj
        have IH := inner hr hi hB6 hv hq f (k + 1) (u2 s (b + 2) i (s (b + 2) i - f_power r)) h' (by
          rw [u2_at, ed]
          rw [ed] at e3
          omega)
        refine IH.trans ?_
        rw [ed] at e3
        rw [u2_at, ed, u2_two, ev, with_with hc hr b1 (bd.nat (by omega) (by decide))]
        rw [ev] at e3
        have e4 : dgt (s (b + 2) i) r - 1 - min (dgt (s (b + 2) i) r - 1 - v) (hsum (u2 s (b + 2) i (f_with (s (b + 2) i) r (nI (dgt (s (b + 2) i) r - 1)))) (b + 2) r B - q) = dgt (s (b + 2) i) r - min (dgt (s (b + 2) i) r - v) (hsum s (b + 2) r B - q) := by omega
        rw [e4]
/-- one bidder's return of what is too much -/
theorem c274_eq {s : XS9} (hr : r < 5) (hi : i < B) (hB6 : B ≤ 6) (eq : σ (5010 + r) 0 = nI q) (hq : q ≤ 5) (hW : bd 7775 (x_Kclose_2 σ b R B g w n σ (b + 500 + g) i)) (h : ∀ j, j < B → bd 7775 (s (b + 2) j)) : x_Kclose_274 σ b R B g w n r i s s = u2 s (b + 2) i (f_with (s (b + 2) i) r (nI (dgt (s (b + 2) i) r - min (dgt (s (b + 2) i) r - dgt (x_Kclose_2 σ b R B g w n σ (b + 500 + g) i) r) (hsum s (b + 2) r B - q)))) := by
  unfold x_Kclose_274
  rw [of_d hW hr, eq]
  exact inner hr hi hB6 dgt_le hq 5 0 s h (by have := dgt_le (c := s (b + 2) i) (r := r); omega)
theorem c259_stay {s : XS9} (hr : r < 5) (hB6 : B ≤ 6) (eq : σ (5010 + r) 0 = nI q) (hq : q ≤ 5) (hW : ∀ j, j < B → bd 7775 (x_Kclose_2 σ b R B g w n σ (b + 500 + g) j)) (h : ∀ j, j < B → bd 7775 (s (b + 2) j)) (hS : hsum s (b + 2) r B ≤ q) (f k : Nat) (e : k + f = B) : xit (fun i259 s259 => (x_Kclose_274 σ b R B g w n r i259 s259 s259)) f k s = s := by
  refine xit_inv (fun s9 : XS9 => s9 = s) (N := B) (fun i s9 hi hP => ?_) f k s e rfl
  show x_Kclose_274 σ b R B g w n r i s9 s9 = s
  rw [show s9 = s from hP]
  rw [c274_eq hr hi hB6 eq hq (hW i hi) h, show hsum s (b + 2) r B - q = 0 by omega, Nat.min_zero, Nat.sub_zero, with_dgt (h i hi) hr, u2_id rfl]
/-- alike: what is held -/
def HE (b b' B : Nat) (s s' : XS9) : Prop := ∀ j, j < B → s (b + 2) j = s' (b' + 2) j ∧ bd 7775 (s' (b' + 2) j)
theorem HE.put {s s' : XS9} {x y : Int32} (h : HE b b' B s s') (e : x = y) (hy : bd 7775 y) : HE b b' B (u2 s (b + 2) i x) (u2 s' (b' + 2) i y) := fun j hj => by
  by_cases q : j = i
  · rw [q, u2_at, u2_at]
    exact ⟨e, hy⟩
  · rw [u2_oi q, u2_oi q]
    exact h j hj
/-- what a walk over the bidders keeps: other regions' digits, and beyond the bidders -/
def KP (b' r B : Nat) (s s2 : XS9) : Prop := ∀ j, j < B → ∀ k, k < 5 → k ≠ r → dgt (s2 (b' + 2) j) k = dgt (s (b' + 2) j) k
theorem KP.put {s s2 : XS9} {x m : Int32} (h : KP b' r B s s2) (hr : r < 5) (hc : bd 7775 (s2 (b' + 2) i)) (hm : bd 5 m) (e : x = f_with (s2 (b' + 2) i) r m) : KP b' r B s (u2 s2 (b' + 2) i x) := fun j hj k hk hn => by
  by_cases q : j = i
  · rw [q, u2_at, e, with_ne hc hr hm hk hn, ← q]
    exact h j hj k hk hn
  · rw [u2_oi q]
    exact h j hj k hk hn
theorem KP.trans {s s2 s3 : XS9} (h : KP b' r B s s2) (h2 : KP b' r B s2 s3) : KP b' r B s s3 := fun j hj k hk hn => (h2 j hj k hk hn).trans (h j hj k hk hn)
/-- the class's two steps, the reference's two steps -/
def st2 (b r i : Nat) (s : XS9) : XS9 := (if f_many (s (b + 3) i) r < f_many (s (b + 2) i) r then s else u2 s (b + 2) i (f_replaced (s (b + 2) i) r (f_many (s (b + 3) i) r)))
def st80 (b r i : Nat) (p : XS9 × Int32) : (XS9 × Int32) ⊕ (XS9 × Int32) := (if p.2 ≤ 0 then .inr (p.1, p.2) else .inl (u2 p.1 (b + 2) i (f_replaced (p.1 (b + 2) i) r ((f_many (p.1 (b + 2) i) r) - (if ((f_many (p.1 (b + 2) i) r) - (f_many (p.1 (b + 3) i) r)) < p.2 then ((f_many (p.1 (b + 2) i) r) - (f_many (p.1 (b + 3) i) r)) else p.2))), p.2 - (if ((f_many (p.1 (b + 2) i) r) - (f_many (p.1 (b + 3) i) r)) < p.2 then ((f_many (p.1 (b + 2) i) r) - (f_many (p.1 (b + 3) i) r)) else p.2)))
def st181 (σ : XS9) (b R B g w n r i : Nat) (s : XS9) : XS9 := (if (f_of ((x_Kclose_2 σ b R B g w n σ) (b + 500 + g) i) r) ≤ (f_of (s (b + 2) i) r) then s else u2 s (b + 2) i (f_with (s (b + 2) i) r (f_of ((x_Kclose_2 σ b R B g w n σ) (b + 500 + g) i) r)))
def st259 (σ : XS9) (b R B g w n r i : Nat) (s : XS9) : XS9 := x_Kclose_274 σ b R B g w n r i s s
theorem xitB_l {S : Type} {step : Nat → S → S ⊕ S} {f i : Nat} {s s' : S} (e : step i s = .inl s') : xitB step (f + 1) i s = xitB step f (i + 1) s' := by
  show (match step i s with | .inl s' => xitB step f (i + 1) s' | .inr s' => s') = _
  rw [e]
theorem xitB_r {S : Type} {step : Nat → S → S ⊕ S} {f i : Nat} {s s' : S} (e : step i s = .inr s') : xitB step (f + 1) i s = s' := by
  show (match step i s with | .inl s' => xitB step f (i + 1) s' | .inr s' => s') = _
  rw [e]
/-- the wish that counts, alike -/
def WE (σ : XS9) (b' R B g w n : Nat) (W : Nat → Int32) : Prop := ∀ j, j < B → bd 7775 (W j) ∧ x_Kclose_2 σ b' R B g w n σ (b' + 500 + g) j = W j
theorem st80_pos {s : XS9} {E c V T : Int32} (h0 : ¬ E ≤ 0) (h1 : s (b + 2) i = c) (h2 : s (b + 3) i = V) (h3 : (if f_many c r - f_many V r < E then f_many c r - f_many V r else E) = T) : st80 b r i (s, E) = .inl (u2 s (b + 2) i (f_replaced c r (f_many c r - T)), E - T) := by
  subst h1
  subst h2
  subst h3
  exact if_neg h0
theorem mv80 {W : Nat → Int32} (hr : r < 5) (hB6 : B ≤ 6) (eq : σ (5010 + r) 0 = nI q) (hq : q ≤ 5) (hW : WE σ b' R B g w n W) : ∀ (f i : Nat) (s s' : XS9), i + f = B → s (b + 3) = W → HE b b' B s s' → (∀ j, j < B → dgt (W j) r ≤ dgt (s' (b' + 2) j) r) → HE b b' B (xitB (st80 b r) f i (s, nI (hsum s' (b' + 2) r B) - nI q)).1 (xit (st259 σ b' R B g w n r) f i s') ∧ KP b' r B s' (xit (st259 σ b' R B g w n r) f i s') ∧ ∀ j, B ≤ j → (xitB (st80 b r) f i (s, nI (hsum s' (b' + 2) r B) - nI q)).1 (b + 2) j = s (b + 2) j
  | 0, i, s, s', e, e3, hE, hw => ⟨hE, fun _ _ _ _ _ => rfl, fun _ _ => rfl⟩
  | f + 1, i, s, s', e, e3, hE, hw => by
    have hS := hsum_30 (s := s') (a := b' + 2) (r := r) hB6
    have hWb : ∀ j, j < B → bd 7775 (x_Kclose_2 σ b' R B g w n σ (b' + 500 + g) j) := fun j hj => by
      rw [(hW j hj).2]
      exact (hW j hj).1
    have hEb : ∀ j, j < B → bd 7775 (s' (b' + 2) j) := fun j hj => (hE j hj).2
    by_cases c1 : hsum s' (b' + 2) r B ≤ q
    · rw [show xit (st259 σ b' R B g w n r) (f + 1) i s' = s' from c259_stay hr hB6 eq hq hWb hEb c1 (f + 1) i e, xitB_r (step := st80 b r) (f := f) (i := i) (s := (s, nI (hsum s' (b' + 2) r B) - nI q)) (s' := (s, nI (hsum s' (b' + 2) r B) - nI q)) (if_pos ((over_le hS hq).mpr c1))]
      exact ⟨hE, fun _ _ _ _ _ => rfl, fun _ _ => rfl⟩
    · have hi : i < B := by omega
      have hc := hEb i hi
      have hd := dgt_le (c := s' (b' + 2) i) (r := r)
      have hwi := hw i hi
      obtain ⟨t, et⟩ : ∃ t, t = min (dgt (s' (b' + 2) i) r - dgt (W i) r) (hsum s' (b' + 2) r B - q) := ⟨_, rfl⟩
      have b5 : bd 5 (nI (dgt (s' (b' + 2) i) r - t)) := bd.nat (by omega) (by decide)
      have em : st259 σ b' R B g w n r i s' = u2 s' (b' + 2) i (f_with (s' (b' + 2) i) r (nI (dgt (s' (b' + 2) i) r - t))) := by
        rw [et, ← (hW i hi).2]
        exact c274_eq hr hi hB6 eq hq (hWb i hi) hEb
      have eS := hsum_u2 (s := s') (a := b' + 2) (r := r) (x := f_with (s' (b' + 2) i) r (nI (dgt (s' (b' + 2) i) r - t))) hi
      rw [with_at hc hr b5, cn_nI (by omega)] at eS
      have eT : (if nI (dgt (s' (b' + 2) i) r) - nI (dgt (W i) r) < nI (hsum s' (b' + 2) r B) - nI q then nI (dgt (s' (b' + 2) i) r) - nI (dgt (W i) r) else nI (hsum s' (b' + 2) r B) - nI q) = nI t := by
        rw [nI_minus hwi, nI_minus (show q ≤ hsum s' (b' + 2) r B by omega), et]
        split
        · rename_i z
          rw [Nat.min_eq_left (Nat.le_of_lt ((nlt (by omega) (by omega)).mp z))]
        · rename_i z
          rw [Nat.min_eq_right (Nat.le_of_not_lt fun y => z ((nlt (by omega) (by omega)).mpr y))]
      have ee : nI (hsum s' (b' + 2) r B) - nI q - nI t = nI (hsum (u2 s' (b' + 2) i (f_with (s' (b' + 2) i) r (nI (dgt (s' (b' + 2) i) r - t)))) (b' + 2) r B) - nI q := by
        rw [nI_minus (show q ≤ hsum s' (b' + 2) r B by omega), nI_minus (by omega), nI_minus (by omega)]
        congr 1
        omega
      have ec : st80 b r i (s, nI (hsum s' (b' + 2) r B) - nI q) = .inl (u2 s (b + 2) i (f_with (s' (b' + 2) i) r (nI (dgt (s' (b' + 2) i) r - t))), nI (hsum (u2 s' (b' + 2) i (f_with (s' (b' + 2) i) r (nI (dgt (s' (b' + 2) i) r - t)))) (b' + 2) r B) - nI q) := by
        have a1 : f_replaced (s' (b' + 2) i) r (f_many (s' (b' + 2) i) r - nI t) = f_with (s' (b' + 2) i) r (nI (dgt (s' (b' + 2) i) r - t)) := by
          rw [many_d hc hr, nI_minus (show t ≤ dgt (s' (b' + 2) i) r by omega), rep_with hc hr]
        refine (st80_pos (T := nI t) (fun z => c1 ((over_le hS hq).mp z)) (hE i hi).1 (congrFun e3 i) ?_).trans ?_
        · rw [many_d hc hr, many_d (hW i hi).1 hr]
          exact eT
        · rewrite [a1, ee]
          exact Eq.refl _
      rw [xitB_l ec]
      show HE b b' B _ (xit (st259 σ b' R B g w n r) f (i + 1) (st259 σ b' R B g w n r i s')) ∧ KP b' r B s' (xit (st259 σ b' R B g w n r) f (i + 1) (st259 σ b' R B g w n r i s')) ∧ _
      rw [em]
      have hE2 := hE.put (i := i) (x := f_with (s' (b' + 2) i) r (nI (dgt (s' (b' + 2) i) r - t))) rfl (hc.withd hr b5)
      have IH := mv80 hr hB6 eq hq hW f (i + 1) _ _ (by omega) (by rw [u2_ne (by omega)]; exact e3) hE2 (fun j hj => by
        by_cases z : j = i
        · rw [z, u2_at, with_at hc hr b5, cn_nI (by omega)]
          omega
        · rw [u2_oi z]
          exact hw j hj)
      refine ⟨IH.1, KP.trans (KP.put (fun _ _ _ _ _ => rfl) hr hc b5 rfl) IH.2.1, fun j hj => ?_⟩
      rw [IH.2.2 j hj, u2_oi (by omega)]
theorem mv2 {W : Nat → Int32} (hr : r < 5) (hW : WE σ b' R B g w n W) : ∀ (f i : Nat) (s s' : XS9), i + f = B → s (b + 3) = W → HE b b' B s s' → (∀ j, j < i → dgt (W j) r ≤ dgt (s' (b' + 2) j) r) → HE b b' B (xit (st2 b r) f i s) (xit (st181 σ b' R B g w n r) f i s') ∧ KP b' r B s' (xit (st181 σ b' R B g w n r) f i s') ∧ (∀ j, j < B → dgt (W j) r ≤ dgt (xit (st181 σ b' R B g w n r) f i s' (b' + 2) j) r) ∧ (xit (st2 b r) f i s (b + 3) = W) ∧ ∀ j, B ≤ j → xit (st2 b r) f i s (b + 2) j = s (b + 2) j
  | 0, i, s, s', e, e3, hE, hw => ⟨hE, fun _ _ _ _ _ => rfl, fun j hj => hw j (by omega), e3, fun _ _ => rfl⟩
  | f + 1, i, s, s', e, e3, hE, hw => by
    have hi : i < B := by omega
    have hc := (hE i hi).2
    have hwb := (hW i hi).1
    have b5 : bd 5 (nI (dgt (W i) r)) := dgt_bd
    have dW := dgt_le (c := W i) (r := r)
    have dH := dgt_le (c := s' (b' + 2) i) (r := r)
    have ec : st2 b r i s = u2 s (b + 2) i (if dgt (W i) r < dgt (s' (b' + 2) i) r then s' (b' + 2) i else f_with (s' (b' + 2) i) r (nI (dgt (W i) r))) := by
      unfold st2
      rw [(hE i hi).1, e3, many_d hc hr, many_d hwb hr, rep_with hc hr]
      by_cases z : dgt (W i) r < dgt (s' (b' + 2) i) r
      · rw [if_pos ((nlt (by omega) (by omega)).mpr z), if_pos z, u2_id (hE i hi).1.symm]
      · rw [if_neg (fun y => z ((nlt (by omega) (by omega)).mp y)), if_neg z]
    have em : st181 σ b' R B g w n r i s' = u2 s' (b' + 2) i (if dgt (W i) r < dgt (s' (b' + 2) i) r then s' (b' + 2) i else f_with (s' (b' + 2) i) r (nI (dgt (W i) r))) := by
      unfold st181
      rw [(hW i hi).2, of_d hc hr, of_d hwb hr]
      by_cases z : dgt (W i) r < dgt (s' (b' + 2) i) r
      · rw [if_pos ((nle (by omega) (by omega)).mpr (Nat.le_of_lt z)), if_pos z, u2_id rfl]
      · rw [if_neg z]
        by_cases y : dgt (W i) r = dgt (s' (b' + 2) i) r
        · rw [if_pos ((nle (by omega) (by omega)).mpr (Nat.le_of_eq y)), y, with_dgt hc hr, u2_id rfl]
        · rw [if_neg (fun x => y (by have := (nle (by omega) (by omega)).mp x; omega))]
    obtain ⟨x, ex⟩ : ∃ x, x = (if dgt (W i) r < dgt (s' (b' + 2) i) r then s' (b' + 2) i else f_with (s' (b' + 2) i) r (nI (dgt (W i) r))) := ⟨_, rfl⟩
    have hx : bd 7775 x ∧ dgt (W i) r ≤ dgt x r ∧ ∃ m, bd 5 m ∧ x = f_with (s' (b' + 2) i) r m := by
      rw [ex]
      split
      · rename_i z
        exact ⟨hc, Nat.le_of_lt z, _, dgt_bd, (with_dgt hc hr).symm⟩
      · refine ⟨hc.withd hr b5, ?_, _, b5, rfl⟩
        rw [with_at hc hr b5, cn_nI (by omega)]
        exact Nat.le_refl _
    rw [← ex] at ec em
    obtain ⟨h1, h2, m, h3, h4⟩ := hx
    have IH := mv2 hr hW f (i + 1) (u2 s (b + 2) i x) (u2 s' (b' + 2) i x) (by omega) (by rw [u2_ne (by omega)]; exact e3) (hE.put rfl h1) (fun j hj => by
      by_cases z : j = i
      · rw [z, u2_at]
        exact h2
      · rw [u2_oi z]
        exact hw j (by omega))
    show HE b b' B (xit (st2 b r) f (i + 1) (st2 b r i s)) (xit (st181 σ b' R B g w n r) f (i + 1) (st181 σ b' R B g w n r i s')) ∧ KP b' r B s' (xit (st181 σ b' R B g w n r) f (i + 1) (st181 σ b' R B g w n r i s')) ∧ (∀ j, j < B → dgt (W j) r ≤ dgt (xit (st181 σ b' R B g w n r) f (i + 1) (st181 σ b' R B g w n r i s') (b' + 2) j) r) ∧ (xit (st2 b r) f (i + 1) (st2 b r i s) (b + 3) = W) ∧ ∀ j, B ≤ j → xit (st2 b r) f (i + 1) (st2 b r i s) (b + 2) j = s (b + 2) j
    rw [ec, em]
    refine ⟨IH.1, KP.trans (KP.put (fun _ _ _ _ _ => rfl) hr hc h3 h4) IH.2.1, IH.2.2.1, IH.2.2.2.1, fun j hj => ?_⟩
    rw [IH.2.2.2.2 j hj, u2_oi (by omega)]
/-- one region -/
theorem move_sim {W : Nat → Int32} {s s' : XS9} (hr : r < 5) (hB6 : B ≤ 6) (eq : σ (5010 + r) 0 = nI q) (eqc : s 1010 r = nI q) (hb : 2000 ≤ b) (hq : q ≤ 5) (hW : WE σ b' R B g w n W) (e3 : s (b + 3) = W) (hE : HE b b' B s s') (hz : ∀ j, B ≤ j → j < 6 → s (b + 2) j = 0) : HE b b' B (g_moveHeld s b r B) (x_Kclose_259 σ b' R B g w n r (x_Kclose_181 σ b' R B g w n r s')) ∧ KP b' r B s' (x_Kclose_259 σ b' R B g w n r (x_Kclose_181 σ b' R B g w n r s')) ∧ ∀ j, B ≤ j → g_moveHeld s b r B (b + 2) j = s (b + 2) j := by
  have A := mv2 (b := b) hr hW B 0 s s' (Nat.zero_add _) e3 hE (fun j hj => absurd hj (by omega))
  obtain ⟨a1, a2, a3, a4, a5⟩ := A
  have f1010 : xit (st2 b r) B 0 s 1010 = s 1010 := xit_keep (fun s : XS9 => s 1010) (fun i s => by
    show st2 b r i s 1010 = s 1010
    unfold st2
    split
    · rfl
    · rw [u2_ne (by omega)]) _ _ _
  have et : f_together 6 (xit (st2 b r) B 0 s (b + 2)) r = nI (hsum (xit (st181 σ b' R B g w n r) B 0 s') (b' + 2) r B) := by
    rw [together_n hr hB6 (fun i hi => by rw [(a1 i hi).1]; exact (a1 i hi).2) (fun i h1 h2 => by rw [a5 i h1]; exact hz i h1 h2)]
    congr 1
    exact nsum_cg fun i hi => by rw [(a1 i hi).1]
  have C := mv80 (b := b) hr hB6 eq hq hW B 0 (xit (st2 b r) B 0 s) (xit (st181 σ b' R B g w n r) B 0 s') (Nat.zero_add _) a4 a1 a3
  have eg : g_moveHeld s b r B = (xitB (st80 b r) B 0 (xit (st2 b r) B 0 s, nI (hsum (xit (st181 σ b' R B g w n r) B 0 s') (b' + 2) r B) - nI q)).1 := by
    show (xitB (st80 b r) B 0 (xit (st2 b r) B 0 s, f_together 6 (xit (st2 b r) B 0 s (b + 2)) r - xit (st2 b r) B 0 s 1010 r)).1 = _
    rw [et, f1010, eqc]
  show HE b b' B (g_moveHeld s b r B) (xit (st259 σ b' R B g w n r) B 0 (xit (st181 σ b' R B g w n r) B 0 s')) ∧ KP b' r B s' (xit (st259 σ b' R B g w n r) B 0 (xit (st181 σ b' R B g w n r) B 0 s')) ∧ _
  rw [eg]
  exact ⟨C.1, a2.trans C.2.1, fun j hj => by rw [C.2.2 j hj, a5 j hj]⟩
end
end
section
/-! ===== loops that only look ===== -/
section
variable {σ τ s t : XS9} {x y laid : Int32} {i j m C ch u qa : Nat} {rg : Nat → Nat}
theorem xitR_one {R : Type} {step : Nat → Unit → Unit ⊕ R} : ∀ (f i : Nat), ((∀ k, i ≤ k → k < i + f → step k () = .inl ()) → xitR step f i () = .inl ()) ∧ (∀ k r, i ≤ k → k < i + f → step k () = .inr r → ∃ k' r', i ≤ k' ∧ k' < i + f ∧ step k' () = .inr r' ∧ xitR step f i () = .inr r')
  | 0, i => ⟨fun _ => rfl, fun k r a b => absurd b (by omega)⟩
  | f + 1, i => by
    have ih := xitR_one (step := step) f (i + 1)
    refine ⟨fun h => ?_, fun k r a b e => ?_⟩
    · unfold xitR
      rw [h i (Nat.le_refl i) (by omega)]
      exact ih.1 fun k a b => h k (by omega) (by omega)
    · unfold xitR
      cases q : step i () with
      | inl w =>
        cases w
        have : k ≠ i := fun z => by rw [z, q] at e; cases e
        obtain ⟨k', r', a', b', c', d'⟩ := ih.2 k r (by omega) (by omega) e
        exact ⟨k', r', by omega, by omega, c', d'⟩
      | inr w => exact ⟨i, w, Nat.le_refl i, by omega, q, rfl⟩
/-- two stations disturb each other -/
def nearM (τ : XS9) (rg : Nat → Nat) (a b : Nat) : Prop := rg a = rg b ∨ bt (τ (5010 + rg a) 3) (rg b) = true
theorem dist_eq {a b : Nat} (ha : rg a < 5) (hb : rg b < 5) : f_MareDisturbing τ a b rg = 0 ↔ ¬ nearM τ rg a b := by
  unfold f_MareDisturbing nearM
  by_cases e : rg a = rg b
  · rw [if_pos (by rw [e])]
    exact ⟨fun q => absurd q (by decide), fun q => absurd (.inl e) q⟩
  · rw [if_neg (fun q => e (nI_inj (by omega) (by omega) q))]
    by_cases h : bt (τ (5010 + rg a) 3) (rg b) = true
    · rw [if_pos ((b_tst1 (by omega)).1.mpr h)]
      exact ⟨fun q => absurd q (by decide), fun q => absurd (.inr h) q⟩
    · rw [if_neg (fun q => h ((b_tst1 (by omega)).1.mp q))]
      exact ⟨fun _ q => q.elim e h, fun _ => rfl⟩
theorem free_eq (hrg : ∀ j, j < C → rg j < 5) (hi : i < C) (hC10 : C ≤ 10) : f_MisFree τ laid i rg = 0 ↔ ∃ j, j < i ∧ bt laid j = true ∧ nearM τ rg j i := by
  unfold f_MisFree x_MisFree_2
  have st : ∀ k, k < i → ((bt laid k = true ∧ nearM τ rg k i) → (if ((laid >>> ((nI k) &&& 31)) &&& 1) = 1 then (if (f_MareDisturbing τ k i rg) = 0 then (.inl () : Unit ⊕ Int32) else .inr 0) else .inl ()) = .inr 0) ∧ (¬ (bt laid k = true ∧ nearM τ rg k i) → (if ((laid >>> ((nI k) &&& 31)) &&& 1) = 1 then (if (f_MareDisturbing τ k i rg) = 0 then (.inl () : Unit ⊕ Int32) else .inr 0) else .inl ()) = .inl ()) := fun k hk => by
    have d := dist_eq (τ := τ) (rg := rg) (a := k) (b := i) (hrg k (by omega)) (hrg i hi)
    refine ⟨fun h => ?_, fun h => ?_⟩
    · rw [if_pos ((b_tst1 (by omega)).1.mpr h.1), if_neg (fun q => d.mp q h.2)]
    · by_cases b : bt laid k = true
      · rw [if_pos ((b_tst1 (by omega)).1.mpr b), if_pos (d.mpr fun q => h ⟨b, q⟩)]
      · rw [if_neg (fun q => b ((b_tst1 (by omega)).1.mp q))]
  have L := xitR_one (step := fun i2 (_ : Unit) => (if ((laid >>> ((nI i2) &&& 31)) &&& 1) = 1 then (if (f_MareDisturbing τ i2 i rg) = 0 then (.inl () : Unit ⊕ Int32) else .inr 0) else .inl ())) i 0
  rcases Classical.em (∃ j, j < i ∧ bt laid j = true ∧ nearM τ rg j i) with h | h
  · obtain ⟨j, hj, hb⟩ := h
    obtain ⟨k', r', a', b', c', d'⟩ := L.2 j 0 (Nat.zero_le _) (by omega) ((st j hj).1 hb)
    have r0 : r' = 0 := by
      have := (st k' (by omega)).1
      by_cases z : bt laid k' = true ∧ nearM τ rg k' i
      · rw [this z] at c'
        exact (Sum.inr.inj c').symm
      · rw [(st k' (by omega)).2 z] at c'
        cases c'
    have d2 : xitR (fun i2 s2 => (if ((laid >>> ((nI i2) &&& 31)) &&& 1) = 1 then (if (f_MareDisturbing τ i2 i rg) = 0 then (.inl () : Unit ⊕ Int32) else .inr 0) else .inl ())) i 0 () = .inr r' := d'
    rw [d2, r0]
    exact ⟨fun _ => ⟨j, hj, hb⟩, fun _ => rfl⟩
  · have d2 : xitR (fun i2 s2 => (if ((laid >>> ((nI i2) &&& 31)) &&& 1) = 1 then (if (f_MareDisturbing τ i2 i rg) = 0 then (.inl () : Unit ⊕ Int32) else .inr 0) else .inl ())) i 0 () = .inl () := L.1 fun k _ hk => (st k (by omega)).2 fun q => h ⟨k, by omega, q⟩
    rw [d2]
    exact ⟨fun q => absurd q (by decide), fun q => absurd q h⟩
/-! ===== the class's table of who disturbs whom ===== -/
def nearC (σ : XS9) (rg : Nat → Nat) (a b : Nat) : Prop := rg a = rg b ∨ bt (σ 1013 (rg a)) (rg b) = true
theorem nb_eq {a b : Nat} (hb : b < 32) : f_areNeighbours σ a b = 0 ↔ ¬ bt (σ 1013 a) b = true := by
  unfold f_areNeighbours
  have e := b_tst2 (x := σ 1013 a) (j := b) hb
  cases h : bt (σ 1013 a) b with
  | true =>
    rw [if_neg (fun q => by rw [e.mp q] at h; cases h)]
    exact ⟨fun q => absurd q (by decide), fun q => absurd rfl q⟩
  | false =>
    rw [if_pos (e.mpr h)]
    exact ⟨fun _ q => (by cases q), fun _ => rfl⟩
def stDs (rg : Nat → Nat) (a k : Nat) (s : XS9) : XS9 := (if (nI (rg a)) = (nI (rg k)) then (if (nI a) = (nI k) then s else u2 s 1152 a ((s 1152 a) ||| (1 <<< ((nI k) &&& 31)))) else (if (f_areNeighbours s (rg a) (rg k)) = 0 then s else (if (nI a) = (nI k) then s else u2 s 1152 a ((s 1152 a) ||| (1 <<< ((nI k) &&& 31))))))
theorem stDs_eq (hrg : ∀ j, j < C → rg j < 5) (hC10 : C ≤ 10) {a k : Nat} (ha : a < C) (hk : k < C) {s : XS9} (hs : ∀ q, q ≠ 1152 → s q = σ q) : ((k ≠ a ∧ nearC σ rg a k) → stDs rg a k s = u2 s 1152 a ((s 1152 a) ||| (1 <<< ((nI k) &&& 31)))) ∧ (¬ (k ≠ a ∧ nearC σ rg a k) → stDs rg a k s = s) := by
  have ra := hrg a ha
  have rk := hrg k hk
  have n1 : f_areNeighbours s (rg a) (rg k) = 0 ↔ ¬ bt (σ 1013 (rg a)) (rg k) = true := by
    have := nb_eq (σ := s) (a := rg a) (b := rg k) (by omega)
    rw [hs 1013 (by decide)] at this
    exact this
  unfold stDs
  refine ⟨fun h => ?_, fun h => ?_⟩
  · have ne : ¬ nI a = nI k := fun q => h.1 (nI_inj (by omega) (by omega) q).symm
    rcases h.2 with q | q
    · rw [if_pos (show nI (rg a) = nI (rg k) by rw [q]), if_neg ne]
    · by_cases e1 : nI (rg a) = nI (rg k)
      · rw [if_pos e1, if_neg ne]
      · rw [if_neg e1, if_neg (show ¬ f_areNeighbours s (rg a) (rg k) = 0 from fun z => n1.mp z q), if_neg ne]
  · by_cases e2 : k = a
    · subst e2
      rw [if_pos rfl, if_pos rfl]
    · have hn : ¬ nearC σ rg a k := fun q => h ⟨e2, q⟩
      rw [if_neg (show ¬ nI (rg a) = nI (rg k) from fun q => hn (.inl (nI_inj (by omega) (by omega) q))), if_pos (n1.mpr fun q => hn (.inr q))]
theorem dist_in (hrg : ∀ j, j < C → rg j < 5) (hC10 : C ≤ 10) {a : Nat} (ha : a < C) (s : XS9) (hs : ∀ q, q ≠ 1152 → s q = σ q) : (∀ q, q ≠ 1152 → xit (stDs rg a) C 0 s q = σ q) ∧ (∀ b, b ≠ a → xit (stDs rg a) C 0 s 1152 b = s 1152 b) ∧ ∀ j, j < 32 → (bt (xit (stDs rg a) C 0 s 1152 a) j = true ↔ (bt (s 1152 a) j = true ∨ (j < C ∧ j ≠ a ∧ nearC σ rg a j))) := by
  refine xit_ind (fun k s' => (∀ q, q ≠ 1152 → s' q = σ q) ∧ (∀ b, b ≠ a → s' 1152 b = s 1152 b) ∧ ∀ j, j < 32 → (bt (s' 1152 a) j = true ↔ (bt (s 1152 a) j = true ∨ (j < k ∧ j ≠ a ∧ nearC σ rg a j)))) (N := C) (fun k s' hk hP => ?_) C 0 s (Nat.zero_add _) ⟨hs, fun _ _ => rfl, fun j _ => ⟨.inl, fun h => h.elim id (fun q => absurd q.1 (by omega))⟩⟩
  obtain ⟨p1, p2, p3⟩ := hP
  obtain ⟨q1, q2⟩ := stDs_eq (σ := σ) hrg hC10 ha hk p1
  rcases Classical.em (k ≠ a ∧ nearC σ rg a k) with h | h
  · rw [q1 h]
    refine ⟨fun q hq => (u2_ne hq).trans (p1 q hq), fun b hb => (u2_oi hb).trans (p2 b hb), fun j hj => ?_⟩
    rw [u2_at, b_or, b_bit (by omega) hj, Bool.or_eq_true, p3 j hj]
    by_cases jk : j = k
    · subst jk
      exact ⟨fun _ => .inr ⟨by omega, h.1, h.2⟩, fun _ => .inr (decide_eq_true rfl)⟩
    · rw [decide_eq_false jk]
      constructor
      · rintro ((z | ⟨z1, z2⟩) | z)
        · exact .inl z
        · exact .inr ⟨by omega, z2⟩
        · cases z
      · rintro (z | ⟨z1, z2⟩)
        · exact .inl (.inl z)
        · exact .inl (.inr ⟨by omega, z2⟩)
  · rw [q2 h]
    refine ⟨p1, p2, fun j hj => ?_⟩
    rw [p3 j hj]
    constructor
    · rintro (z | ⟨z1, z2⟩)
      · exact .inl z
      · exact .inr ⟨by omega, z2⟩
    · rintro (z | ⟨z1, z3, z4⟩)
      · exact .inl z
      · by_cases jk : j = k
        · subst jk
          exact absurd ⟨z3, z4⟩ h
        · exact .inr ⟨by omega, z3, z4⟩
/-- each row of the table is done -/
def DISr (σ : XS9) (rg : Nat → Nat) (C : Nat) (s : XS9) : Prop := ∀ a, a < C → ∀ j, j < 32 → (bt (s 1152 a) j = true ↔ (j < C ∧ j ≠ a ∧ nearC σ rg a j))
theorem dist_all (hrg : ∀ j, j < C → rg j < 5) (hC10 : C ≤ 10) : DISr σ rg C (g_findDisturbed σ C rg) ∧ ∀ q, q ≠ 1152 → g_findDisturbed σ C rg q = σ q := by
  refine ⟨?_, fun q hq => fr_findDisturbed hq⟩
  unfold g_findDisturbed x_findDisturbed_2
  have H : ∀ (f k : Nat) (s : XS9), k + f = C → (∀ q, q ≠ 1152 → s q = σ q) → (∀ a, a < k → ∀ j, j < 32 → (bt (s 1152 a) j = true ↔ (j < C ∧ j ≠ a ∧ nearC σ rg a j))) → DISr σ rg C (xit (fun i2 s2 => (x_findDisturbed_19 σ C rg i2 (u2 s2 1152 i2 0))) f k s) := by
    intro f
    induction f with
    | zero =>
      intro k s e hs h a ha
      exact h a (by omega)
    | succ f ih =>
      intro k s e hs h
      have hk : k < C := by omega
      obtain ⟨r1, r2, r3⟩ := dist_in (σ := σ) hrg hC10 hk (u2 s 1152 k 0) (fun q hq => (u2_ne hq).trans (hs q hq))
      refine ih (k + 1) (xit (stDs rg k) C 0 (u2 s 1152 k 0)) (by omega) r1 (fun a ha j hj => ?_)
      by_cases e1 : a = k
      · subst e1
        have := r3 j hj
        rw [u2_at, b_0] at this
        refine this.trans ⟨?_, ?_⟩
        · rintro (z | z)
          · cases z
          · exact z
        · exact fun z => .inr z
      · rw [(r2 a e1).trans (u2_oi e1)]
        exact h a (by omega) j hj
  exact H C 0 σ (Nat.zero_add _) (fun _ _ => rfl) (fun a ha => absurd ha (by omega))
end
end
section
/-! ===== both searches do the same ===== -/
def vXR {S : Type} (w : S ⊕ (S × Int32)) : Int32 := match w with | .inl _ => 0 | .inr r => r.2
def mXR {S : Type} (w : S ⊕ (S × Int32)) : S := match w with | .inl s => s | .inr r => r.1
theorem two_loops {S T : Type} {stepC : Nat → S → S ⊕ (S × Int32)} {stepM : Nat → T → T ⊕ (T × Int32)} {s : S} {t : T} {u ch : Nat} (A : Nat → Prop) (V : Nat → Int32) (hu : u ≤ ch)
    (hC : ∀ k, k ≤ u → k < ch → (¬ A k → stepC k s = .inl s) ∧ (A k → V k = 0 → stepC k s = .inl s) ∧ (A k → ¬ V k = 0 → ∃ s', stepC k s = .inr (s', 1)))
    (hCe : u = ch → stepC u s = .inr (s, 0))
    (hM : ∀ k, k < u → (¬ A k → stepM k t = .inl t) ∧ (A k → V k = 0 → stepM k t = .inl t) ∧ (A k → ¬ V k = 0 → ∃ t', stepM k t = .inr (t', 1)))
    (hMu : u < ch → A u ∧ (V u = 0 → ∃ t', stepM u t = .inr (t', 0)) ∧ (¬ V u = 0 → ∃ t', stepM u t = .inr (t', 1))) :
    ∀ n k, k + n = u → vXR (xitR stepC (n + 1) k s) = vXR (xitR stepM (ch - k) k t) ∧ (vXR (xitR stepC (n + 1) k s) = 0 → mXR (xitR stepC (n + 1) k s) = s)
  | 0, k, e => by
    obtain rfl : k = u := by omega
    rcases Nat.lt_or_ge k ch with l | l
    · obtain ⟨a, b, c⟩ := hMu l
      obtain ⟨p, q, r⟩ := hC k (Nat.le_refl k) l
      rw [show ch - k = (ch - k - 1) + 1 by omega]
      unfold xitR
      by_cases v : V k = 0
      · obtain ⟨t', e2⟩ := b v
        rw [q a v, e2]
        exact ⟨rfl, fun _ => rfl⟩
      · obtain ⟨t', e2⟩ := c v
        obtain ⟨s', e3⟩ := r a v
        rw [e3, e2]
        exact ⟨rfl, fun z => absurd z (by show ¬ (1 : Int32) = 0; decide)⟩
    · rw [show ch - k = 0 by omega]
      unfold xitR
      rw [hCe (by omega)]
      exact ⟨rfl, fun _ => rfl⟩
  | n + 1, k, e => by
    have ih := two_loops A V hu hC hCe hM hMu n (k + 1) (by omega)
    obtain ⟨p, q, r⟩ := hC k (by omega) (by omega)
    obtain ⟨p2, q2, r2⟩ := hM k (by omega)
    rw [show ch - k = (ch - (k + 1)) + 1 by omega]
    have un : ∀ {S R : Type} (step : Nat → S → S ⊕ R) (f i : Nat) (s : S), xitR step (f + 1) i s = (match step i s with | .inl s' => xitR step f (i + 1) s' | .inr r => .inr r) := fun _ _ _ _ => rfl
    rw [un stepC, un stepM]
    by_cases a : A k
    · by_cases v : V k = 0
      · rw [q a v, q2 a v]
        exact ih
      · obtain ⟨s', e3⟩ := r a v
        obtain ⟨t', e2⟩ := r2 a v
        rw [e3, e2]
        exact ⟨rfl, fun z => absurd z (by show ¬ (1 : Int32) = 0; decide)⟩
    · rw [p a, p2 a]
      exact ih
def STC (qa ch i u : Nat) (s t : XS9) : Prop := u ≤ ch ∧ ∀ c, c < ch → s 1153 c = t qa c ∧ ∃ m, m < 2 ^ i ∧ t qa c = nI m ∧ (m = 0 ↔ u ≤ c)
section
variable {s0 t0 s t : XS9} {x : Int32} {i C ch u qa : Nat} {rg : Nat → Nat}
theorem STC.mono {i' : Nat} (h : STC qa ch i u s t) (hi : i ≤ i') : STC qa ch i' u s t := ⟨h.1, fun c hc => by
  obtain ⟨a, m, b, c2, d⟩ := h.2 c hc
  exact ⟨a, m, Nat.lt_of_lt_of_le b (Nat.pow_le_pow_right (by decide) hi), c2, d⟩⟩
theorem STC.cln (h : STC qa ch i u s t) : cln qa ch i t := fun c hc => by
  obtain ⟨a, m, b, c2, d⟩ := h.2 c hc
  exact ⟨m, b, c2⟩
theorem STC.put (h : STC qa ch i u s t) (hi : i < 10) {k : Nat} (hk : k < ch) (hku : k ≤ u) : STC qa ch (i + 1) (max u (k + 1)) (u2 s 1153 k ((s 1153 k) ||| (1 <<< ((nI i) &&& 31)))) (u2 t qa k ((t qa k) ||| (1 <<< ((nI i) &&& 31)))) := by
  refine ⟨by have := h.1; omega, fun c hc => ?_⟩
  obtain ⟨a, m, b, c2, d⟩ := h.2 c hc
  by_cases e : c = k
  · subst e
    rw [u2_at, u2_at, a, c2, (bset hi b).1]
    refine ⟨rfl, m + 2 ^ i, by rw [Nat.pow_succ]; omega, rfl, fun z => ?_, fun z => ?_⟩
    · have := Nat.pow_pos (n := i) (show 0 < 2 by decide)
      omega
    · omega
  · rw [u2_oi e, u2_oi e]
    refine ⟨a, m, by rw [Nat.pow_succ]; omega, c2, d.trans ⟨fun z => by omega, fun z => by omega⟩⟩
theorem cp_end (hC10 : C ≤ 10) : f_Mcp t x C C rg qa ch = 1 := by
  have x3 : x_MpkStep_3 x C C C = C := by
    unfold x_MpkStep_3
    rw [Nat.sub_self]
    rfl
  cases C with
  | zero =>
    show f_MpkStep t (fun (_ : XS9) (_ : Nat) => (0 : Int32)) (fun (s : XS9) (_ : Nat) => s) x 0 0 rg qa ch = 1
    unfold f_MpkStep
    rw [if_pos (by rw [x3])]
  | succ C' =>
    show f_MpkStep t _ _ x (C' + 1) (C' + 1) rg qa ch = 1
    unfold f_MpkStep
    rw [if_pos (by rw [x3])]
theorem sim (hrg : ∀ j, j < C → rg j < 5) (hC10 : C ≤ 10) (hch : ch ≤ 6) (hqa : 20000 ≤ qa) (hD : DISr s0 rg C s0) (hN : ∀ a b, a < C → b < C → (nearC s0 rg a b ↔ nearM t0 rg b a)) : ∀ (f i : Nat), i + f = 10 → i ≤ C → ∀ (s t : XS9) (u : Nat), (∀ q, q ≠ 1153 → s q = s0 q) → (∀ q, q ≠ qa → t q = t0 q) → STC qa ch i u s t →
    (fg_pack ch x C f i).1 s u = f_Mcp t x i C rg qa ch ∧ ((fg_pack ch x C f i).1 s u = 0 → (fg_pack ch x C f i).2 s u = s)
  | 0, i, e, hi, s, t, u, hs, ht, h => by
    obtain rfl : i = C := by omega
    rw [cp_end hC10]
    exact ⟨rfl, fun _ => rfl⟩
  | f + 1, i, e, hi, s, t, u, hs, ht, h => by
    show f_packStep s (fg_pack ch x C f (i + 1)).1 (fg_pack ch x C f (i + 1)).2 i ch u x C = _ ∧ (f_packStep s (fg_pack ch x C f (i + 1)).1 (fg_pack ch x C f (i + 1)).2 i ch u x C = 0 → g_packStep s (fg_pack ch x C f (i + 1)).1 (fg_pack ch x C f (i + 1)).2 i ch u x C = s)
    unfold f_packStep g_packStep
    rcases Nat.lt_or_ge i C with l | l
    · have n1 : ¬ nI C ≤ nI i := fun q => absurd ((nI_leI (a := C) (b := i) (by omega) (by omega)).mp q) (by omega)
      rw [if_neg n1, if_neg n1]
      have ih := sim hrg hC10 hch hqa hD hN f (i + 1) (by omega) (by omega)
      by_cases hb : bt x i = true
      · have nb : ¬ (x &&& (1 <<< ((nI i) &&& 31))) = 0 := fun q => by rw [(b_tst2 (by omega)).mp q] at hb; cases hb
        have nb2 : ¬ ((x >>> ((nI i) &&& 31)) &&& 1) = 0 := fun q => by rw [(b_tst1 (by omega)).2.mp q] at hb; cases hb
        rw [if_neg nb, if_neg nb]
        obtain ⟨C', rfl⟩ : ∃ C', C = C' + 1 := ⟨C - 1, by omega⟩
        have e3 := x3_here hC10 l nb2
        have em : f_Mcp t x i (C' + 1) rg qa ch = vXR (x_MpkStep_51 t (fg_Mpk x (C' + 1) rg qa ch C').1 (fg_Mpk x (C' + 1) rg qa ch C').2 x i (C' + 1) rg qa ch t) := by
          show f_MpkStep t (fg_Mpk x (C' + 1) rg qa ch C').1 (fg_Mpk x (C' + 1) rg qa ch C').2 x i (C' + 1) rg qa ch = _
          unfold f_MpkStep
          rw [if_neg (by rw [e3]; exact fun q => absurd (nI_inj (by omega) (by omega) q) (by omega))]
          cases x_MpkStep_51 t (fg_Mpk x (C' + 1) rg qa ch C').1 (fg_Mpk x (C' + 1) rg qa ch C').2 x i (C' + 1) rg qa ch t <;> rfl
        rw [em]
        have key : vXR (x_packStep_43 s (fg_pack ch x (C' + 1) f (i + 1)).1 (fg_pack ch x (C' + 1) f (i + 1)).2 i ch u x (C' + 1) s) = vXR (x_MpkStep_51 t (fg_Mpk x (C' + 1) rg qa ch C').1 (fg_Mpk x (C' + 1) rg qa ch C').2 x i (C' + 1) rg qa ch t) ∧ (vXR (x_packStep_43 s (fg_pack ch x (C' + 1) f (i + 1)).1 (fg_pack ch x (C' + 1) f (i + 1)).2 i ch u x (C' + 1) s) = 0 → mXR (x_packStep_43 s (fg_pack ch x (C' + 1) f (i + 1)).1 (fg_pack ch x (C' + 1) f (i + 1)).2 i ch u x (C' + 1) s) = s) := by
          unfold x_packStep_43 x_MpkStep_51
          rw [e3]
          have fe : ∀ k, k < ch → ((s 1153 k) &&& (s 1152 i) = 0 ↔ ¬ f_MisFree t (t qa k) i rg = 0) := fun k hk => by
            obtain ⟨a, m, b, c2, d⟩ := h.2 k hk
            rw [free_eq hrg l hC10, b_dis, a, c2, hs 1152 (by decide)]
            refine ⟨fun H ⟨j, j1, j2, j3⟩ => ?_, fun H j j1 j2 => ?_⟩
            · have w := (hD i l j (by omega)).mpr ⟨by omega, by omega, (hN i j l (by omega)).mpr ?_⟩
              · rw [H j (by omega) j2] at w
                cases w
              · unfold nearM at j3 ⊢
                rw [← ht _ (by have := hrg j (by omega); omega)]
                exact j3
            · cases w : bt (s0 1152 i) j with
              | false => rfl
              | true =>
                exfalso
                obtain ⟨w1, w2, w3⟩ := (hD i l j j1).mp w
                have ji : j < i := by
                  rcases Nat.lt_or_ge j i with z | z
                  · exact z
                  · rw [b_lo b z] at j2
                    cases j2
                refine H ⟨j, ji, j2, ?_⟩
                have w4 := (hN i j l w1).mp w3
                unfold nearM at w4 ⊢
                rw [ht _ (by have := hrg j (by omega); omega)]
                exact w4
          have pm : ∀ k, k < ch → (fg_Mpk x (C' + 1) rg qa ch C').2 (u2 t qa k ((t qa k) ||| (1 <<< ((nI i) &&& 31)))) (i + 1) = u2 t qa k ((t qa k) ||| (1 <<< ((nI i) &&& 31))) := fun k hk => pk_same hC10 C' _ (i + 1) (by omega) (by omega) (h.cln.put (by omega) hk).1
          have pf : ∀ k, (fg_Mpk x (C' + 1) rg qa ch C').1 (u2 t qa k ((t qa k) ||| (1 <<< ((nI i) &&& 31)))) (i + 1) = f_Mcp (u2 t qa k ((t qa k) ||| (1 <<< ((nI i) &&& 31)))) x (i + 1) (C' + 1) rg qa ch := fun k => (pk_fuel hC10 C' (C' + 1) _ (i + 1) (by omega) (by omega) (by omega)).1
          have ihk : ∀ k, k < ch → k ≤ u → _ := fun k hk hku => ih (u2 s 1153 k ((s 1153 k) ||| (1 <<< ((nI i) &&& 31)))) (u2 t qa k ((t qa k) ||| (1 <<< ((nI i) &&& 31)))) (max u (k + 1)) (fun q hq => (u2_ne hq).trans (hs q hq)) (fun q hq => (u2_ne hq).trans (ht q hq)) (h.put (by omega) hk hku)
          have TL := two_loops (S := XS9) (T := XS9) (s := s) (t := t) (u := u) (ch := ch) (stepC := fun i43 s43 => (if (nI ch) ≤ (nI i43) then .inr (s43, 0) else (if ((s43 1153 i43) &&& (s43 1152 i)) = 0 then (if ((fg_pack ch x (C' + 1) f (i + 1)).1 (u2 s43 1153 i43 ((s43 1153 i43) ||| (1 <<< ((nI i) &&& 31)))) (max u (i43 + 1))) = 0 then .inl (u2 ((fg_pack ch x (C' + 1) f (i + 1)).2 (u2 s43 1153 i43 ((s43 1153 i43) ||| (1 <<< ((nI i) &&& 31)))) (max u (i43 + 1))) 1153 i43 ((((fg_pack ch x (C' + 1) f (i + 1)).2 (u2 s43 1153 i43 ((s43 1153 i43) ||| (1 <<< ((nI i) &&& 31)))) (max u (i43 + 1))) 1153 i43) - (1 <<< ((nI i) &&& 31)))) else .inr ((fg_pack ch x (C' + 1) f (i + 1)).2 (u2 s43 1153 i43 ((s43 1153 i43) ||| (1 <<< ((nI i) &&& 31)))) (max u (i43 + 1)), 1)) else .inl s43)))
            (stepM := fun i51 s51 => (if (f_MisFree s51 (s51 qa i51) i rg) = 0 then .inl s51 else (if ((fg_Mpk x (C' + 1) rg qa ch C').1 (u2 s51 qa i51 ((s51 qa i51) ||| (1 <<< ((nI i) &&& 31)))) (i + 1)) = 0 then (if ((((fg_Mpk x (C' + 1) rg qa ch C').2 (u2 s51 qa i51 ((s51 qa i51) ||| (1 <<< ((nI i) &&& 31)))) (i + 1)) qa i51) &&& ((1 <<< ((nI i) &&& 31)) ^^^ (-1))) = 0 then .inr (u2 ((fg_Mpk x (C' + 1) rg qa ch C').2 (u2 s51 qa i51 ((s51 qa i51) ||| (1 <<< ((nI i) &&& 31)))) (i + 1)) qa i51 ((((fg_Mpk x (C' + 1) rg qa ch C').2 (u2 s51 qa i51 ((s51 qa i51) ||| (1 <<< ((nI i) &&& 31)))) (i + 1)) qa i51) &&& ((1 <<< ((nI i) &&& 31)) ^^^ (-1))), 0) else .inl (u2 ((fg_Mpk x (C' + 1) rg qa ch C').2 (u2 s51 qa i51 ((s51 qa i51) ||| (1 <<< ((nI i) &&& 31)))) (i + 1)) qa i51 ((((fg_Mpk x (C' + 1) rg qa ch C').2 (u2 s51 qa i51 ((s51 qa i51) ||| (1 <<< ((nI i) &&& 31)))) (i + 1)) qa i51) &&& ((1 <<< ((nI i) &&& 31)) ^^^ (-1))))) else .inr (u2 ((fg_Mpk x (C' + 1) rg qa ch C').2 (u2 s51 qa i51 ((s51 qa i51) ||| (1 <<< ((nI i) &&& 31)))) (i + 1)) qa i51 ((((fg_Mpk x (C' + 1) rg qa ch C').2 (u2 s51 qa i51 ((s51 qa i51) ||| (1 <<< ((nI i) &&& 31)))) (i + 1)) qa i51) &&& ((1 <<< ((nI i) &&& 31)) ^^^ (-1))), 1))))
            (fun k => ¬ f_MisFree t (t qa k) i rg = 0) (fun k => f_Mcp (u2 t qa k ((t qa k) ||| (1 <<< ((nI i) &&& 31)))) x (i + 1) (C' + 1) rg qa ch) h.1 ?_ ?_ ?_ ?_ u 0 (Nat.zero_add u)
          · rw [Nat.sub_zero] at TL
            exact TL
          · intro k hku hk
            have n2 : ¬ nI ch ≤ nI k := fun q => absurd ((nI_leI (a := ch) (b := k) (by have := h.1; omega) (by omega)).mp q) (by omega)
            obtain ⟨r1, r2⟩ := ihk k hk hku
            (try dsimp only)
            rw [if_neg n2]
            refine ⟨fun a => ?_, fun a v => ?_, fun a v => ?_⟩
            · rw [if_neg (fun q => a ((fe k hk).mp q))]
            · rw [if_pos ((fe k hk).mpr a), if_pos (r1.trans v), r2 (r1.trans v)]
              congr 1
              refine u2_back ?_
              obtain ⟨a9, m, b, c2, d⟩ := h.2 k hk
              rw [u2_at, a9, c2, (bset (by omega) b).1, bsubm (by omega) b]
            · rw [if_pos ((fe k hk).mpr a), if_neg (fun q => v (r1.symm.trans q))]
              exact ⟨_, rfl⟩
          · intro eu
            (try dsimp only)
            rw [if_pos (by rw [eu]; exact Int32.le_refl _)]
          · intro k hku
            have hk : k < ch := by have := h.1; omega
            obtain ⟨a9, m, b, c2, d⟩ := h.2 k hk
            have m0 : ¬ t qa k = 0 := fun q => by
              rw [c2] at q
              have := nI_zero (n := m) (by have : 2 ^ i ≤ 2 ^ 9 := Nat.pow_le_pow_right (by decide) (by omega); omega) q
              omega
            obtain ⟨q1, q2⟩ := h.cln.put (by omega) hk
            have q3 : (u2 t qa k ((t qa k) ||| (1 <<< ((nI i) &&& 31)))) qa k &&& ((1 <<< ((nI i) &&& 31)) ^^^ (-1)) = t qa k := by rw [u2_at, c2, (bset (by omega) b).1, (bset (by omega) b).2]
            (try dsimp only)
            rw [pm k hk, pf k, q2, q3]
            refine ⟨fun a => ?_, fun a v => ?_, fun a v => ?_⟩
            · rw [if_pos (Classical.not_not.mp a)]
            · rw [if_neg a, if_pos v, if_neg m0]
            · rw [if_neg a, if_neg v]
              exact ⟨_, rfl⟩
          · intro huc
            obtain ⟨a9, m, b, c2, d⟩ := h.2 u huc
            have m0 : t qa u = 0 := by
              rw [c2, d.mpr (Nat.le_refl u)]
              rfl
            obtain ⟨q1, q2⟩ := h.cln.put (by omega) huc
            have q3 : (u2 t qa u ((t qa u) ||| (1 <<< ((nI i) &&& 31)))) qa u &&& ((1 <<< ((nI i) &&& 31)) ^^^ (-1)) = t qa u := by rw [u2_at, c2, (bset (by omega) b).1, (bset (by omega) b).2]
            have fr : ¬ f_MisFree t (t qa u) i rg = 0 := (fe u huc).mp (by
              rw [a9, m0]
              exact b_dis.mpr fun j _ z => by rw [b_0] at z; cases z)
            (try dsimp only)
            rw [pm u huc, pf u, q2, q3]
            refine ⟨fr, fun v => ?_, fun v => ?_⟩
            · rw [if_neg fr, if_pos v, if_pos m0]
              exact ⟨_, rfl⟩
            · rw [if_neg fr, if_neg v]
              exact ⟨_, rfl⟩
        generalize (x_packStep_43 s (fg_pack ch x (C' + 1) f (i + 1)).1 (fg_pack ch x (C' + 1) f (i + 1)).2 i ch u x (C' + 1) s) = w9 at key ⊢
        cases w9 with
        | inl a => exact key
        | inr a => exact key
      · have hb0 : bt x i = false := by cases w : bt x i with | false => rfl | true => exact absurd w hb
        rw [if_pos ((b_tst2 (by omega)).mpr hb0), if_pos ((b_tst2 (by omega)).mpr hb0), cp_out hC10 l ((b_tst1 (by omega)).2.mpr hb0)]
        exact ih s t u hs ht (h.mono (Nat.le_succ i))
    · obtain rfl : i = C := by omega
      rw [if_pos (Int32.le_refl _), if_pos (Int32.le_refl _), cp_end hC10]
      exact ⟨rfl, fun _ => rfl⟩
end
end
section
/-! ===== stations, alike on both sides ===== -/
def RB (τ : XS9) : Prop := ∀ a b, a < 5 → b < 5 → bt (τ (5010 + a) 3) b = bt (τ (5010 + b) 3) a
section
variable {τ τ2 σ : XS9} {x y v : Int32} {R C ch : Nat}
theorem RB.kept (h : RB τ) (e : ∀ a, a < 5 → τ2 (5010 + a) 3 = τ (5010 + a) 3) : RB τ2 := fun a b ha hb => by
  rw [e a ha, e b hb]
  exact h a b ha hb
theorem RB.ma (h : RB τ) (m : MA τ τ2) : RB τ2 := h.kept fun a ha => m _ _ (by unfold kb; omega)
theorem RB.s00 (h : RB τ) {x : Int32} : RB (u2 (u2 τ 5000 0 0) 5000 0 x) := h.ma MA.s00
theorem RB.init : RB s0M := fun a b ha hb => by rw [s0M_50 (by omega), s0M_50 (by omega), b_0, b_0]
theorem RB.region (h : RB τ) (ha : RA τ σ) (hR5 : R ≤ 5) (eR : cn (τ 5001 900) = R) : RB (g_Mregion τ x y v R) := by
  unfold g_Mregion
  (repeat' split) <;> first | exact h.s00 | skip
  rename_i hn
  have hR : R < 5 := by
    have : R ≠ 5 := fun e => hn (by rw [e]; rfl)
    omega
  refine h.kept fun a ha5 => ?_
  by_cases e : a = R
  · subst e
    rw [u2_ne (by omega), uR_eq]
    exact (ha.2.2.2.2.2 a (by omega) ha5).symm
  · rw [u2_ne (by omega), uR_ne (by omega), u2_ne (by omega)]
theorem RB.bidder {u : Int32} {B : Nat} (h : RB τ) (hB6 : B ≤ 6) : RB (g_Mbidder τ x y v u B) := by
  unfold g_Mbidder
  (repeat' split) <;> first | exact h.s00 | (refine h.kept fun a ha5 => ?_; rw [u2_ne (by omega), u2_ne (by omega), uR_ne (by omega), u2_ne (by omega)])
theorem RB.rules (h : RB τ) : RB (g_Mrules τ x y) := by
  unfold g_Mrules
  (repeat' split) <;> first | exact h.s00 | (refine h.kept fun a ha5 => ?_; rw [u2_ne (by omega), u2_ne (by omega), u2_ne (by omega)])
theorem RB.knock (h : RB τ) : RB (g_Mknock τ) := h.kept fun a ha5 => by
  unfold g_Mknock
  rw [u2_ne (by omega), u2_ne (by omega)]
theorem RB.station (h : RB τ) : RB (g_Mstation τ x y R C) := by
  unfold g_Mstation g_addI
  (repeat' split) <;> first | exact h.s00 | (refine h.kept fun a ha5 => ?_; rw [u2_ne (by omega), u2_ne (by omega), u2_ne (by omega), u2_ne (by omega), u2_ne (by omega)])
theorem RB.ask (h : RB τ) : RB (g_Mask τ x y C) := by
  unfold g_Mask g_setS
  (repeat' split) <;> first | exact h.s00 | (refine h.kept fun a ha5 => ?_; rw [u2_ne (by omega), u2_ne (by omega), u2_ne (by omega)])
theorem RB.border (h : RB τ) (hR5 : R ≤ 5) : RB (g_Mborder τ x y R) := by
  unfold g_Mborder
  split
  · rename_i hx
    split
    · rename_i hy
      split
      · exact h.s00
      · rename_i hn
        split
        · have hx2 := hx.2
          have hy2 := hy.2
          have hxy : cn y ≠ cn x := fun e => hn (by rw [e])
          rw [u2_ne (show 5010 + cn y ≠ 5010 + cn x by omega), u2_ne (show 5010 + cn y ≠ 5000 by omega)]
          have row : ∀ a b, a < 5 → b < 5 → bt (u2 (u2 (u2 τ 5000 0 0) (5010 + cn x) 3 (τ (5010 + cn x) 3 ||| 1 <<< (nI (cn y) &&& 31))) (5010 + cn y) 3 (τ (5010 + cn y) 3 ||| 1 <<< (nI (cn x) &&& 31)) (5010 + a) 3) b = (bt (τ (5010 + a) 3) b || decide ((a = cn x ∧ b = cn y) ∨ (a = cn y ∧ b = cn x))) := fun a b ha hb => by
            by_cases e1 : a = cn y
            · subst e1
              rw [u2_at, b_or, b_bit (by omega) (by omega)]
              congr 1
              refine decide_eq_decide.mpr ⟨fun z => .inr ⟨rfl, z⟩, fun z => ?_⟩
              rcases z with z | z
              · exact absurd z.1 hxy
              · exact z.2
            · rw [u2_ne (show 5010 + a ≠ 5010 + cn y by omega)]
              by_cases e2 : a = cn x
              · subst e2
                rw [u2_at, b_or, b_bit (by omega) (by omega)]
                congr 1
                refine decide_eq_decide.mpr ⟨fun z => .inl ⟨rfl, z⟩, fun z => ?_⟩
                rcases z with z | z
                · exact z.2
                · exact absurd z.1 e1
              · rw [u2_ne (show 5010 + a ≠ 5010 + cn x by omega), u2_ne (show 5010 + a ≠ 5000 by omega), decide_eq_false (by omega), Bool.or_false]
          intro a b ha hb
          rw [row a b ha hb, row b a hb ha, h a b ha hb]
          congr 1
          exact decide_eq_decide.mpr ⟨fun z => by omega, fun z => by omega⟩
        · exact h.s00
    · exact h.s00
  · exact h.s00
/-- the search from any rows that hold what was told, on both sides -/
theorem pack_any {s0 t0 : XS9} (h : RA τ σ) (hb : RB τ) (r : JR τ) (hch : ch ≤ 6) (s1013 : s0 1013 = σ 1013) (s1152 : s0 1152 = g_findDisturbed σ (mC τ) (arg σ) 1152) (z1153 : ∀ c, c < 6 → s0 1153 c = 0) (hm : ∀ a, a < 5 → t0 (5010 + a) = τ (5010 + a)) (ht : t0 20000 = rowN ch) : (fg_pack ch x (mC τ) 10 0).1 s0 0 = f_Mcp t0 x 0 (mC τ) (mrg τ) 20000 ch := by
  have hC10 := r.hS.2
  have hrg : ∀ j, j < mC τ → mrg τ j < 5 := fun j hj => Nat.lt_of_lt_of_le (r.hrg j hj).2 r.hR.2
  have erg : ∀ j, j < mC τ → arg σ j = mrg τ j := fun j hj => by
    show cn (σ 1151 j) = cn (τ 5004 (2 * j))
    rw [(h.2.2.2.2.1 j (by omega)).2]
  have hrgC : ∀ j, j < mC τ → arg σ j < 5 := fun j hj => by rw [erg j hj]; exact hrg j hj
  obtain ⟨d1, d2⟩ := dist_all (σ := σ) hrgC hC10
  have nC : ∀ a j, a < mC τ → j < mC τ → (nearC σ (arg σ) a j ↔ nearC σ (mrg τ) a j) := fun a j ha hj => by
    unfold nearC
    rw [erg a ha, erg j hj]
  refine (sim (s0 := s0) (t0 := t0) hrg hC10 hch (qa := 20000) (Nat.le_refl _) ?_ ?_ 10 0 rfl (Nat.zero_le _) s0 t0 0 (fun _ _ => rfl) (fun _ _ => rfl) ⟨Nat.zero_le _, fun c hc => ?_⟩).1
  · intro a ha j hj
    rw [s1152, d1 a ha j hj]
    have e9 : ∀ rg : Nat → Nat, nearC s0 rg a j ↔ nearC σ rg a j := fun rg => by
      unfold nearC
      rw [s1013]
    rw [e9]
    exact ⟨fun ⟨p, q, w⟩ => ⟨p, q, (nC a j ha p).mp w⟩, fun ⟨p, q, w⟩ => ⟨p, q, (nC a j ha p).mpr w⟩⟩
  · intro a b ha hb2
    unfold nearC nearM
    rw [s1013, hm _ (hrg b hb2), (h.2.1 _ (hrg a ha)).2.2.2, hb _ _ (hrg a ha) (hrg b hb2)]
    exact ⟨fun z => z.imp Eq.symm id, fun z => z.imp Eq.symm id⟩
  · rw [z1153 c (by omega), ht]
    have : rowN ch c = 0 := by
      unfold rowN
      rw [if_neg (by omega), if_neg (by omega)]
    rw [this]
    exact ⟨rfl, 0, Nat.one_pos, rfl, ⟨fun _ => Nat.zero_le _, fun _ => rfl⟩⟩
theorem again_any {s0 t0 : XS9} (h : RA τ σ) (hb : RB τ) (r : JR τ) (hch : ch ≤ 6) (hs : ∀ q, q ≠ 1153 → s0 q = g_findDisturbed σ (mC τ) (arg σ) q) (hm : ∀ a, a < 5 → t0 (5010 + a) = τ (5010 + a)) (ht : t0 20000 = rowN ch) : f_packAgain s0 x ch (mC τ) = f_Mcp t0 x 0 (mC τ) (mrg τ) 20000 ch :=
  pack_any (s0 := g_fill s0 1153 6 0) h hb r hch (by rw [fr_fill (by decide), hs _ (by decide), fr_findDisturbed (by decide)]) (by rw [fr_fill (by decide), hs _ (by decide)]) (fun c hc => fill_at 6 0 _ (fun q => absurd q (by omega)) (by omega)) hm ht
theorem pack_eq (h : RA τ σ) (hb : RB τ) (r : JR τ) (hch : ch ≤ 6) : f_pack σ x ch (mC τ) (arg σ) = f_Mcp (uR (u2 τ 5000 0 0) 20000 (rowN ch)) x 0 (mC τ) (mrg τ) 20000 ch :=
  again_any h hb r hch (fun _ _ => rfl) (fun a ha => by rw [uR_ne (by omega), u2_ne (by omega)]) (uR_eq _ _ _)
end
end
section
/-! ===== the answers of packs and clear ===== -/
section
variable {τ σ : XS9} {x y v : Int32} {C ch : Nat}
theorem cp_01 {s : XS9} {x : Int32} {i C : Nat} {rg : Nat → Nat} {qa ch : Nat} : f_Mcp s x i C rg qa ch = 0 ∨ f_Mcp s x i C rg qa ch = 1 := bo_Mpk C s i
theorem says_packs (h : RA τ σ) (hb : RB τ) (r : JR τ) (eC : aC σ = mC τ) : g_Mpacks τ x y (mR τ) (mC τ) (mrg τ) 5000 0 = lw_k [eIAE] (o_packs σ x y (aC σ) (arg σ)) ∧ ∀ w, o_packs σ x y (aC σ) (arg σ) = .inl w → w = f_Mpacks τ x y (mR τ) (mC τ) (mrg τ) := by
  rw [eC]
  unfold g_Mpacks o_packs f_Mpacks
  by_cases c1 : n_lt x (2 ^ mC τ)
  · by_cases c2 : n_bt y 1 6
    · have hc := cn6 c2
      simp only [if_pos c1, if_pos c2]
      refine ⟨?_, fun w e => ?_⟩
      · rw [u2_ne (by decide), fr_Mcp ⟨by decide, hc⟩, uR_ne (by decide), u2_at]
        rfl
      · rw [← Sum.inl.inj e, pack_eq h hb r hc]
        rcases cp_01 (s := uR (u2 τ 5000 0 0) 20000 (rowN (cn y))) (x := nI (cn x)) (i := 0) (C := mC τ) (rg := mrg τ) (qa := 20000) (ch := cn y) with z | z
        · rw [if_pos z, z]
        · rw [if_neg (by rw [z]; decide), z]
    · simp only [if_pos c1, if_neg c2]
      exact ⟨u2_at, fun w e => by cases e⟩
  · simp only [if_neg c1]
    exact ⟨u2_at, fun w e => by cases e⟩
/-- asks are from 1 to 9999 -/
def RS (τ : XS9) : Prop := ∀ k, k < mC τ → bd 9999 (τ 5004 (2 * k + 1)) ∧ τ 5004 (2 * k + 1) ≠ 0
end
end
section
/-! ===== the packing's channels ===== -/
section
variable {s0 t0 s t : XS9} {x y v : Int32} {i C u : Nat} {rg : Nat → Nat}
theorem chan_min (hC10 : C ≤ 10) {i : Nat} {s : XS9} (h : PJc x y C rg i 0 s) : (x_Mchannel_104 x y C rg i (s, 0)).1 = s ∧ (x_Mchannel_104 x y C rg i (s, 0)).2 < cn y ∧ ¬ f_MisFits s (nI (cn x)) i (x_Mchannel_104 x y C rg i (s, 0)).2 C rg 20000 (cn y) = 0 ∧ ∀ c', c' < (x_Mchannel_104 x y C rg i (s, 0)).2 → f_MisFits s (nI (cn x)) i c' C rg 20000 (cn y) = 0 := by
  unfold x_Mchannel_104
  refine xitB_fin (fun k t => t = (s, k) ∧ PJc x y C rg i k s) (fun t => t.1 = s ∧ t.2 < cn y ∧ ¬ f_MisFits s (nI (cn x)) i t.2 C rg 20000 (cn y) = 0 ∧ ∀ c', c' < t.2 → f_MisFits s (nI (cn x)) i c' C rg 20000 (cn y) = 0) (N := cn y) (fun k t hk ht => ?_) (fun t ht => (PJc.no hC10 ht.2).elim) (cn y) 0 (s, 0) (Nat.zero_add _) ⟨rfl, h⟩
  obtain ⟨rfl, hp⟩ := ht
  have e := fits_same (rg := rg) (x := nI (cn x)) hC10 hp.1 hk hp.2.2.1
  (try dsimp only)
  split
  · rename_i hf
    refine ⟨fun s' q => ?_, fun s' q => (by cases q)⟩
    rw [← Sum.inl.inj q, e]
    have := hp.next hC10 hk hf
    rw [e] at this
    exact ⟨rfl, this⟩
  · rename_i hf
    refine ⟨fun s' q => (by cases q), fun s' q => ?_⟩
    rw [← Sum.inr.inj q]
    exact ⟨e, hk, hf, hp.2.2.2.2⟩
theorem first_hit {S : Type} {stepC : Nat → S → S ⊕ (S × Int32)} {s : S} {u ch : Nat} (A : Nat → Prop) (V : Nat → Int32) (G : Nat → S)
    (hC : ∀ k, k ≤ u → k < ch → (¬ A k → stepC k s = .inl s) ∧ (A k → V k = 0 → stepC k s = .inl s) ∧ (A k → ¬ V k = 0 → stepC k s = .inr (G k, 1)))
    (hCe : ∀ k, k ≤ u → ch ≤ k → stepC k s = .inr (s, 0)) :
    ∀ n k, k + n = u → ¬ vXR (xitR stepC (n + 1) k s) = 0 → ∃ k', k ≤ k' ∧ k' ≤ u ∧ k' < ch ∧ A k' ∧ ¬ V k' = 0 ∧ (∀ c, k ≤ c → c < k' → ¬ A c ∨ V c = 0) ∧ xitR stepC (n + 1) k s = .inr (G k', 1) := by
  intro n
  induction n with
  | zero =>
    intro k e nz
    have un0 : ∀ {S R : Type} (step : Nat → S → S ⊕ R) (f i : Nat) (s : S), xitR step (f + 1) i s = (match step i s with | .inl s' => xitR step f (i + 1) s' | .inr r => .inr r) := fun _ _ _ _ => rfl
    have un := un0 stepC 0 k s
    rcases Nat.lt_or_ge k ch with l | l
    · obtain ⟨p, q, r⟩ := hC k (by omega) l
      by_cases a : A k
      · by_cases w : V k = 0
        · rw [un, q a w] at nz
          exact absurd rfl nz
        · refine ⟨k, Nat.le_refl k, by omega, l, a, w, fun c h1 h2 => absurd h1 (by omega), ?_⟩
          rw [un, r a w]
      · rw [un, p a] at nz
        exact absurd rfl nz
    · rw [un, hCe k (by omega) l] at nz
      exact absurd rfl nz
  | succ n ih =>
    intro k e nz
    have un0 : ∀ {S R : Type} (step : Nat → S → S ⊕ R) (f i : Nat) (s : S), xitR step (f + 1) i s = (match step i s with | .inl s' => xitR step f (i + 1) s' | .inr r => .inr r) := fun _ _ _ _ => rfl
    have un := un0 stepC (n + 1) k s
    rcases Nat.lt_or_ge k ch with l | l
    · obtain ⟨p, q, r⟩ := hC k (by omega) l
      have miss : stepC k s = .inl s → (¬ A k ∨ V k = 0) → ∃ k', k ≤ k' ∧ k' ≤ u ∧ k' < ch ∧ A k' ∧ ¬ V k' = 0 ∧ (∀ c, k ≤ c → c < k' → ¬ A c ∨ V c = 0) ∧ xitR stepC (n + 1 + 1) k s = .inr (G k', 1) := fun z z2 => by
        rw [un, z] at nz
        obtain ⟨k', a1, a2, a3, a4, a5, a6, a7⟩ := ih (k + 1) (by omega) nz
        refine ⟨k', by omega, a2, a3, a4, a5, fun c h1 h2 => ?_, ?_⟩
        · by_cases e2 : c = k
          · rw [e2]
            exact z2
          · exact a6 c (by omega) h2
        · rw [un, z]
          exact a7
      by_cases a : A k
      · by_cases w : V k = 0
        · exact miss (q a w) (.inr w)
        · refine ⟨k, Nat.le_refl k, by omega, l, a, w, fun c h1 h2 => absurd h1 (by omega), ?_⟩
          rw [un, r a w]
      · exact miss (p a) (.inl a)
    · rw [un, hCe k (by omega) l] at nz
      exact absurd rfl nz
theorem free_fe {qa ch : Nat} (hrg : ∀ j, j < C → rg j < 5) (hC10 : C ≤ 10) (hqa : 20000 ≤ qa) (hD : DISr s0 rg C s0) (hN : ∀ a b, a < C → b < C → (nearC s0 rg a b ↔ nearM t0 rg b a)) (hs : ∀ q, q ≠ 1153 → s q = s0 q) (ht : ∀ q, q ≠ qa → t q = t0 q) (h : STC qa ch i u s t) (l : i < C) {k : Nat} (hk : k < ch) : (s 1153 k) &&& (s 1152 i) = 0 ↔ ¬ f_MisFree t (t qa k) i rg = 0 := by
  obtain ⟨a, m, b, c2, d⟩ := h.2 k hk
  rw [free_eq hrg l hC10, b_dis, a, c2, hs 1152 (by decide)]
  refine ⟨fun H ⟨j, j1, j2, j3⟩ => ?_, fun H j j1 j2 => ?_⟩
  · have w := (hD i l j (by omega)).mpr ⟨by omega, by omega, (hN i j l (by omega)).mpr ?_⟩
    · rw [H j (by omega) j2] at w
      cases w
    · unfold nearM at j3 ⊢
      rw [← ht _ (by have := hrg j (by omega); omega)]
      exact j3
  · cases w : bt (s0 1152 i) j with
    | false => rfl
    | true =>
      exfalso
      obtain ⟨w1, w2, w3⟩ := (hD i l j j1).mp w
      have ji : j < i := by
        rcases Nat.lt_or_ge j i with z | z
        · exact z
        · rw [b_lo b z] at j2
          cases j2
      refine H ⟨j, ji, j2, ?_⟩
      have w4 := (hN i j l w1).mp w3
      unfold nearM at w4 ⊢
      rw [ht _ (by have := hrg j (by omega); omega)]
      exact w4
/-- both keep the same channels -/
theorem pack_fin (hrg : ∀ j, j < C → rg j < 5) (hC10 : C ≤ 10) (hch : cn y ≤ 6) (hD : DISr s0 rg C s0) (hN : ∀ a b, a < C → b < C → (nearC s0 rg a b ↔ nearM t0 rg b a)) : ∀ (f i : Nat), i + f = 10 → i ≤ C → ∀ (s t : XS9) (u : Nat), (∀ q, q ≠ 1153 → s q = s0 q) → (∀ q, q ≠ 20000 → t q = t0 q) → STC 20000 (cn y) i u s t → ¬ (fg_pack (cn y) (nI (cn x)) C f i).1 s u = 0 →
    (∀ c, c < cn y → ∀ j, j < i → bt ((fg_pack (cn y) (nI (cn x)) C f i).2 s u 1153 c) j = bt (s 1153 c) j) ∧ (∀ c, cn y ≤ c → (fg_pack (cn y) (nI (cn x)) C f i).2 s u 1153 c = s 1153 c) ∧ (∀ j, i ≤ j → bt (nI (cn x)) j = false → ∀ c, c < cn y → bt ((fg_pack (cn y) (nI (cn x)) C f i).2 s u 1153 c) j = false) ∧ ∀ v : Int32, i ≤ cn v → cn v < C → bt (nI (cn x)) (cn v) = true → ∃ k t', k < cn y ∧ xitR (s_Mchan x y v C rg) (cn v + 1 - i) i t = .inr (t', nI k) ∧ ∀ c, c < cn y → (bt ((fg_pack (cn y) (nI (cn x)) C f i).2 s u 1153 c) (cn v) = true ↔ c = k)
  | 0, i, e, hi, s, t, u, hs, ht, h, nz => by
    obtain rfl : i = C := by omega
    refine ⟨fun c _ j _ => rfl, fun c _ => rfl, fun j hj _ c hc => ?_, fun v h1 h2 => absurd h1 (by omega)⟩
    obtain ⟨a, m, b, c2, d⟩ := h.2 c hc
    show bt (s 1153 c) j = false
    rw [a, c2]
    exact b_lo b hj
  | f + 1, i, e, hi, s, t, u, hs, ht, h, nz => by
    have S := sim (x := nI (cn x)) (qa := 20000) hrg hC10 hch (Nat.le_refl _) hD hN
    have S0 := (S (f + 1) i e hi s t u hs ht h).1
    have low : ∀ c, c < cn y → ∀ j, i ≤ j → bt (s 1153 c) j = false := fun c hc j hj => by
      obtain ⟨a, m, b, c2, d⟩ := h.2 c hc
      rw [a, c2]
      exact b_lo b hj
    have eF : (fg_pack (cn y) (nI (cn x)) C (f + 1) i).2 s u = g_packStep s (fg_pack (cn y) (nI (cn x)) C f (i + 1)).1 (fg_pack (cn y) (nI (cn x)) C f (i + 1)).2 i (cn y) u (nI (cn x)) C := rfl
    have eV : (fg_pack (cn y) (nI (cn x)) C (f + 1) i).1 s u = f_packStep s (fg_pack (cn y) (nI (cn x)) C f (i + 1)).1 (fg_pack (cn y) (nI (cn x)) C f (i + 1)).2 i (cn y) u (nI (cn x)) C := rfl
    rcases Nat.lt_or_ge i C with l | l
    · have n1 : ¬ nI C ≤ nI i := fun q => absurd ((nI_leI (a := C) (b := i) (by omega) (by omega)).mp q) (by omega)
      have ih := pack_fin hrg hC10 hch hD hN f (i + 1) (by omega) (by omega)
      have un0 : ∀ {S R : Type} (step : Nat → S → S ⊕ R) (f i : Nat) (s : S), xitR step (f + 1) i s = (match step i s with | .inl s' => xitR step f (i + 1) s' | .inr r => .inr r) := fun _ _ _ _ => rfl
      have un : ∀ (v : Int32) (n : Nat) (t : XS9), _ := fun v n t => un0 (s_Mchan x y v C rg) n i t
      cases hb : bt (nI (cn x)) i with
      | false =>
        have z0 := (b_tst2 (x := nI (cn x)) (j := i) (by omega)).mpr hb
        have g1 : (fg_pack (cn y) (nI (cn x)) C (f + 1) i).2 s u = (fg_pack (cn y) (nI (cn x)) C f (i + 1)).2 s u := by
          rw [eF]
          unfold g_packStep
          rw [if_neg n1, if_pos z0]
        have g2 : (fg_pack (cn y) (nI (cn x)) C (f + 1) i).1 s u = (fg_pack (cn y) (nI (cn x)) C f (i + 1)).1 s u := by
          rw [eV]
          unfold f_packStep
          rw [if_neg n1, if_pos z0]
        rw [g2] at nz
        rw [g1]
        obtain ⟨p1, p2, p3, p4⟩ := ih s t u hs ht (h.mono (Nat.le_succ i)) nz
        refine ⟨fun c hc j hj => p1 c hc j (by omega), p2, fun j hj hz c hc => ?_, fun v h1 h2 h3 => ?_⟩
        · by_cases ej : j = i
          · rw [ej, p1 c hc i (Nat.lt_succ_self i)]
            exact low c hc i (Nat.le_refl i)
          · exact p3 j (by omega) hz c hc
        · have ne : cn v ≠ i := fun q => by
            rw [q, hb] at h3
            cases h3
          obtain ⟨k, t', a1, a2, a3⟩ := p4 v (by omega) h2 h3
          refine ⟨k, t', a1, ?_, a3⟩
          rw [show cn v + 1 - i = (cn v + 1 - (i + 1)) + 1 by omega, un, show s_Mchan x y v C rg i t = .inl t from if_pos ((b_tst1 (by omega)).2.mpr hb)]
          exact a2
      | true =>
        have nb : ¬ (nI (cn x) &&& (1 <<< ((nI i) &&& 31))) = 0 := fun q => by rw [(b_tst2 (by omega)).mp q] at hb; cases hb
        have nb2 : ¬ ((nI (cn x) >>> ((nI i) &&& 31)) &&& 1) = 0 := fun q => by rw [(b_tst1 (by omega)).2.mp q] at hb; cases hb
        have ihk : ∀ k, k < cn y → k ≤ u → _ := fun k hk hku => S f (i + 1) (by omega) (by omega) (u2 s 1153 k ((s 1153 k) ||| (1 <<< ((nI i) &&& 31)))) (u2 t 20000 k ((t 20000 k) ||| (1 <<< ((nI i) &&& 31)))) (max u (k + 1)) (fun q hq => (u2_ne hq).trans (hs q hq)) (fun q hq => (u2_ne hq).trans (ht q hq)) (h.put (by omega) hk hku)
        have fV : (fg_pack (cn y) (nI (cn x)) C (f + 1) i).1 s u = vXR (x_packStep_43 s (fg_pack (cn y) (nI (cn x)) C f (i + 1)).1 (fg_pack (cn y) (nI (cn x)) C f (i + 1)).2 i (cn y) u (nI (cn x)) C s) := by
          rw [eV]
          unfold f_packStep
          rw [if_neg n1, if_neg nb]
          cases x_packStep_43 s (fg_pack (cn y) (nI (cn x)) C f (i + 1)).1 (fg_pack (cn y) (nI (cn x)) C f (i + 1)).2 i (cn y) u (nI (cn x)) C s <;> rfl
        have fG : (fg_pack (cn y) (nI (cn x)) C (f + 1) i).2 s u = mXR (x_packStep_43 s (fg_pack (cn y) (nI (cn x)) C f (i + 1)).1 (fg_pack (cn y) (nI (cn x)) C f (i + 1)).2 i (cn y) u (nI (cn x)) C s) := by
          rw [eF]
          unfold g_packStep
          rw [if_neg n1, if_neg nb]
          cases x_packStep_43 s (fg_pack (cn y) (nI (cn x)) C f (i + 1)).1 (fg_pack (cn y) (nI (cn x)) C f (i + 1)).2 i (cn y) u (nI (cn x)) C s <;> rfl
        have fe : ∀ k, k < cn y → ((s 1153 k) &&& (s 1152 i) = 0 ↔ ¬ f_MisFree t (t 20000 k) i rg = 0) := fun k hk => free_fe hrg hC10 (Nat.le_refl _) hD hN hs ht h l hk
        have nz2 := nz
        rw [fV] at nz2
        have FH := first_hit (S := XS9) (stepC := fun i43 s43 => (if (nI (cn y)) ≤ (nI i43) then .inr (s43, 0) else (if ((s43 1153 i43) &&& (s43 1152 i)) = 0 then (if ((fg_pack (cn y) (nI (cn x)) C f (i + 1)).1 (u2 s43 1153 i43 ((s43 1153 i43) ||| (1 <<< ((nI i) &&& 31)))) (max u (i43 + 1))) = 0 then .inl (u2 ((fg_pack (cn y) (nI (cn x)) C f (i + 1)).2 (u2 s43 1153 i43 ((s43 1153 i43) ||| (1 <<< ((nI i) &&& 31)))) (max u (i43 + 1))) 1153 i43 ((((fg_pack (cn y) (nI (cn x)) C f (i + 1)).2 (u2 s43 1153 i43 ((s43 1153 i43) ||| (1 <<< ((nI i) &&& 31)))) (max u (i43 + 1))) 1153 i43) - (1 <<< ((nI i) &&& 31)))) else .inr ((fg_pack (cn y) (nI (cn x)) C f (i + 1)).2 (u2 s43 1153 i43 ((s43 1153 i43) ||| (1 <<< ((nI i) &&& 31)))) (max u (i43 + 1)), 1)) else .inl s43))) (s := s) (u := u) (ch := cn y) (fun k => (s 1153 k) &&& (s 1152 i) = 0) (fun k => (fg_pack (cn y) (nI (cn x)) C f (i + 1)).1 (u2 s 1153 k ((s 1153 k) ||| (1 <<< ((nI i) &&& 31)))) (max u (k + 1))) (fun k => (fg_pack (cn y) (nI (cn x)) C f (i + 1)).2 (u2 s 1153 k ((s 1153 k) ||| (1 <<< ((nI i) &&& 31)))) (max u (k + 1))) ?_ ?_ u 0 (Nat.zero_add u) nz2
        · obtain ⟨k, _, ku, kc, kA, kV, kmin, ke⟩ := FH
          have kmin : ∀ c, c < k → ¬ (s 1153 c) &&& (s 1152 i) = 0 ∨ (fg_pack (cn y) (nI (cn x)) C f (i + 1)).1 (u2 s 1153 c ((s 1153 c) ||| (1 <<< ((nI i) &&& 31)))) (max u (c + 1)) = 0 := fun c hc => kmin c (Nat.zero_le c) hc
          have kV : ¬ (fg_pack (cn y) (nI (cn x)) C f (i + 1)).1 (u2 s 1153 k ((s 1153 k) ||| (1 <<< ((nI i) &&& 31)))) (max u (k + 1)) = 0 := kV
          have g1 : (fg_pack (cn y) (nI (cn x)) C (f + 1) i).2 s u = (fg_pack (cn y) (nI (cn x)) C f (i + 1)).2 (u2 s 1153 k ((s 1153 k) ||| (1 <<< ((nI i) &&& 31)))) (max u (k + 1)) := by
            rw [fG]
            unfold x_packStep_43
            rw [ke]
            rfl
          have hput := h.put (show i < 10 by omega) kc ku
          obtain ⟨p1, p2, p3, p4⟩ := ih (u2 s 1153 k ((s 1153 k) ||| (1 <<< ((nI i) &&& 31)))) (u2 t 20000 k ((t 20000 k) ||| (1 <<< ((nI i) &&& 31)))) (max u (k + 1)) (fun q hq => (u2_ne hq).trans (hs q hq)) (fun q hq => (u2_ne hq).trans (ht q hq)) hput kV
          -- the reference's channel
          have pj : PJc x y C rg i 0 t := ⟨l, nb2, h.cln, fun z => nz (S0.trans z), fun c' hc' => absurd hc' (by omega)⟩
          obtain ⟨m1, m2, m3, m4⟩ := chan_min hC10 pj
          obtain ⟨kM, ekM⟩ : ∃ kM, kM = (x_Mchannel_104 x y C rg i (t, 0)).2 := ⟨_, rfl⟩
          rw [← ekM] at m2 m3 m4
          have fits : ∀ c, c < cn y → c ≤ u → (¬ f_MisFits t (nI (cn x)) i c C rg 20000 (cn y) = 0 ↔ ((s 1153 c) &&& (s 1152 i) = 0 ∧ ¬ (fg_pack (cn y) (nI (cn x)) C f (i + 1)).1 (u2 s 1153 c ((s 1153 c) ||| (1 <<< ((nI i) &&& 31)))) (max u (c + 1)) = 0)) := fun c hc hcu => by
            rw [(ihk c hc hcu).1, fe c hc]
            unfold f_MisFits
            by_cases w : f_MisFree t (t 20000 c) i rg = 0
            · rw [if_pos w]
              exact ⟨fun z => absurd rfl z, fun z => absurd w z.1⟩
            · rw [if_neg w]
              exact ⟨fun z => ⟨w, z⟩, fun z => z.2⟩
          have ek : kM = k := by
            rcases Nat.lt_trichotomy kM k with z | z | z
            · have q := (fits kM m2 (by omega)).mp m3
              rcases kmin kM z with w | w
              · exact absurd q.1 w
              · exact absurd w q.2
            · exact z
            · exact absurd (m4 k z) ((fits k kc ku).mpr ⟨kA, kV⟩)
          have bits : ∀ c, c < cn y → (bt ((fg_pack (cn y) (nI (cn x)) C f (i + 1)).2 (u2 s 1153 k ((s 1153 k) ||| (1 <<< ((nI i) &&& 31)))) (max u (k + 1)) 1153 c) i = true ↔ c = k) := fun c hc => by
            rw [p1 c hc i (Nat.lt_succ_self i)]
            by_cases z : c = k
            · rw [z, u2_at, b_or, b_bit (by omega) (by omega), decide_eq_true rfl, Bool.or_true]
              exact ⟨fun _ => rfl, fun _ => rfl⟩
            · rw [u2_oi z, low c hc i (Nat.le_refl i)]
              exact ⟨fun w => (by cases w), fun w => absurd w z⟩
          rw [g1]
          refine ⟨fun c hc j hj => ?_, fun c hc => ?_, fun j hj hz c hc => ?_, fun v h1 h2 h3 => ?_⟩
          · rw [p1 c hc j (by omega)]
            by_cases z : c = k
            · rw [z, u2_at, b_or, b_bit (by omega) (by omega), decide_eq_false (by omega), Bool.or_false]
            · rw [u2_oi z]
          · rw [p2 c hc, u2_oi (by omega)]
          · by_cases ej : j = i
            · rw [ej, hb] at hz
              cases hz
            · exact p3 j (by omega) hz c hc
          · by_cases ev : cn v = i
            · have S1 : ∃ t', xitR (s_Mchan x y v C rg) (cn v + 1 - i) i t = .inr (t', nI k) := by
                have st : s_Mchan x y v C rg i t = .inr (u2 (u2 ((x_Mchannel_104 x y C rg i (t, 0)).1) 20000 ((x_Mchannel_104 x y C rg i (t, 0)).2) ((((x_Mchannel_104 x y C rg i (t, 0)).1) 20000 ((x_Mchannel_104 x y C rg i (t, 0)).2)) ||| (1 <<< ((nI i) &&& 31)))) 20000 20 0, nI ((x_Mchannel_104 x y C rg i (t, 0)).2)) := (if_neg nb2).trans (if_pos (by rw [ev]))
                rw [← ekM, ek] at st
                rw [show cn v + 1 - i = 0 + 1 by omega, un, st]
                exact ⟨_, rfl⟩
              obtain ⟨t', e1⟩ := S1
              refine ⟨k, t', kc, e1, fun c hc => ?_⟩
              rw [ev]
              exact bits c hc
            · obtain ⟨k3, t3, a1, a2, a3⟩ := p4 v (by omega) h2 h3
              refine ⟨k3, t3, a1, ?_, a3⟩
              have st : s_Mchan x y v C rg i t = .inl (u2 ((x_Mchannel_104 x y C rg i (t, 0)).1) 20000 ((x_Mchannel_104 x y C rg i (t, 0)).2) ((((x_Mchannel_104 x y C rg i (t, 0)).1) 20000 ((x_Mchannel_104 x y C rg i (t, 0)).2)) ||| (1 <<< ((nI i) &&& 31)))) := (if_neg nb2).trans (if_neg (fun z => ev (nI_inj (by omega) (by omega) z).symm))
              rw [m1, ← ekM, ek] at st
              rw [show cn v + 1 - i = (cn v + 1 - (i + 1)) + 1 by omega, un, st]
              exact a2
        · intro k hku hk
          have n2 : ¬ nI (cn y) ≤ nI k := fun q => absurd ((nI_leI (a := cn y) (b := k) (by omega) (by omega)).mp q) (by omega)
          obtain ⟨r1, r2⟩ := ihk k hk hku
          (try dsimp only)
          rw [if_neg n2]
          refine ⟨fun a => ?_, fun a w => ?_, fun a w => ?_⟩
          · rw [if_neg a]
          · rw [if_pos a, if_pos w, r2 w]
            congr 1
            refine u2_back ?_
            obtain ⟨a9, m, b, c2, d⟩ := h.2 k hk
            rw [u2_at, a9, c2, (bset (by omega) b).1, bsubm (by omega) b]
          · rw [if_pos a, if_neg w]
        · intro k hku hk
          (try dsimp only)
          rw [if_pos ((nI_leI (a := cn y) (b := k) (by omega) (by have := h.1; omega)).mpr hk)]
    · obtain rfl : i = C := by omega
      have g1 : (fg_pack (cn y) (nI (cn x)) i (f + 1) i).2 s u = s := by
        rw [eF]
        unfold g_packStep
        rw [if_pos (Int32.le_refl _)]
      rw [g1]
      exact ⟨fun c _ j _ => rfl, fun c _ => rfl, fun j hj _ c hc => low c hc j hj, fun v h1 h2 => absurd h1 (by omega)⟩
end
end
section
/-! ===== the answers of channel ===== -/
section
variable {τ σ s0 t0 : XS9} {x y v : Int32} {C ch : Nat}
theorem pack_hyp (h : RA τ σ) (hb : RB τ) (r : JR τ) (hch : ch ≤ 6) (s1013 : s0 1013 = σ 1013) (s1152 : s0 1152 = g_findDisturbed σ (mC τ) (arg σ) 1152) (z1153 : ∀ c, c < 6 → s0 1153 c = 0) (hm : ∀ a, a < 5 → t0 (5010 + a) = τ (5010 + a)) (ht : t0 20000 = rowN ch) : DISr s0 (mrg τ) (mC τ) s0 ∧ (∀ a b, a < mC τ → b < mC τ → (nearC s0 (mrg τ) a b ↔ nearM t0 (mrg τ) b a)) ∧ STC 20000 ch 0 0 s0 t0 := by
  have hC10 := r.hS.2
  have hrg : ∀ j, j < mC τ → mrg τ j < 5 := fun j hj => Nat.lt_of_lt_of_le (r.hrg j hj).2 r.hR.2
  have erg : ∀ j, j < mC τ → arg σ j = mrg τ j := fun j hj => by
    show cn (σ 1151 j) = cn (τ 5004 (2 * j))
    rw [(h.2.2.2.2.1 j (by omega)).2]
  have hrgC : ∀ j, j < mC τ → arg σ j < 5 := fun j hj => by rw [erg j hj]; exact hrg j hj
  obtain ⟨d1, d2⟩ := dist_all (σ := σ) hrgC hC10
  have nC : ∀ a j, a < mC τ → j < mC τ → (nearC σ (arg σ) a j ↔ nearC σ (mrg τ) a j) := fun a j ha hj => by
    unfold nearC
    rw [erg a ha, erg j hj]
  refine ⟨?_, ?_, ⟨Nat.zero_le _, fun c hc => ?_⟩⟩
  · intro a ha j hj
    rw [s1152, d1 a ha j hj]
    have e9 : ∀ rg : Nat → Nat, nearC s0 rg a j ↔ nearC σ rg a j := fun rg => by
      unfold nearC
      rw [s1013]
    rw [e9]
    exact ⟨fun ⟨p, q, w⟩ => ⟨p, q, (nC a j ha p).mp w⟩, fun ⟨p, q, w⟩ => ⟨p, q, (nC a j ha p).mpr w⟩⟩
  · intro a b ha hb2
    unfold nearC nearM
    rw [s1013, hm _ (hrg b hb2), (h.2.1 _ (hrg a ha)).2.2.2, hb _ _ (hrg a ha) (hrg b hb2)]
    exact ⟨fun z => z.imp Eq.symm id, fun z => z.imp Eq.symm id⟩
  · rw [z1153 c (by omega), ht]
    have : rowN ch c = 0 := by
      unfold rowN
      rw [if_neg (by omega), if_neg (by omega)]
    rw [this]
    exact ⟨rfl, 0, Nat.one_pos, rfl, ⟨fun _ => Nat.zero_le _, fun _ => rfl⟩⟩
theorem chOf_none {j : Nat} (hj : j < 32) (h : ∀ c, c < 6 → bt (σ 1153 c) j = false) : f_channelOf σ (nI j) = -1 := by
  have e : x_channelOf_2 σ (nI j) () = .inl () := by
    unfold x_channelOf_2
    refine (xitR_one 6 0).1 fun k h1 h2 => ?_
    (try dsimp only)
    rw [if_pos ((b_tst2 hj).mpr (h k (by omega)))]
  unfold f_channelOf
  rw [e]
theorem chOf_one {j k : Nat} (hj : j < 32) (hk : k < 6) (h : ∀ c, c < 6 → (bt (σ 1153 c) j = true ↔ c = k)) : f_channelOf σ (nI j) = nI k := by
  have st : ∀ c, c < 6 → (if ((σ 1153 c) &&& (1 <<< ((nI j) &&& 31))) = 0 then (.inl () : Unit ⊕ Int32) else .inr (nI c)) = if c = k then .inr (nI c) else .inl () := fun c hc => by
    by_cases z : c = k
    · rw [if_pos z, if_neg (fun q => by
        have w := (b_tst2 hj).mp q
        rw [(h c hc).mpr z] at w
        cases w)]
    · rw [if_neg z, if_pos ((b_tst2 hj).mpr (by
        cases w : bt (σ 1153 c) j with
        | false => rfl
        | true => exact absurd ((h c hc).mp w) z))]
  have e : x_channelOf_2 σ (nI j) () = .inr (nI k) := by
    unfold x_channelOf_2
    obtain ⟨k', r', a1, a2, a3, a4⟩ := (xitR_one (step := fun i2 (s2 : Unit) => (if ((σ 1153 i2) &&& (1 <<< ((nI j) &&& 31))) = 0 then (.inl () : Unit ⊕ Int32) else .inr (nI i2))) 6 0).2 k (nI k) (Nat.zero_le _) (by omega) ((st k hk).trans (if_pos rfl))
    rw [a4, ← a3]
    have := st k' (by omega)
    refine this.trans ?_
    by_cases z : k' = k
    · rw [if_pos z, z]
    · have a3' : (if ((σ 1153 k') &&& (1 <<< ((nI j) &&& 31))) = 0 then (.inl () : Unit ⊕ Int32) else .inr (nI k')) = .inr r' := a3
      rw [this, if_neg z] at a3'
      cases a3'
  unfold f_channelOf
  rw [e]
theorem chan_eq (h : RA τ σ) (hb : RB τ) (r : JR τ) (hy : cn y ≤ 6) (hv : cn v < mC τ) : (if (f_pack σ (nI (cn x)) (cn y) (mC τ) (arg σ)) = 0 then (-1 : Int32) else f_channelOf (g_pack σ (nI (cn x)) (cn y) (mC τ) (arg σ)) (nI (cn v))) = (if (((nI (cn x)) >>> ((nI (cn v)) &&& 31)) &&& 1) = 0 then (-1) else (if (f_Mcp (uR (u2 τ 5000 0 0) 20000 (rowN (cn y))) (nI (cn x)) 0 (mC τ) (mrg τ) 20000 (cn y)) = 0 then (-1) else (match (x_Mchannel_83 x y v (mC τ) (mrg τ) (g_Mcp (uR (u2 τ 5000 0 0) 20000 (rowN (cn y))) (nI (cn x)) 0 (mC τ) (mrg τ) 20000 (cn y))) with | .inl _ => (-1) | .inr r83 => r83.2))) := by
  have hC10 := r.hS.2
  have hrg : ∀ j, j < mC τ → mrg τ j < 5 := fun j hj => Nat.lt_of_lt_of_le (r.hrg j hj).2 r.hR.2
  rw [pack_eq h hb r hy]
  obtain ⟨t0, et⟩ : ∃ t0, t0 = uR (u2 τ 5000 0 0) 20000 (rowN (cn y)) := ⟨_, rfl⟩
  obtain ⟨s0, es⟩ : ∃ s0, s0 = g_fill (g_findDisturbed σ (mC τ) (arg σ)) 1153 6 0 := ⟨_, rfl⟩
  have z6 : ∀ c, c < 6 → s0 1153 c = 0 := fun c hc => by
    rw [es]
    exact fill_at 6 0 _ (fun q => absurd q (by omega)) (by omega)
  obtain ⟨q1, q2, q3⟩ := pack_hyp (s0 := s0) (t0 := t0) (ch := cn y) h hb r hy (by rw [es, fr_fill (by decide), fr_findDisturbed (by decide)]) (by rw [es, fr_fill (by decide)]) z6 (fun a ha => by rw [et, uR_ne (by omega), u2_ne (by omega)]) (by rw [et, uR_eq])
  have S := (sim (x := nI (cn x)) (qa := 20000) hrg hC10 hy (Nat.le_refl _) q1 q2 10 0 rfl (Nat.zero_le _) s0 t0 0 (fun _ _ => rfl) (fun _ _ => rfl) q3).1
  have eg : g_pack σ (nI (cn x)) (cn y) (mC τ) (arg σ) = (fg_pack (cn y) (nI (cn x)) (mC τ) 10 0).2 s0 0 := by
    rw [es]
    rfl
  have em : g_Mcp t0 (nI (cn x)) 0 (mC τ) (mrg τ) 20000 (cn y) = t0 := pk_same hC10 (mC τ) _ 0 (by omega) (by omega) q3.cln
  rw [← et, em, eg]
  have t12 := b_tst1 (x := nI (cn x)) (j := cn v) (by omega)
  by_cases c0 : f_Mcp t0 (nI (cn x)) 0 (mC τ) (mrg τ) 20000 (cn y) = 0
  · rw [if_pos c0, if_pos c0]
    split <;> rfl
  · rw [if_neg c0, if_neg c0]
    obtain ⟨_, p2, p3, p4⟩ := pack_fin (x := x) (y := y) hrg hC10 hy q1 q2 10 0 rfl (Nat.zero_le _) s0 t0 0 (fun _ _ => rfl) (fun _ _ => rfl) q3 (fun z => c0 (S.symm.trans z))
    cases hbv : bt (nI (cn x)) (cn v) with
    | false =>
      rw [if_pos (t12.2.mpr hbv)]
      refine chOf_none (by omega) fun c hc => ?_
      rcases Nat.lt_or_ge c (cn y) with l | l
      · exact p3 (cn v) (Nat.zero_le _) hbv c l
      · rw [p2 c l, z6 c hc, b_0]
    | true =>
      rw [if_neg (fun z => by rw [t12.2.mp z] at hbv; cases hbv)]
      obtain ⟨k, t', a1, a2, a3⟩ := p4 v (Nat.zero_le _) hv hbv
      have a4 : x_Mchannel_83 x y v (mC τ) (mrg τ) t0 = .inr (t', nI k) := a2
      rw [a4]
      refine chOf_one (by omega) (by omega) fun c hc => ?_
      rcases Nat.lt_or_ge c (cn y) with l | l
      · exact a3 c l
      · rw [p2 c l, z6 c hc, b_0]
        exact ⟨fun z => (by cases z), fun z => absurd z (by omega)⟩
theorem chan_rows {R : Nat} {rg : Nat → Nat} (c0 : n_bt v 0 (nI C - 1)) (c1 : n_lt x (2 ^ C)) (c2 : n_bt y 1 6) : ∀ q, q ≠ 20000 → g_Mchannel τ x y v R C rg q = u2 τ 5000 0 0 q := by
  have hc := cn6 c2
  unfold g_Mchannel
  rw [if_pos c0, if_pos c1, if_pos c2]
  split
  · exact fun q hq => by rw [u2_ne hq, uR_ne hq]
  · split
    · exact fun q hq => by rw [u2_ne hq, fr_Mcp ⟨hq, hc⟩, uR_ne hq]
    · have F : ∀ q, q ≠ 20000 → g_Mcp (uR (u2 τ 5000 0 0) 20000 (rowN (cn y))) (nI (cn x)) 0 C rg 20000 (cn y) q = u2 τ 5000 0 0 q := fun q hq => by rw [fr_Mcp ⟨hq, hc⟩, uR_ne hq]
      generalize g_Mcp (uR (u2 τ 5000 0 0) 20000 (rowN (cn y))) (nI (cn x)) 0 C rg 20000 (cn y) = s0 at F ⊢
      have A : ∀ i s, (∀ q, q ≠ 20000 → s q = u2 τ 5000 0 0 q) → ∀ q, q ≠ 20000 → (x_Mchannel_104 x y C rg i (s, 0)).1 q = u2 τ 5000 0 0 q := fun i s hs => by
        unfold x_Mchannel_104
        refine xitB_all (fun t : XS9 × Nat => ∀ q, q ≠ 20000 → t.1 q = u2 τ 5000 0 0 q) (N := cn y) (fun k t t' hk ht => ?_) (cn y) 0 _ (Nat.zero_add _) hs
        (try dsimp only)
        split
        · intro e
          rcases e with e | e
          · rw [← Sum.inl.inj e]
            exact fun q hq => (fr_MisFits ⟨hq, hc⟩).trans (ht q hq)
          · cases e
        · intro e
          rcases e with e | e
          · cases e
          · rw [← Sum.inr.inj e]
            exact fun q hq => (fr_MisFits ⟨hq, hc⟩).trans (ht q hq)
      have B := xitR_pi (step := s_Mchan x y v C rg) (fun _ s => ∀ q, q ≠ 20000 → s q = u2 τ 5000 0 0 q) (fun r : XS9 × Int32 => ∀ q, q ≠ 20000 → r.1 q = u2 τ 5000 0 0 q) (N := cn v + 1) (fun i s hi hs => by
        unfold s_Mchan
        split
        · exact ⟨fun s' e => (by rw [← Sum.inl.inj e]; exact hs), fun r e => (by cases e)⟩
        · split
          · refine ⟨fun s' e => (by cases e), fun r e => ?_⟩
            rw [← Sum.inr.inj e]
            exact fun q hq => by dsimp only; rw [u2_ne hq, u2_ne hq]; exact A i s hs q hq
          · refine ⟨fun s' e => ?_, fun r e => (by cases e)⟩
            rw [← Sum.inl.inj e]
            exact fun q hq => by rw [u2_ne hq]; exact A i s hs q hq) (cn v + 1) 0 s0 (Nat.zero_add _) F
      have B : (∀ s', x_Mchannel_83 x y v C rg s0 = .inl s' → ∀ q, q ≠ 20000 → s' q = u2 τ 5000 0 0 q) ∧ ∀ r, x_Mchannel_83 x y v C rg s0 = .inr r → ∀ q, q ≠ 20000 → r.1 q = u2 τ 5000 0 0 q := B
      generalize x_Mchannel_83 x y v C rg s0 = w at B ⊢
      cases w with
      | inl s83 => exact fun q hq => by dsimp only; rw [u2_ne hq]; exact B.1 _ rfl q hq
      | inr r83 => exact B.2 _ rfl
theorem says_channel (h : RA τ σ) (hb : RB τ) (r : JR τ) (eC : aC σ = mC τ) : g_Mchannel τ x y v (mR τ) (mC τ) (mrg τ) 5000 0 = lw_k [eIOB, eIAE] (o_channel σ x y v (aC σ) (arg σ)) ∧ ∀ w, o_channel σ x y v (aC σ) (arg σ) = .inl w → w = f_Mchannel τ x y v (mR τ) (mC τ) (mrg τ) := by
  rw [eC]
  have hC10 := r.hS.2
  unfold o_channel f_Mchannel
  by_cases c0 : n_lt v (mC τ)
  · have c0' : n_bt v 0 (nI (mC τ) - 1) := (sub1_lt (by omega)).mpr c0
    by_cases c1 : n_lt x (2 ^ mC τ)
    · by_cases c2 : n_bt y 1 6
      · have hc := cn6 c2
        rw [if_pos c0, if_pos c1, if_pos c2, if_pos c0', if_pos c1, if_pos c2]
        have E := chan_eq (x := x) h hb r hc c0.2
        refine ⟨?_, fun w e => ?_⟩
        · have q0 : g_Mchannel τ x y v (mR τ) (mC τ) (mrg τ) 5000 0 = 0 := by
            rw [chan_rows c0' c1 c2 5000 (by decide), u2_at]
          rw [q0]
          split <;> rfl
        · refine Eq.trans ?_ E
          split at e
          · rename_i z
            rw [if_pos z]
            exact (Sum.inl.inj e).symm
          · rename_i z
            rw [if_neg z]
            exact (Sum.inl.inj e).symm
      · unfold g_Mchannel
        rw [if_pos c0, if_pos c1, if_neg c2, if_pos c0', if_pos c1, if_neg c2]
        exact ⟨u2_at, fun w e => by cases e⟩
    · unfold g_Mchannel
      rw [if_pos c0, if_neg c1, if_pos c0', if_neg c1]
      exact ⟨u2_at, fun w e => by cases e⟩
  · have c0' : ¬ n_bt v 0 (nI (mC τ) - 1) := fun z => c0 ((sub1_lt (by omega)).mp z)
    unfold g_Mchannel
    rw [if_neg c0, if_neg c0']
    exact ⟨u2_at, fun w e => by cases e⟩
end
end
