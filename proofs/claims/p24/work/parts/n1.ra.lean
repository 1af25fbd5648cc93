section
/-! ===== what was told, alike on both sides ===== -/
def ka (q i : Nat) : Prop := (1010 ≤ q ∧ q ≤ 1017) ∨ q = 1006 ∨ q = 1150 ∨ q = 1151 ∨ (q = 1000 ∧ i = 11) ∨ (q = 1001 ∧ (i = 10 ∨ i = 11))
def VA (σ σ2 : XS9) : Prop := ∀ q i, ka q i → σ2 q i = σ q i
theorem VA.rfl' {σ : XS9} : VA σ σ := fun _ _ _ => rfl
theorem VA.trans {σ σ2 σ3 : XS9} (a : VA σ σ2) (b : VA σ2 σ3) : VA σ σ3 := fun q i h => (b q i h).trans (a q i h)
theorem VA.set {σ : XS9} {q i : Nat} {x : Int32} (hq : ¬ ka q i) : VA σ (u2 σ q i x) := fun q9 i9 hk => u2_o (fun a b => hq (by rw [← a, ← b]; exact hk))
theorem VA.rows {σ σ2 : XS9} (h : ∀ q, (q = 1000 ∨ q = 1001 ∨ (1010 ≤ q ∧ q ≤ 1017) ∨ q = 1006 ∨ q = 1150 ∨ q = 1151) → σ2 q = σ q) : VA σ σ2 := fun q i hk => by rw [h q (by unfold ka at hk; omega)]
section
variable {σ τ : XS9} {R B C K g w : Nat} {gr cnt sp pk tn rg : Nat → Nat} {cd : Nat → Nat → Nat}
theorem nka {q i : Nat} (h : 2000 ≤ q) : ¬ ka q i := fun k => by unfold ka at k; omega
theorem VA.step {x : Int32} : VA σ (g_step σ x) := by
  unfold g_step
  (repeat' split) <;> first | exact VA.rfl' | exact VA.set (fun k => by unfold ka at k; omega)
theorem VA.opn : VA σ (g_open σ R B) := by
  unfold g_open
  (repeat' split) <;> first | exact VA.rfl' | exact VA.set (fun k => by unfold ka at k; omega)
theorem VA.wish {x y z : Int32} : VA σ (g_wish σ x y z R B) := by
  unfold g_wish
  (repeat' split) <;> first | exact VA.rfl' | exact VA.set (q := 2003) (nka (by omega))
theorem VA.waive {x : Int32} : VA σ (g_waive σ x B) := by
  unfold g_waive
  (repeat' split) <;> first | exact VA.rfl' | (unfold g_useWaiver; exact (VA.set (q := 2005) (nka (by omega))).trans (VA.set (q := 2000) (nka (by omega))))
theorem VA.packs {x y : Int32} : VA σ (g_packs σ x y C rg) := by
  unfold g_packs
  (repeat' split) <;> first | exact VA.rfl' | exact VA.rows (fun q hq => fr_packM (by omega))
theorem VA.channel {x y z : Int32} : VA σ (g_channel σ x y z C rg) := by
  unfold g_channel
  (repeat' split) <;> first | exact VA.rfl' | exact VA.rows (fun q hq => fr_packM (by omega))
theorem VA.clear {x : Int32} : VA σ (g_clear σ x C rg) := by
  unfold g_clear
  (repeat' split) <;> first | exact VA.rfl' | exact VA.rows (fun q hq => fr_cheapest (by omega))
theorem VA.anew {x y z v : Int32} (hK60 : K ≤ 60) : VA σ (g_anew σ x y z v R B K) := by
  unfold g_anew
  (repeat' split) <;> first | exact VA.rfl' | exact VA.rows (fun q hq => fr_runLog hK60 (by omega))
theorem VA.isSound (hK60 : K ≤ 60) : VA σ (g_isSound σ R B w K) := VA.rows (fun q hq => fr_runLog hK60 (by omega))
theorem VA.digest (hK60 : K ≤ 60) : VA σ (g_digest σ K B R C w rg) := by
  unfold g_digest g_dgS
  split
  · exact ((VA.rows (fun q hq => fr_cheapest (by omega))).trans (VA.rows (fun q hq => fr_cheapest (by omega)))).trans (VA.isSound hK60)
  · exact VA.isSound hK60
theorem VA.find : VA σ (g_find σ) := VA.rows (fun q hq => fr_find (by omega))
theorem VA.addM {i : Nat} {x y : Int32} (hi : i < 6) (hg : ∀ i, i < 6 → gr i < 4) (hc : cnt i ≤ 6) : VA σ (g_addM σ i x y R B gr cnt) := VA.rows (fun q hq => fr_addM ⟨hi, by omega, hg⟩ hc)
theorem VA.offer {x y z : Int32} (hB6 : B ≤ 6) (hg : ∀ i, i < 6 → gr i < 4) (hc : ∀ i, i < 6 → cnt i ≤ 6) : VA σ (g_offer σ x y z R B gr cnt) := by
  unfold g_offer
  split
  · rename_i hx
    have hx6 : cn x < 6 := by have := hx.2; omega
    split
    · exact VA.rfl'
    · split
      · split
        · split
          · exact VA.rfl'
          · split
            · exact VA.rfl'
            · exact (VA.addM hx6 hg (hc _ hx6)).trans VA.find
        · exact VA.rfl'
      · exact VA.rfl'
  · exact VA.rfl'
theorem VA.give (hR5 : R ≤ 5) : VA σ (g_give σ R sp) := VA.rows (fun q hq => fr_give hR5 ⟨by omega, by omega⟩)
theorem VA.settle {x : Int32} (hR5 : R ≤ 5) : VA σ (g_settle σ x R sp) := by
  unfold g_settle
  (repeat' split) <;> first | exact VA.rfl' | exact ((VA.set (fun k => by unfold ka at k; omega)).trans (VA.set (fun k => by unfold ka at k; omega))).trans (VA.give hR5)
theorem VA.leaveOut {i : Nat} : VA σ (g_leaveOut σ i) := VA.rows (fun q hq => fr_leaveOut (by omega))
theorem VA.fail {x : Int32} (hR5 : R ≤ 5) : VA σ (g_fail σ x R B sp) := by
  unfold g_fail
  (repeat' split) <;> first | exact VA.rfl' | exact (((VA.set (fun k => by unfold ka at k; omega)).trans VA.leaveOut).trans VA.find).trans (VA.give hR5)
theorem VA.endClock {s : XS9} (hJ : JC s) (hB6 : B ≤ 6) (hg : ∀ i, i < 6 → gr i < 4) : VA s (g_endClock s R B K gr) := by
  have hx : XCT (u2 s 1000 7 2) := fun i hi => by
    rw [u2_ne (by omega)]
    exact hJ.hct i hi
  have H := endClock_loop (σ := s) (R := R) (K := K) hB6 hg (s0 := u2 s 1000 7 2) hx
  unfold g_endClock
  exact ((VA.set (fun k => by unfold ka at k; omega)).trans (VA.rows fun q hq => H.2 q (by omega))).trans VA.find
theorem VA.close (hJ : JC σ) (hK : KB σ) {x : Int32} (hR5 : R ≤ 5) (hB6 : B ≤ 6) (hg : ∀ i, i < 6 → gr i < 4) : VA σ (g_close σ x R B gr) := by
  unfold g_close
  split
  · split
    · have go : (JC (x_close_14 σ x R B gr σ) ∧ KB (x_close_14 σ x R B gr σ)) ∧ VA σ (x_close_14 σ x R B gr σ) := by
        unfold x_close_14
        refine xitB_all (fun s => (JC s ∧ KB s) ∧ VA σ s) (N := cn x) (fun i s s' hi hP => ?_) (cn x) 0 _ (Nat.zero_add _) ⟨⟨hJ, hK⟩, VA.rfl'⟩
        have h60 := hP.1.1.hK.2
        have C1 : JC (g_closeRound s 2000 (s 1000 8) B R (cn (s 2000 9))) ∧ KB (g_closeRound s 2000 (s 1000 8) B R (cn (s 2000 9))) := ⟨hP.1.1.closeRound, hP.1.2.closeRound hP.1.2.2.2.2.2.2 hR5 hB6 h60⟩
        have C2 : VA σ (g_closeRound s 2000 (s 1000 8) B R (cn (s 2000 9))) := hP.2.trans (VA.rows fun q hq => fr_closeRound (by omega))
        (try dsimp only)
        split
        · split
          · intro e
            rcases e with e | e
            · rw [← Sum.inl.inj e]
              exact ⟨C1, C2⟩
            · cases e
          · intro e
            rcases e with e | e
            · rw [← Sum.inl.inj e]
              exact ⟨JK.endClock C1.1 C1.2 hB6 (by omega) hg, C2.trans (VA.endClock C1.1 hB6 hg)⟩
            · cases e
        · intro e
          rcases e with e | e
          · cases e
          · rw [← Sum.inr.inj e]
            exact hP
      exact go.2
    · exact VA.rfl'
  · exact VA.rfl'
/-! the reference's -/
def kb (q i : Nat) : Prop := (5010 ≤ q ∧ q ≤ 5014) ∨ q = 5004 ∨ (5020 ≤ q ∧ q ≤ 5025 ∧ i < 4) ∨ (q = 5000 ∧ (i = 2 ∨ i = 3 ∨ i = 6)) ∨ (q = 5001 ∧ i = 900)
def MA (τ τ2 : XS9) : Prop := ∀ q i, kb q i → τ2 q i = τ q i
theorem MA.rfl' : MA τ τ := fun _ _ _ => rfl
theorem MA.trans {τ τ2 τ3 : XS9} (a : MA τ τ2) (b : MA τ2 τ3) : MA τ τ3 := fun q i h => (b q i h).trans (a q i h)
theorem MA.set {q i : Nat} {x : Int32} (hq : ¬ kb q i) : MA τ (u2 τ q i x) := fun q9 i9 hk => u2_o (fun a b => hq (by rw [← a, ← b]; exact hk))
theorem nkb {i : Nat} (h : i ≠ 2 ∧ i ≠ 3 ∧ i ≠ 6) : ¬ kb 5000 i := fun k => by unfold kb at k; omega
theorem MA.s0 {x : Int32} : MA τ (u2 τ 5000 0 x) := MA.set (nkb (by decide))
theorem MA.s00 {x : Int32} : MA τ (u2 (u2 τ 5000 0 0) 5000 0 x) := MA.s0.trans MA.s0
theorem MA.hi {τ2 : XS9} (e : ∀ q, q < 7000 → τ2 q = τ q) : MA τ τ2 := fun q i hk => by rw [e q (by unfold kb at hk; omega)]
theorem MA.step {x : Int32} : MA τ (g_Mstep τ x) := by
  unfold g_Mstep
  (repeat' split) <;> first | exact MA.s00 | exact MA.s0.trans (MA.set (nkb (by decide)))
theorem MA.opn : MA τ (g_Mopen τ R B) := by
  unfold g_Mopen
  (repeat' split) <;> first | exact MA.s00 | exact MA.trans (τ2 := u2 (u2 τ 5000 0 0) 5000 1 1) (MA.s0.trans (MA.set (nkb (by decide)))) (MA.hi fun q hq => by rw [u2_ne (by omega), fr_Kinit (by omega)])
theorem MA.wish {x y v : Int32} : MA τ (g_Mwish τ x y v R B g) := by
  unfold g_Mwish
  (repeat' split) <;> first | exact MA.s00 | exact MA.s0.trans (MA.set (fun k => by unfold kb at k; omega))
theorem MA.waive {x : Int32} : MA τ (g_Mwaive τ x B g w) := by
  unfold g_Mwaive
  (repeat' split) <;> first | exact MA.s00 | exact (MA.s0.trans (MA.set (fun k => by unfold kb at k; omega))).trans (MA.set (fun k => by unfold kb at k; omega))
theorem MA.madd {j p : Nat} {c a : Int32} : MA τ (g_Madd τ j p c a) := by
  unfold g_Madd g_addI
  exact (((MA.set (fun k => by unfold kb at k; omega)).trans (MA.set (fun k => by unfold kb at k; omega))).trans (MA.set (fun k => by unfold kb at k; omega))).trans (MA.set (fun k => by unfold kb at k; omega))
theorem MA.offer {x y v : Int32} : MA τ (g_Moffer τ x y v R B pk) := by
  unfold g_Moffer
  (repeat' split) <;> first | exact MA.s00 | exact MA.s0.trans MA.madd
theorem MA.cinit : MA τ (u2 (g_Cinit τ R B pk gr cd) 9000 20 0) := MA.hi fun q hq => by rw [u2_ne (by omega), fr_Cinit (by omega)]
theorem MA.cpay {y : Nat} (hB6 : B ≤ 6) : MA τ (u2 (u2 (g_Cpay (g_Cinit τ R B pk gr cd) y 20000 B) 9000 20 0) 20000 20 0) := MA.hi fun q hq => by rw [u2_ne (by omega), u2_ne (by omega), fr_Cpay ⟨by omega, hB6⟩, fr_Cinit (by omega)]
theorem MA.keep {wy : Nat} (hB6 : B ≤ 6) : MA τ (g_Mkeep τ R B pk gr cd wy sp) := fun q i hk => by rw [fr_Mkeep ⟨by unfold kb at hk; omega, by unfold kb at hk; omega, by unfold kb at hk; omega, hB6⟩]
theorem MA.settle {x : Int32} (hB6 : B ≤ 6) : MA τ (g_Msettle τ x R B pk gr cd sp) := by
  unfold g_Msettle
  (repeat' split) <;> first | exact MA.s00 | exact ((MA.s0.trans (MA.set (nkb (by decide)))).trans (MA.set (nkb (by decide)))).trans (MA.keep hB6)
theorem MA.fail {x : Int32} {wy : Nat} (hB6 : B ≤ 6) : MA τ (g_Mfail τ x R B pk gr cd wy sp) := by
  unfold g_Mfail
  (repeat' split) <;> first | exact MA.s00 | exact ((MA.s0.trans (MA.set (nkb (by decide)))).trans (MA.set (fun k => by unfold kb at k; omega))).trans (MA.keep hB6)
theorem MA.packs {x y : Int32} : MA τ (g_Mpacks τ x y R C rg) := by
  unfold g_Mpacks
  split
  · split
    · rename_i hy
      have hc := cn6 hy
      exact MA.s0.trans (MA.hi fun q hq => by rw [u2_ne (by omega), fr_Mcp ⟨by omega, hc⟩, uR_ne (by omega)])
    · exact MA.s0
  · exact MA.s0
theorem MA.clear {x : Int32} : MA τ (g_Mclear τ x R C rg) := by
  unfold g_Mclear
  split
  · rename_i hy
    exact MA.s0.trans (MA.hi fun q hq => fr_MclearNow ⟨by omega, cn6 hy⟩)
  · exact MA.s00
theorem MA.channel {x y v : Int32} : MA τ (g_Mchannel τ x y v R C rg) := by
  rcases chan_mem (τ := τ) (x := x) (y := y) (v := v) (R := R) (C := C) (rg := rg) with ⟨t, e⟩ | ⟨e1, e2⟩
  · rw [e]
    exact MA.s00
  · exact MA.s0.trans (MA.hi fun q hq => e1 q (by omega))
theorem MA.clo (r : JR τ) (h : JS τ) (hs : τ 5000 1 = 1) : MA τ (g_clo τ) := by
  obtain ⟨a, b, c, d, f, g9⟩ := h.1 hs
  have hK : mK τ < 60 := by omega
  have hg : mg τ < 199 := by omega
  have hw : mw τ < 199 := by omega
  have fr : MA τ (g_clo1 τ (mR τ) (mB τ) (mK τ) (mg τ) (mw τ) (mn τ)) := fun q i hk => by rw [fr_clo1 hg hw g9 hK (by unfold kb at hk; omega)]
  show MA τ (g_McloseOne τ (mR τ) (mB τ) (mK τ) (mg τ) (mw τ) (mn τ) (mpk τ))
  unfold g_McloseOne
  split
  · exact fr
  · unfold x_McloseOne_122
    refine xit_inv (fun s : XS9 => MA τ s) (N := mB τ) (fun i s hi hP => ?_) (mB τ) 0 _ (Nat.zero_add _) (fr.trans (MA.set (nkb (by decide))))
    (try dsimp only)
    split
    · exact hP
    · exact hP.trans MA.madd
theorem MA.close {x : Int32} (r : JR τ) (h : JS τ) (p : JP τ) : MA τ (g_Mclose τ x) := by
  unfold g_Mclose
  split
  · split
    · unfold x_Mclose_37
      have go := xitB_all (step := fun i37 (s37 : XS9) => (if (s37 5000 1) = 1 then .inl (g_clo s37) else .inr s37)) (fun s : XS9 => (JR s ∧ JS s ∧ JP s) ∧ MA τ s) (N := cn x) (fun i s s' hi hP => by
        (try dsimp only)
        split
        · rename_i hs
          intro e
          rcases e with e | e
          · rw [← Sum.inl.inj e]
            exact ⟨(clo_all hP.1.1 hP.1.2.1 hP.1.2.2 hs).1, hP.2.trans (MA.clo hP.1.1 hP.1.2.1 hs)⟩
          · cases e
        · intro e
          rcases e with e | e
          · cases e
          · rw [← Sum.inr.inj e]
            exact hP) (cn x) 0 (u2 τ 5000 0 0) (Nat.zero_add _) ⟨⟨r.s0, h.s0 r, p.s0⟩, MA.s0⟩
      exact go.2
    · exact MA.s00
  · exact MA.s00
end
def RA (τ σ : XS9) : Prop := (σ 1000 11 = τ 5000 6 ∧ σ 1001 10 = τ 5000 2 ∧ σ 1001 11 = τ 5000 3) ∧ (∀ r, r < 5 → σ 1010 r = τ (5010 + r) 0 ∧ σ 1011 r = τ (5010 + r) 1 ∧ σ 1012 r = τ (5010 + r) 2 ∧ σ 1013 r = τ (5010 + r) 3) ∧ (∀ j, j < 6 → σ 1014 j = τ (5020 + j) 0 ∧ σ 1015 j = τ (5020 + j) 1 ∧ σ 1016 j = τ (5020 + j) 2 ∧ σ 1017 j = τ (5020 + j) 3) ∧ σ 1006 1 = nI (mC τ) ∧ (∀ k, k < 10 → σ 1150 k = τ 5004 (2 * k + 1) ∧ σ 1151 k = τ 5004 (2 * k)) ∧ ∀ r, cn (τ 5001 900) ≤ r → r < 5 → τ (5010 + r) 3 = 0
section
variable {σ τ τ2 σ2 : XS9}
theorem RA.kept (h : RA τ σ) (m : MA τ τ2) (c : VA σ σ2) : RA τ2 σ2 := by
  obtain ⟨⟨a1, a2, a3⟩, a4, a5, a6, a7, a8⟩ := h
  have C : ∀ q i, ka q i → σ2 q i = σ q i := c
  have M : ∀ q i, kb q i → τ2 q i = τ q i := m
  refine ⟨⟨?_, ?_, ?_⟩, fun r hr => ?_, fun j hj => ?_, ?_, fun k hk => ?_, fun r h1 h2 => ?_⟩
  · rw [C _ _ (by unfold ka; omega), M _ _ (by unfold kb; omega)]; exact a1
  · rw [C _ _ (by unfold ka; omega), M _ _ (by unfold kb; omega)]; exact a2
  · rw [C _ _ (by unfold ka; omega), M _ _ (by unfold kb; omega)]; exact a3
  · rw [C 1010 r (by unfold ka; omega), C 1011 r (by unfold ka; omega), C 1012 r (by unfold ka; omega), C 1013 r (by unfold ka; omega), M _ _ (by unfold kb; omega), M _ _ (by unfold kb; omega), M _ _ (by unfold kb; omega), M _ _ (by unfold kb; omega)]
    exact a4 r hr
  · rw [C 1014 j (by unfold ka; omega), C 1015 j (by unfold ka; omega), C 1016 j (by unfold ka; omega), C 1017 j (by unfold ka; omega), M _ _ (by unfold kb; omega), M _ _ (by unfold kb; omega), M _ _ (by unfold kb; omega), M _ _ (by unfold kb; omega)]
    exact a5 j hj
  · rw [C _ _ (by unfold ka; omega), a6]
    show nI (cn (τ 5004 900) / 2) = nI (cn (τ2 5004 900) / 2)
    rw [M _ _ (by unfold kb; omega)]
  · rw [C 1150 k (by unfold ka; omega), C 1151 k (by unfold ka; omega), M _ _ (by unfold kb; omega), M _ _ (by unfold kb; omega)]
    exact a7 k hk
  · rw [M _ _ (by unfold kb; omega)] at h1
    rw [M _ _ (by unfold kb; omega)]
    exact a8 r h1 h2
theorem s0M_50 {q i : Nat} (h : q ≠ 5000) : s0M q i = 0 := if_neg h
theorem RA.init : RA s0M s0C := by
  refine ⟨⟨rfl, rfl, rfl⟩, fun r hr => ?_, fun j hj => ?_, rfl, fun k hk => ?_, fun r _ hr => s0M_50 (by omega)⟩
  · rw [s0M_50 (by omega), s0M_50 (by omega), s0M_50 (by omega), s0M_50 (by omega)]
    exact ⟨rfl, rfl, rfl, rfl⟩
  · rw [s0M_50 (by omega), s0M_50 (by omega), s0M_50 (by omega), s0M_50 (by omega)]
    exact ⟨rfl, rfl, rfl, rfl⟩
  · rw [s0M_50 (by omega), s0M_50 (by omega)]
    exact ⟨rfl, rfl⟩
theorem RA.s00 (h : RA τ σ) {x : Int32} : RA (u2 (u2 τ 5000 0 0) 5000 0 x) σ := h.kept MA.s00 VA.rfl'
theorem nI5 {R : Nat} (hR5 : R ≤ 5) : nI R < 5 ↔ ¬ nI R = 5 := by
  refine (nI_ltI (a := R) (b := 5) (by omega) (by omega)).trans ⟨fun h e => ?_, fun h => ?_⟩
  · have := congrArg cn e
    rw [cn_nI (by omega)] at this
    have e5 : cn (5 : Int32) = 5 := rfl
    omega
  · have : R ≠ 5 := fun e => h (by rw [e]; rfl)
    omega
theorem nI6 {B : Nat} (hB6 : B ≤ 6) : nI B < 6 ↔ ¬ nI B = 6 := by
  refine (nI_ltI (a := B) (b := 6) (by omega) (by omega)).trans ⟨fun h e => ?_, fun h => ?_⟩
  · have := congrArg cn e
    rw [cn_nI (by omega)] at this
    have e5 : cn (6 : Int32) = 6 := rfl
    omega
  · have : B ≠ 6 := fun e => h (by rw [e]; rfl)
    omega
theorem beg {σ : XS9} {q : Nat} (h : q < 2000) : g_begin σ 2000 q = σ q := fr_begin (by omega)
theorem RA.region {x y v : Int32} {R : Nat} (h : RA τ σ) (q2 : σ 1000 7 = 0 ↔ τ 5000 1 = 0) (hR5 : R ≤ 5) (eR : cn (τ 5001 900) = R) : RA (g_Mregion τ x y v R) (g_region σ x y v R) := by
  unfold g_Mregion g_region
  by_cases c1 : n_bt x 1 5
  · by_cases c2 : n_bt y 1 9
    · by_cases c3 : n_bt v 1 999
      · by_cases c4 : σ 1000 7 = 0
        · by_cases c5 : nI R < 5
          · rw [if_pos c1, if_pos c2, if_pos c3, if_pos (q2.mp c4), if_neg ((nI5 hR5).mp c5), if_pos c1, if_pos c2, if_pos c3, if_pos c4, if_pos c5]
            have hR : R < 5 := (nI_ltI (a := R) (b := 5) (by omega) (by omega)).mp c5
            obtain ⟨⟨a1, a2, a3⟩, a4, a5, a6, a7, a8⟩ := h
            unfold g_addRegion
            have cf : ∀ q, q < 2000 → q ≠ 1001 → q ≠ 1010 → q ≠ 1011 → q ≠ 1012 → g_begin (u2 (u2 (u2 (u2 σ 1010 R x) 1011 R y) 1012 R v) 1001 4 (nI (R + 1))) 2000 q = σ q := fun q h0 h1 h2 h3 h4 => by rw [beg h0, u2_ne h1, u2_ne h4, u2_ne h3, u2_ne h2]
            have mf : ∀ (fx : Nat → Int32) q, q ≠ 5000 → q ≠ 5001 → q ≠ 5010 + R → u2 (uR (u2 τ 5000 0 0) (5010 + R) fx) 5001 900 (nI (R + 1)) q = τ q := fun fx q h0 h1 h2 => by rw [u2_ne h1, uR_ne h2, u2_ne h0]
            have m0 : ∀ (fx : Nat → Int32) i, i ≠ 0 → u2 (uR (u2 τ 5000 0 0) (5010 + R) fx) 5001 900 (nI (R + 1)) 5000 i = τ 5000 i := fun fx i hi => by rw [u2_ne (by decide), uR_ne (by omega), u2_oi hi]
            have mR : ∀ fx : Nat → Int32, u2 (uR (u2 τ 5000 0 0) (5010 + R) fx) 5001 900 (nI (R + 1)) (5010 + R) = fx := fun fx => by rw [u2_ne (by omega), uR_eq]
            have c10 : ∀ i, i ≠ 4 → g_begin (u2 (u2 (u2 (u2 σ 1010 R x) 1011 R y) 1012 R v) 1001 4 (nI (R + 1))) 2000 1001 i = σ 1001 i := fun i hi => by rw [beg (by decide), u2_oi hi, u2_ne (by decide), u2_ne (by decide), u2_ne (by decide)]
            refine ⟨⟨?_, ?_, ?_⟩, fun r hr => ?_, fun j hj => ?_, ?_, fun k hk => ?_, fun r h1 h2 => ?_⟩
            · rw [cf _ (by decide) (by decide) (by decide) (by decide) (by decide), m0 _ _ (by decide)]
              exact a1
            · rw [c10 _ (by decide), m0 _ _ (by decide)]
              exact a2
            · rw [c10 _ (by decide), m0 _ _ (by decide)]
              exact a3
            · have o4 := a4 r hr
              rw [cf 1013 (by decide) (by decide) (by decide) (by decide) (by decide), beg (show 1010 < 2000 by decide), beg (show 1011 < 2000 by decide), beg (show 1012 < 2000 by decide), u2_ne (show (1010 : Nat) ≠ 1001 by decide), u2_ne (show (1011 : Nat) ≠ 1001 by decide), u2_ne (show (1012 : Nat) ≠ 1001 by decide), u2_ne (show (1010 : Nat) ≠ 1012 by decide), u2_ne (show (1011 : Nat) ≠ 1012 by decide), u2_ne (show (1010 : Nat) ≠ 1011 by decide)]
              by_cases e : r = R
              · subst e
                rw [mR, u2_at, u2_at, u2_at]
                exact ⟨rfl, rfl, rfl, o4.2.2.2.trans (a8 r (by omega) hr)⟩
              · rw [mf _ _ (by omega) (by omega) (by omega), u2_oi e, u2_oi e, u2_oi e, u2_ne (show (1011 : Nat) ≠ 1010 by decide), u2_ne (show (1012 : Nat) ≠ 1011 by decide), u2_ne (show (1012 : Nat) ≠ 1010 by decide)]
                exact o4
            · rw [cf 1014 (by decide) (by decide) (by decide) (by decide) (by decide), cf 1015 (by decide) (by decide) (by decide) (by decide) (by decide), cf 1016 (by decide) (by decide) (by decide) (by decide) (by decide), cf 1017 (by decide) (by decide) (by decide) (by decide) (by decide), mf _ _ (by omega) (by omega) (by omega)]
              exact a5 j hj
            · rw [cf _ (by decide) (by decide) (by decide) (by decide) (by decide), a6]
              show nI (cn (τ 5004 900) / 2) = nI (cn _ / 2)
              rw [mf _ _ (by omega) (by omega) (by omega)]
            · rw [cf 1150 (by decide) (by decide) (by decide) (by decide) (by decide), cf 1151 (by decide) (by decide) (by decide) (by decide) (by decide), mf _ _ (by omega) (by omega) (by omega)]
              exact a7 k hk
            · rw [u2_at, cn_nI (by omega)] at h1
              rw [mf _ _ (by omega) (by omega) (by omega)]
              exact a8 r (by omega) h2
          · rw [if_pos c1, if_pos c2, if_pos c3, if_pos (q2.mp c4), if_pos (Classical.not_not.mp (fun e => c5 ((nI5 hR5).mpr e))), if_pos c1, if_pos c2, if_pos c3, if_pos c4, if_neg c5]
            exact h.s00
        · rw [if_pos c1, if_pos c2, if_pos c3, if_neg (fun e => c4 (q2.mpr e)), if_pos c1, if_pos c2, if_pos c3, if_neg c4]
          exact h.s00
      · rw [if_pos c1, if_pos c2, if_neg c3, if_pos c1, if_pos c2, if_neg c3]
        exact h.s00
    · rw [if_pos c1, if_neg c2, if_pos c1, if_neg c2]
      exact h.s00
  · rw [if_neg c1, if_neg c1]
    exact h.s00
theorem RA.bidder {x y v u : Int32} {B : Nat} (h : RA τ σ) (q2 : σ 1000 7 = 0 ↔ τ 5000 1 = 0) (hB6 : B ≤ 6) : RA (g_Mbidder τ x y v u B) (g_bidder σ x y v u B) := by
  unfold g_Mbidder g_bidder
  by_cases c1 : n_bt x 0 99999
  · by_cases c2 : n_bt y 1 200
    · by_cases c3 : n_bt v 0 30
      · by_cases c6 : n_bt u 0 3
        · by_cases c4 : σ 1000 7 = 0
          · by_cases c5 : nI B < 6
            · rw [if_pos c1, if_pos c2, if_pos c3, if_pos c6, if_pos (q2.mp c4), if_neg ((nI6 hB6).mp c5), if_pos c1, if_pos c2, if_pos c3, if_pos c6, if_pos c4, if_pos c5]
              have hB : B < 6 := (nI_ltI (a := B) (b := 6) (by omega) (by omega)).mp c5
              obtain ⟨⟨a1, a2, a3⟩, a4, a5, a6, a7, a8⟩ := h
              unfold g_addBidder
              have cf : ∀ q, q < 2000 → q ≠ 1001 → q ≠ 1014 → q ≠ 1015 → q ≠ 1016 → q ≠ 1017 → g_begin (u2 (u2 (u2 (u2 (u2 σ 1014 B x) 1015 B y) 1016 B v) 1017 B u) 1001 9 (nI (B + 1))) 2000 q = σ q := fun q h0 h1 h2 h3 h4 h5 => by rw [beg h0, u2_ne h1, u2_ne h5, u2_ne h4, u2_ne h3, u2_ne h2]
              have mf : ∀ (fx : Nat → Int32) q, q ≠ 5000 → q ≠ 5002 → q ≠ 5020 + B → q ≠ 5030 + B → u2 (u2 (uR (u2 τ 5000 0 0) (5020 + B) fx) (5030 + B) 900 0) 5002 900 (nI (B + 1)) q = τ q := fun fx q h0 h1 h2 h3 => by rw [u2_ne h1, u2_ne h3, uR_ne h2, u2_ne h0]
              have m0 : ∀ (fx : Nat → Int32) i, i ≠ 0 → u2 (u2 (uR (u2 τ 5000 0 0) (5020 + B) fx) (5030 + B) 900 0) 5002 900 (nI (B + 1)) 5000 i = τ 5000 i := fun fx i hi => by rw [u2_ne (by decide), u2_ne (by omega), uR_ne (by omega), u2_oi hi]
              have mB : ∀ fx : Nat → Int32, u2 (u2 (uR (u2 τ 5000 0 0) (5020 + B) fx) (5030 + B) 900 0) 5002 900 (nI (B + 1)) (5020 + B) = fx := fun fx => by rw [u2_ne (by omega), u2_ne (by omega), uR_eq]
              have c10 : ∀ i, i ≠ 9 → g_begin (u2 (u2 (u2 (u2 (u2 σ 1014 B x) 1015 B y) 1016 B v) 1017 B u) 1001 9 (nI (B + 1))) 2000 1001 i = σ 1001 i := fun i hi => by rw [beg (by decide), u2_oi hi, u2_ne (by decide), u2_ne (by decide), u2_ne (by decide), u2_ne (by decide)]
              refine ⟨⟨?_, ?_, ?_⟩, fun r hr => ?_, fun j hj => ?_, ?_, fun k hk => ?_, fun r h1 h2 => ?_⟩
              · rw [cf _ (by decide) (by decide) (by decide) (by decide) (by decide) (by decide), m0 _ _ (by decide)]
                exact a1
              · rw [c10 _ (by decide), m0 _ _ (by decide)]
                exact a2
              · rw [c10 _ (by decide), m0 _ _ (by decide)]
                exact a3
              · rw [cf 1010 (by decide) (by decide) (by decide) (by decide) (by decide) (by decide), cf 1011 (by decide) (by decide) (by decide) (by decide) (by decide) (by decide), cf 1012 (by decide) (by decide) (by decide) (by decide) (by decide) (by decide), cf 1013 (by decide) (by decide) (by decide) (by decide) (by decide) (by decide), mf _ _ (by omega) (by omega) (by omega) (by omega)]
                exact a4 r hr
              · have o5 := a5 j hj
                rw [beg (show 1014 < 2000 by decide), beg (show 1015 < 2000 by decide), beg (show 1016 < 2000 by decide), beg (show 1017 < 2000 by decide), u2_ne (show (1014 : Nat) ≠ 1001 by decide), u2_ne (show (1015 : Nat) ≠ 1001 by decide), u2_ne (show (1016 : Nat) ≠ 1001 by decide), u2_ne (show (1017 : Nat) ≠ 1001 by decide), u2_ne (show (1014 : Nat) ≠ 1017 by decide), u2_ne (show (1015 : Nat) ≠ 1017 by decide), u2_ne (show (1016 : Nat) ≠ 1017 by decide), u2_ne (show (1014 : Nat) ≠ 1016 by decide), u2_ne (show (1015 : Nat) ≠ 1016 by decide), u2_ne (show (1014 : Nat) ≠ 1015 by decide)]
                by_cases e : j = B
                · subst e
                  rw [mB, u2_at, u2_at, u2_at, u2_at]
                  exact ⟨rfl, rfl, rfl, rfl⟩
                · rw [mf _ _ (by omega) (by omega) (by omega) (by omega), u2_oi e, u2_oi e, u2_oi e, u2_oi e, u2_ne (show (1015 : Nat) ≠ 1014 by decide), u2_ne (show (1016 : Nat) ≠ 1015 by decide), u2_ne (show (1016 : Nat) ≠ 1014 by decide), u2_ne (show (1017 : Nat) ≠ 1016 by decide), u2_ne (show (1017 : Nat) ≠ 1015 by decide), u2_ne (show (1017 : Nat) ≠ 1014 by decide)]
                  exact o5
              · rw [cf _ (by decide) (by decide) (by decide) (by decide) (by decide) (by decide), a6]
                show nI (cn (τ 5004 900) / 2) = nI (cn _ / 2)
                rw [mf _ _ (by omega) (by omega) (by omega) (by omega)]
              · rw [cf 1150 (by decide) (by decide) (by decide) (by decide) (by decide) (by decide), cf 1151 (by decide) (by decide) (by decide) (by decide) (by decide) (by decide), mf _ _ (by omega) (by omega) (by omega) (by omega)]
                exact a7 k hk
              · rw [mf _ _ (by omega) (by omega) (by omega) (by omega)] at h1
                rw [mf _ _ (by omega) (by omega) (by omega) (by omega)]
                exact a8 r h1 h2
            · rw [if_pos c1, if_pos c2, if_pos c3, if_pos c6, if_pos (q2.mp c4), if_pos (Classical.not_not.mp (fun e => c5 ((nI6 hB6).mpr e))), if_pos c1, if_pos c2, if_pos c3, if_pos c6, if_pos c4, if_neg c5]
              exact h.s00
          · rw [if_pos c1, if_pos c2, if_pos c3, if_pos c6, if_neg (fun e => c4 (q2.mpr e)), if_pos c1, if_pos c2, if_pos c3, if_pos c6, if_neg c4]
            exact h.s00
        · rw [if_pos c1, if_pos c2, if_pos c3, if_neg c6, if_pos c1, if_pos c2, if_pos c3, if_neg c6]
          exact h.s00
      · rw [if_pos c1, if_pos c2, if_neg c3, if_pos c1, if_pos c2, if_neg c3]
        exact h.s00
    · rw [if_pos c1, if_neg c2, if_pos c1, if_neg c2]
      exact h.s00
  · rw [if_neg c1, if_neg c1]
    exact h.s00
theorem RA.rules {x y : Int32} (h : RA τ σ) (q2 : σ 1000 7 = 0 ↔ τ 5000 1 = 0) : RA (g_Mrules τ x y) (g_rules σ x y) := by
  unfold g_Mrules g_rules
  by_cases c1 : n_bt x 1 5
  · by_cases c4 : σ 1000 7 = 0
    · rw [if_pos c1, if_pos (q2.mp c4), if_pos c1, if_pos c4]
      obtain ⟨⟨a1, a2, a3⟩, a4, a5, a6, a7, a8⟩ := h
      have cf : ∀ q, q ≠ 1001 → u2 (u2 σ 1001 10 x) 1001 11 y q = σ q := fun q hq => by rw [u2_ne hq, u2_ne hq]
      have mf : ∀ q, q ≠ 5000 → u2 (u2 (u2 τ 5000 0 0) 5000 2 x) 5000 3 y q = τ q := fun q hq => by rw [u2_ne hq, u2_ne hq, u2_ne hq]
      refine ⟨⟨?_, ?_, ?_⟩, fun r hr => ?_, fun j hj => ?_, ?_, fun k hk => ?_, fun r h1 h2 => ?_⟩
      · rw [cf _ (by decide), u2_oi (by decide), u2_oi (by decide), u2_oi (by decide)]
        exact a1
      · rw [u2_oi (by decide), u2_at, u2_oi (by decide), u2_at]
      · rw [u2_at, u2_at]
      · rw [cf _ (by decide), cf _ (by decide), cf _ (by decide), cf _ (by decide), mf _ (by omega)]
        exact a4 r hr
      · rw [cf _ (by decide), cf _ (by decide), cf _ (by decide), cf _ (by decide), mf _ (by omega)]
        exact a5 j hj
      · rw [cf _ (by decide), a6]
        show nI (cn (τ 5004 900) / 2) = nI (cn _ / 2)
        rw [mf _ (by omega)]
      · rw [cf _ (by decide), cf _ (by decide), mf _ (by omega)]
        exact a7 k hk
      · rw [mf _ (by omega)] at h1
        rw [mf _ (by omega)]
        exact a8 r h1 h2
    · rw [if_pos c1, if_neg (fun e => c4 (q2.mpr e)), if_pos c1, if_neg c4]
      exact h.s00
  · rw [if_neg c1, if_neg c1]
    exact h.s00
theorem RA.knock (h : RA τ σ) : RA (g_Mknock τ) (g_knock σ) := by
  unfold g_Mknock g_knock
  obtain ⟨⟨a1, a2, a3⟩, a4, a5, a6, a7, a8⟩ := h
  have cf : ∀ q, q ≠ 1000 → u2 σ 1000 11 (σ 1000 11 + 1) q = σ q := fun q hq => u2_ne hq
  have mf : ∀ q, q ≠ 5000 → u2 (u2 τ 5000 0 0) 5000 6 (τ 5000 6 + 1) q = τ q := fun q hq => by rw [u2_ne hq, u2_ne hq]
  refine ⟨⟨?_, ?_, ?_⟩, fun r hr => ?_, fun j hj => ?_, ?_, fun k hk => ?_, fun r h1 h2 => ?_⟩
  · rw [u2_at, u2_at, a1]
  · rw [cf _ (by decide), u2_oi (by decide), u2_oi (by decide)]
    exact a2
  · rw [cf _ (by decide), u2_oi (by decide), u2_oi (by decide)]
    exact a3
  · rw [cf _ (by decide), cf _ (by decide), cf _ (by decide), cf _ (by decide), mf _ (by omega)]
    exact a4 r hr
  · rw [cf _ (by decide), cf _ (by decide), cf _ (by decide), cf _ (by decide), mf _ (by omega)]
    exact a5 j hj
  · rw [cf _ (by decide), a6]
    show nI (cn (τ 5004 900) / 2) = nI (cn _ / 2)
    rw [mf _ (by omega)]
  · rw [cf _ (by decide), cf _ (by decide), mf _ (by omega)]
    exact a7 k hk
  · rw [mf _ (by omega)] at h1
    rw [mf _ (by omega)]
    exact a8 r h1 h2
theorem RA.border {x y : Int32} {R : Nat} (h : RA τ σ) (q2 : σ 1000 7 = 0 ↔ τ 5000 1 = 0) (hR5 : R ≤ 5) (eR : cn (τ 5001 900) = R) : RA (g_Mborder τ x y R) (g_border σ x y R) := by
  unfold g_Mborder g_border
  by_cases c1 : n_lt x R
  · by_cases c2 : n_lt y R
    · by_cases c3 : nI (cn x) = nI (cn y)
      · rw [if_pos c1, if_pos c2, if_pos c3, if_pos c1, if_pos c2, if_pos c3]
        exact h.s00
      · by_cases c4 : σ 1000 7 = 0
        · rw [if_pos c1, if_pos c2, if_neg c3, if_pos (q2.mp c4), if_pos c1, if_pos c2, if_neg c3, if_pos c4]
          obtain ⟨⟨a1, a2, a3⟩, a4, a5, a6, a7, a8⟩ := h
          have hx := c1.2
          have hy := c2.2
          have hxy : cn y ≠ cn x := fun e => c3 (by rw [e])
          unfold g_addBorder
          rw [u2_oi hxy, u2_ne (show 5010 + cn y ≠ 5010 + cn x by omega), u2_ne (show 5010 + cn y ≠ 5000 by omega), (a4 _ (by omega)).2.2.2, (a4 (cn y) (by omega)).2.2.2]
          generalize τ (5010 + cn x) 3 ||| 1 <<< (nI (cn y) &&& 31) = A
          generalize τ (5010 + cn y) 3 ||| 1 <<< (nI (cn x) &&& 31) = A2
          have cf : ∀ q, q ≠ 1013 → u2 (u2 σ 1013 (cn x) A) 1013 (cn y) A2 q = σ q := fun q hq => by rw [u2_ne hq, u2_ne hq]
          have mf : ∀ q, q ≠ 5000 → q ≠ 5010 + cn x → q ≠ 5010 + cn y → u2 (u2 (u2 τ 5000 0 0) (5010 + cn x) 3 A) (5010 + cn y) 3 A2 q = τ q := fun q h0 h1 h2 => by rw [u2_ne h2, u2_ne h1, u2_ne h0]
          have m0 : ∀ q i, i ≠ 3 → i ≠ 0 ∨ q ≠ 5000 → u2 (u2 (u2 τ 5000 0 0) (5010 + cn x) 3 A) (5010 + cn y) 3 A2 q i = τ q i := fun q i h0 h1 => by rw [u2_o (fun _ b => h0 b), u2_o (fun _ b => h0 b), u2_o (fun a b => by omega)]
          refine ⟨⟨?_, ?_, ?_⟩, fun r hr => ?_, fun j hj => ?_, ?_, fun k hk => ?_, fun r h1 h2 => ?_⟩
          · rw [cf _ (by decide), m0 _ _ (by decide) (by decide)]
            exact a1
          · rw [cf _ (by decide), m0 _ _ (by decide) (by decide)]
            exact a2
          · rw [cf _ (by decide), u2_ne (by omega), u2_ne (by omega), u2_oi (by decide)]
            exact a3
          · have o4 := a4 r hr
            rw [cf _ (by decide), cf _ (by decide), cf _ (by decide), m0 _ 0 (by decide) (by omega), m0 _ 1 (by decide) (by omega), m0 _ 2 (by decide) (by omega)]
            refine ⟨o4.1, o4.2.1, o4.2.2.1, ?_⟩
            by_cases e1 : r = cn y
            · rw [e1, u2_at, u2_at]
            · rw [u2_oi e1, u2_ne (show 5010 + r ≠ 5010 + cn y by omega)]
              by_cases e2 : r = cn x
              · rw [e2, u2_at, u2_at]
              · rw [u2_oi e2, u2_ne (show 5010 + r ≠ 5010 + cn x by omega), u2_ne (show 5010 + r ≠ 5000 by omega)]
                exact o4.2.2.2
          · rw [cf _ (by decide), cf _ (by decide), cf _ (by decide), cf _ (by decide), mf _ (by omega) (by omega) (by omega)]
            exact a5 j hj
          · rw [cf _ (by decide), a6]
            show nI (cn (τ 5004 900) / 2) = nI (cn _ / 2)
            rw [mf _ (by omega) (by omega) (by omega)]
          · rw [cf _ (by decide), cf _ (by decide), mf _ (by omega) (by omega) (by omega)]
            exact a7 k hk
          · rw [mf _ (by omega) (by omega) (by omega)] at h1
            rw [mf _ (by omega) (by omega) (by omega)]
            exact a8 r h1 h2
        · rw [if_pos c1, if_pos c2, if_neg c3, if_neg (fun e => c4 (q2.mpr e)), if_pos c1, if_pos c2, if_neg c3, if_neg c4]
          exact h.s00
    · rw [if_pos c1, if_neg c2, if_pos c1, if_neg c2]
      exact h.s00
  · rw [if_neg c1, if_neg c1]
    exact h.s00
theorem RA.eC (h : RA τ σ) (hS : mC τ ≤ 10) : aC σ = mC τ := by
  show cn (σ 1006 1) = mC τ
  rw [h.2.2.2.1, cn_nI (by omega)]
theorem RA.station {x y : Int32} {R C : Nat} (h : RA τ σ) (hC : C ≤ 10) (eC : mC τ = C) : RA (g_Mstation τ x y R C) (g_station σ x y R C) := by
  unfold g_Mstation g_station
  by_cases c1 : n_lt x R
  · by_cases c2 : n_bt y 1 9999
    · by_cases c3 : nI C < 10
      · have hC9 : C < 10 := (nI_ltI (a := C) (b := 10) (by omega) (by omega)).mp c3
        have c4 : ¬ nI (2 * C) = 20 := fun e => by
          have := congrArg cn e
          rw [cn_nI (by omega)] at this
          have e5 : cn (20 : Int32) = 20 := rfl
          omega
        rw [if_pos c1, if_pos c2, if_neg c4, if_pos c1, if_pos c2, if_pos c3]
        obtain ⟨⟨a1, a2, a3⟩, a4, a5, a6, a7, a8⟩ := h
        unfold g_add g_addI
        have cf : ∀ q, q ≠ 1006 → q ≠ 1150 → q ≠ 1151 → u2 (u2 (u2 σ 1151 C (nI (cn x))) 1150 C y) 1006 1 (nI (C + 1)) q = σ q := fun q h0 h1 h2 => by rw [u2_ne h0, u2_ne h1, u2_ne h2]
        have mf : ∀ q, q ≠ 5000 → q ≠ 5004 → u2 (u2 (u2 (u2 (u2 τ 5000 0 0) 5004 (2 * C) (nI (cn x))) 5004 900 (nI (2 * C + 1))) 5004 (2 * C + 1) y) 5004 900 (nI (2 * C + 1 + 1)) q = τ q := fun q h0 h1 => by rw [u2_ne h1, u2_ne h1, u2_ne h1, u2_ne h1, u2_ne h0]
        have m0 : ∀ i, i ≠ 0 → u2 (u2 (u2 (u2 (u2 τ 5000 0 0) 5004 (2 * C) (nI (cn x))) 5004 900 (nI (2 * C + 1))) 5004 (2 * C + 1) y) 5004 900 (nI (2 * C + 1 + 1)) 5000 i = τ 5000 i := fun i hi => by rw [u2_ne (by decide), u2_ne (by decide), u2_ne (by decide), u2_ne (by decide), u2_oi hi]
        refine ⟨⟨?_, ?_, ?_⟩, fun r hr => ?_, fun j hj => ?_, ?_, fun k hk => ?_, fun r h1 h2 => ?_⟩
        · rw [cf _ (by decide) (by decide) (by decide), m0 _ (by decide)]
          exact a1
        · rw [cf _ (by decide) (by decide) (by decide), m0 _ (by decide)]
          exact a2
        · rw [cf _ (by decide) (by decide) (by decide), m0 _ (by decide)]
          exact a3
        · rw [cf _ (by decide) (by decide) (by decide), cf _ (by decide) (by decide) (by decide), cf _ (by decide) (by decide) (by decide), cf _ (by decide) (by decide) (by decide), mf _ (by omega) (by omega)]
          exact a4 r hr
        · rw [cf _ (by decide) (by decide) (by decide), cf _ (by decide) (by decide) (by decide), cf _ (by decide) (by decide) (by decide), cf _ (by decide) (by decide) (by decide), mf _ (by omega) (by omega)]
          exact a5 j hj
        · rw [u2_at]
          show nI (C + 1) = nI (cn _ / 2)
          rw [u2_at, cn_nI (by omega), show (2 * C + 1 + 1) / 2 = C + 1 by omega]
        · rw [u2_ne (show (1150 : Nat) ≠ 1006 by decide), u2_ne (show (1151 : Nat) ≠ 1006 by decide), u2_ne (show (1151 : Nat) ≠ 1150 by decide)]
          by_cases e : k = C
          · rw [e, u2_at, u2_at, u2_oi (show 2 * C + 1 ≠ 900 by omega), u2_at, u2_oi (show 2 * C ≠ 900 by omega), u2_oi (show 2 * C ≠ 2 * C + 1 by omega), u2_oi (show 2 * C ≠ 900 by omega), u2_at]
            exact ⟨rfl, rfl⟩
          · rw [u2_oi e, u2_oi e, u2_ne (show (1150 : Nat) ≠ 1151 by decide), u2_oi (show 2 * k + 1 ≠ 900 by omega), u2_oi (show 2 * k + 1 ≠ 2 * C + 1 by omega), u2_oi (show 2 * k + 1 ≠ 900 by omega), u2_oi (show 2 * k + 1 ≠ 2 * C by omega), u2_oi (show 2 * k ≠ 900 by omega), u2_oi (show 2 * k ≠ 2 * C + 1 by omega), u2_oi (show 2 * k ≠ 900 by omega), u2_oi (show 2 * k ≠ 2 * C by omega), u2_ne (show (5004 : Nat) ≠ 5000 by decide)]
            exact a7 k hk
        · rw [mf _ (by omega) (by omega)] at h1
          rw [mf _ (by omega) (by omega)]
          exact a8 r h1 h2
      · have c4 : nI (2 * C) = 20 := by
          have : ¬ C < 10 := fun q => c3 ((nI_ltI (a := C) (b := 10) (by omega) (by omega)).mpr q)
          rw [show C = 10 by omega]
          rfl
        rw [if_pos c1, if_pos c2, if_pos c4, if_pos c1, if_pos c2, if_neg c3]
        exact h.s00
    · rw [if_pos c1, if_neg c2, if_pos c1, if_neg c2]
      exact h.s00
  · rw [if_neg c1, if_neg c1]
    exact h.s00
theorem RA.ask {x y : Int32} {C : Nat} (h : RA τ σ) (hC : C ≤ 10) : RA (g_Mask τ x y C) (g_ask σ x y C) := by
  unfold g_Mask g_ask
  by_cases c1 : n_lt x C
  · have c0 := (sub1_lt (x := x) (R := C) (by omega)).mpr c1
    by_cases c2 : n_bt y 1 9999
    · rw [if_pos c0, if_pos c2, if_pos c1, if_pos c2]
      obtain ⟨⟨a1, a2, a3⟩, a4, a5, a6, a7, a8⟩ := h
      have hx := c1.2
      unfold g_setS
      generalize (if u2 τ 5000 0 0 5004 (100 + (2 * cn x + 1)) = 0 then (1 : Int32) else 0) = F
      have cf : ∀ q, q ≠ 1150 → u2 σ 1150 (cn x) y q = σ q := fun q h1 => u2_ne h1
      have mf : ∀ q, q ≠ 5000 → q ≠ 5004 → u2 (u2 (u2 τ 5000 0 0) 5004 (2 * cn x + 1) y) 5004 (100 + (2 * cn x + 1)) F q = τ q := fun q h0 h1 => by rw [u2_ne h1, u2_ne h1, u2_ne h0]
      have m0 : ∀ i, i ≠ 0 → u2 (u2 (u2 τ 5000 0 0) 5004 (2 * cn x + 1) y) 5004 (100 + (2 * cn x + 1)) F 5000 i = τ 5000 i := fun i hi => by rw [u2_ne (by decide), u2_ne (by decide), u2_oi hi]
      refine ⟨⟨?_, ?_, ?_⟩, fun r hr => ?_, fun j hj => ?_, ?_, fun k hk => ?_, fun r h1 h2 => ?_⟩
      · rw [cf _ (by decide), m0 _ (by decide)]
        exact a1
      · rw [cf _ (by decide), m0 _ (by decide)]
        exact a2
      · rw [cf _ (by decide), m0 _ (by decide)]
        exact a3
      · rw [cf _ (by decide), cf _ (by decide), cf _ (by decide), cf _ (by decide), mf _ (by omega) (by omega)]
        exact a4 r hr
      · rw [cf _ (by decide), cf _ (by decide), cf _ (by decide), cf _ (by decide), mf _ (by omega) (by omega)]
        exact a5 j hj
      · rw [cf _ (by decide), a6]
        show nI (cn (τ 5004 900) / 2) = nI (cn _ / 2)
        rw [u2_oi (show (900 : Nat) ≠ 100 + (2 * cn x + 1) by omega), u2_oi (show (900 : Nat) ≠ 2 * cn x + 1 by omega), u2_ne (by decide)]
      · rw [cf 1151 (by decide), u2_oi (show 2 * k + 1 ≠ 100 + (2 * cn x + 1) by omega), u2_oi (show 2 * k ≠ 100 + (2 * cn x + 1) by omega), u2_oi (show 2 * k ≠ 2 * cn x + 1 by omega), u2_ne (show (5004 : Nat) ≠ 5000 by decide)]
        refine ⟨?_, (a7 k hk).2⟩
        by_cases e : k = cn x
        · rw [e, u2_at, u2_at]
        · rw [u2_oi e, u2_oi (show 2 * k + 1 ≠ 2 * cn x + 1 by omega), u2_ne (show (5004 : Nat) ≠ 5000 by decide)]
          exact (a7 k hk).1
      · rw [mf _ (by omega) (by omega)] at h1
        rw [mf _ (by omega) (by omega)]
        exact a8 r h1 h2
    · rw [if_pos c0, if_neg c2, if_pos c1, if_neg c2]
      exact h.s00
  · rw [if_neg (fun q => c1 ((sub1_lt (x := x) (R := C) (by omega)).mp q)), if_neg c1]
    exact h.s00
end
end
section
/-! ===== the answers, from the relation ===== -/
section
variable {τ σ : XS9} {x y v u : Int32} {R B C : Nat}
theorem bad {τ : XS9} {es : List String} {E : String} {k m : Int32} (e : lw_ix es E = k) : u2 (u2 τ 5000 0 0) 5000 0 k 5000 0 = lw_k es (.inr E : Int32 ⊕ String) ∧ ∀ w, (.inr E : Int32 ⊕ String) = .inl w → w = m := ⟨u2_at.trans e.symm, fun w z => by cases z⟩
theorem xit_cg {S : Type} {step step' : Nat → S → S} {N : Nat} (h : ∀ i s, i < N → step i s = step' i s) : ∀ (f i : Nat) (s : S), i + f = N → xit step f i s = xit step' f i s
  | 0, _, _, _ => rfl
  | f + 1, i, s, e => by
    show xit step f (i + 1) (step i s) = xit step' f (i + 1) (step' i s)
    rw [h i s (by omega), xit_cg h f (i + 1) _ (by omega)]
theorem says_rules (h : RA τ σ) (q2 : σ 1000 7 = 0 ↔ τ 5000 1 = 0) : g_Mrules τ x y 5000 0 = lw_k [eIAE, eISE] (o_rules σ x y) ∧ ∀ w, o_rules σ x y = .inl w → w = f_Mrules τ x y := by
  unfold g_Mrules o_rules f_Mrules
  by_cases c1 : n_bt x 1 5
  · by_cases c4 : σ 1000 7 = 0
    · simp only [if_pos c1, if_pos c4, if_pos (q2.mp c4)]
      refine ⟨?_, fun w e => ?_⟩
      · rw [u2_oi (by decide), u2_oi (by decide), u2_at]
        rfl
      · rw [← Sum.inl.inj e]
        exact h.1.2.1
    · simp only [if_pos c1, if_neg c4, if_neg (fun e => c4 (q2.mpr e))]
      exact bad rfl
  · simp only [if_neg c1]
    exact bad rfl
theorem says_bidder (q2 : σ 1000 7 = 0 ↔ τ 5000 1 = 0) (hB6 : B ≤ 6) : g_Mbidder τ x y v u B 5000 0 = lw_k [eIAE, eISE] (o_bidder σ x y v u B) ∧ ∀ w, o_bidder σ x y v u B = .inl w → w = f_Mbidder τ x y v u B := by
  unfold g_Mbidder o_bidder f_Mbidder
  by_cases c1 : n_bt x 0 99999
  · by_cases c2 : n_bt y 1 200
    · by_cases c3 : n_bt v 0 30
      · by_cases c6 : n_bt u 0 3
        · by_cases c4 : σ 1000 7 = 0
          · by_cases c5 : nI B < 6
            · simp only [if_pos c1, if_pos c2, if_pos c3, if_pos c6, if_pos c4, if_pos (q2.mp c4), if_pos c5, if_neg ((nI6 hB6).mp c5)]
              refine ⟨?_, fun w e => (Sum.inl.inj e).symm⟩
              rw [u2_ne (by decide), u2_ne (by omega), uR_ne (by omega), u2_at]
              rfl
            · simp only [if_pos c1, if_pos c2, if_pos c3, if_pos c6, if_pos c4, if_pos (q2.mp c4), if_neg c5, if_pos (Classical.not_not.mp (fun e => c5 ((nI6 hB6).mpr e)))]
              exact bad rfl
          · simp only [if_pos c1, if_pos c2, if_pos c3, if_pos c6, if_neg c4, if_neg (fun e => c4 (q2.mpr e))]
            exact bad rfl
        · simp only [if_pos c1, if_pos c2, if_pos c3, if_neg c6]
          exact bad rfl
      · simp only [if_pos c1, if_pos c2, if_neg c3]
        exact bad rfl
    · simp only [if_pos c1, if_neg c2]
      exact bad rfl
  · simp only [if_neg c1]
    exact bad rfl
theorem says_border (h : RA τ σ) (q2 : σ 1000 7 = 0 ↔ τ 5000 1 = 0) (hR5 : mR τ ≤ 5) : g_Mborder τ x y (mR τ) 5000 0 = lw_k [eIOB, eIAE, eISE] (o_border σ x y (mR τ)) ∧ ∀ w, o_border σ x y (mR τ) = .inl w → w = f_Mborder τ x y (mR τ) := by
  have P := (h.border (x := x) (y := y) q2 hR5 rfl).2.1
  unfold g_Mborder g_border at P
  unfold g_Mborder o_border f_Mborder
  by_cases c1 : n_lt x (mR τ)
  · by_cases c2 : n_lt y (mR τ)
    · by_cases c3 : nI (cn x) = nI (cn y)
      · simp only [if_pos c1, if_pos c2, if_pos c3]
        exact bad rfl
      · by_cases c4 : σ 1000 7 = 0
        · simp only [if_pos c1, if_pos c2, if_neg c3, if_pos c4, if_pos (q2.mp c4)] at P ⊢
          refine ⟨?_, fun w e => ?_⟩
          · have hx := c1.2
            have hy := c2.2
            rw [u2_ne (by omega), u2_ne (by omega), u2_at]
            rfl
          · rw [← Sum.inl.inj e]
            unfold f_addBorder x_addBorder_29
            congr 1
            refine xit_cg (N := mR τ) (fun i s hi => ?_) (mR τ) 0 0 (Nat.zero_add _)
            have p := (P i (by omega)).2.2.2
            unfold g_addBorder at p
            (try dsimp only)
            rw [p]
        · simp only [if_pos c1, if_pos c2, if_neg c3, if_neg c4, if_neg (fun e => c4 (q2.mpr e))]
          exact bad rfl
    · simp only [if_pos c1, if_neg c2]
      exact bad rfl
  · simp only [if_neg c1]
    exact bad rfl
theorem says_station (hC : C ≤ 10) : g_Mstation τ x y R C 5000 0 = lw_k [eIOB, eIAE, eISE] (o_station σ x y R C) ∧ ∀ w, o_station σ x y R C = .inl w → w = f_Mstation τ x y R C := by
  unfold g_Mstation o_station f_Mstation
  by_cases c1 : n_lt x R
  · by_cases c2 : n_bt y 1 9999
    · by_cases c3 : nI C < 10
      · have hC9 : C < 10 := (nI_ltI (a := C) (b := 10) (by omega) (by omega)).mp c3
        have c4 : ¬ nI (2 * C) = 20 := fun e => by
          have := congrArg cn e
          rw [cn_nI (by omega)] at this
          have e5 : cn (20 : Int32) = 20 := rfl
          omega
        simp only [if_pos c1, if_pos c2, if_neg c4, if_pos c3]
        refine ⟨?_, fun w e => (Sum.inl.inj e).symm⟩
        unfold g_addI
        rw [u2_ne (by decide), u2_ne (by decide), u2_ne (by decide), u2_ne (by decide), u2_at]
        rfl
      · have c4 : nI (2 * C) = 20 := by
          have : ¬ C < 10 := fun q => c3 ((nI_ltI (a := C) (b := 10) (by omega) (by omega)).mpr q)
          rw [show C = 10 by omega]
          rfl
        simp only [if_pos c1, if_pos c2, if_pos c4, if_neg c3]
        exact bad rfl
    · simp only [if_pos c1, if_neg c2]
      exact bad rfl
  · simp only [if_neg c1]
    exact bad rfl
theorem says_ask (h : RA τ σ) (hC : C ≤ 10) : g_Mask τ x y C 5000 0 = lw_k [eIOB, eIAE] (o_ask σ x y C) ∧ ∀ w, o_ask σ x y C = .inl w → w = f_Mask τ x y C := by
  unfold g_Mask o_ask f_Mask
  by_cases c1 : n_lt x C
  · have c0 := (sub1_lt (x := x) (R := C) (by omega)).mpr c1
    by_cases c2 : n_bt y 1 9999
    · simp only [if_pos c0, if_pos c1, if_pos c2]
      refine ⟨?_, fun w e => ?_⟩
      · unfold g_setS
        rw [u2_ne (by decide), u2_ne (by decide), u2_at]
        rfl
      · rw [← Sum.inl.inj e, u2_ne (by decide)]
        exact (h.2.2.2.2.1 _ (by have := c1.2; omega)).1
    · simp only [if_pos c0, if_pos c1, if_neg c2]
      exact bad rfl
  · simp only [if_neg c1, if_neg (fun q => c1 ((sub1_lt (x := x) (R := C) (by omega)).mp q))]
    exact bad rfl
end
end
