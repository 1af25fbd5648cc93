section
/-! ===== what was told, alike on both sides ===== -/
def ka (q i : Nat) : Prop := (1010 ≤ q ∧ q ≤ 1017) ∨ q = 1006 ∨ q = 1150 ∨ q = 1151 ∨ (q = 1000 ∧ i = 11) ∨ (q = 1001 ∧ (i = 10 ∨ i = 11))
def VA (σ σ2 : XS9) : Prop := ∀ q i, ka q i → σ2 q i = σ q i
theorem VA.rfl' {σ : XS9} : VA σ σ := fun _ _ _ => rfl
theorem VA.trans {σ σ2 σ3 : XS9} (a : VA σ σ2) (b : VA σ2 σ3) : VA σ σ3 := fun q i h => (b q i h).trans (a q i h)
theorem VA.set {σ : XS9} {q i : Nat} {x : Int32} (hq : ¬ ka q i) : VA σ (u2 σ q i x) := fun q9 i9 hk => u2_o (fun a b => hq (by rw [← a, ← b]; exact hk))
theorem VA.rows {σ σ2 : XS9} (h : ∀ q, (q = 1000 ∨ q = 1001 ∨ (1010 ≤ q ∧ q ≤ 1017) ∨ q = 1006 ∨ q = 1150 ∨ q = 1151) → σ2 q = σ q) : VA σ σ2 := fun q i hk => by rw [h q (by unfold ka at hk; omega)]
section
variable {σ τ : XS9} {R B C K g w : Nat} {gr cnt sp pk tn rg : Nat → Nat} {cd : Nat → Nat → Nat}
theorem nka {q i : Nat} (h : 2000 ≤ q) : ¬ ka q i := fun k => by unfold ka at k; omega
theorem VA.step {x : Int32} : VA σ (g_step σ x) := by
  unfold g_step
  (repeat' split) <;> first | with_reducible exact VA.rfl' | exact VA.set (fun k => by unfold ka at k; omega) | exact VA.rfl'
theorem VA.opn : VA σ (g_open σ R B) := by
  unfold g_open
  (repeat' split) <;> first | with_reducible exact VA.rfl' | exact VA.set (fun k => by unfold ka at k; omega) | exact VA.rfl'
theorem VA.wish {x y z : Int32} : VA σ (g_wish σ x y z R B) := by
  unfold g_wish
  (repeat' split) <;> first | with_reducible exact VA.rfl' | exact VA.set (q := 2003) (nka (by omega)) | exact VA.rfl'
theorem VA.waive {x : Int32} : VA σ (g_waive σ x B) := by
  unfold g_waive
  (repeat' split) <;> first | with_reducible exact VA.rfl' | (unfold g_useWaiver; exact (VA.set (q := 2005) (nka (by omega))).trans (VA.set (q := 2000) (nka (by omega)))) | exact VA.rfl'
theorem VA.packs {x y : Int32} : VA σ (g_packs σ x y C rg) := by
  unfold g_packs
  (repeat' split) <;> first | with_reducible exact VA.rfl' | exact VA.rows (fun q hq => fr_packM (by omega)) | exact VA.rfl'
theorem VA.channel {x y z : Int32} : VA σ (g_channel σ x y z C rg) := by
  unfold g_channel
  (repeat' split) <;> first | with_reducible exact VA.rfl' | exact VA.rows (fun q hq => fr_packM (by omega)) | exact VA.rfl'
theorem VA.clear {x : Int32} : VA σ (g_clear σ x C rg) := by
  unfold g_clear
  (repeat' split) <;> first | with_reducible exact VA.rfl' | exact VA.rows (fun q hq => fr_cheapest (by omega)) | exact VA.rfl'
theorem VA.anew {x y z v : Int32} (hK60 : K ≤ 60) : VA σ (g_anew σ x y z v R B K) := by
  unfold g_anew
  (repeat' split) <;> first | with_reducible exact VA.rfl' | exact VA.rows (fun q hq => fr_runLog hK60 (by omega)) | exact VA.rfl'
theorem VA.isSound (hK60 : K ≤ 60) : VA σ (g_isSound σ R B w K) := VA.rows (fun q hq => fr_runLog hK60 (by omega))
theorem VA.digest (hK60 : K ≤ 60) : VA σ (g_digest σ K B R C w rg) := by
  unfold g_digest g_dgS
  split
  · exact ((VA.rows (fun q hq => fr_cheapest (by omega))).trans (VA.rows (fun q hq => fr_cheapest (by omega)))).trans (VA.isSound hK60)
  · exact VA.isSound hK60
theorem VA.find : VA σ (g_find σ) := VA.rows (fun q hq => fr_find (by omega))
theorem VA.addM {i : Nat} {x y : Int32} (hi : i < 6) (hg : ∀ i, i < 6 → gr i < 4) (hc : cnt i ≤ 6) : VA σ (g_addM σ i x y R B gr cnt) := VA.rows (fun q hq => fr_addM ⟨hi, by omega, hg⟩ hc)
theorem VA.offer {x y z : Int32} (hB6 : B ≤ 6) (hg : ∀ i, i < 6 → gr i < 4) (hc : ∀ i, i < 6 → cnt i ≤ 6) : VA σ (g_offer σ x y z R B gr cnt) := by
  unfold g_offer
  split
  · rename_i hx
    have hx6 : cn x < 6 := by have := hx.2; omega
    split
    · exact VA.rfl'
    · split
      · split
        · split
          · exact VA.rfl'
          · split
            · exact VA.rfl'
            · exact (VA.addM hx6 hg (hc _ hx6)).trans VA.find
        · exact VA.rfl'
      · exact VA.rfl'
  · exact VA.rfl'
theorem VA.give (hR5 : R ≤ 5) : VA σ (g_give σ R sp) := VA.rows (fun q hq => fr_give hR5 ⟨by omega, by omega⟩)
theorem VA.settle {x : Int32} (hR5 : R ≤ 5) : VA σ (g_settle σ x R sp) := by
  unfold g_settle
  (repeat' split) <;> first | with_reducible exact VA.rfl' | exact ((VA.set (fun k => by unfold ka at k; omega)).trans (VA.set (fun k => by unfold ka at k; omega))).trans (VA.give hR5) | exact VA.rfl'
theorem VA.leaveOut {i : Nat} : VA σ (g_leaveOut σ i) := VA.rows (fun q hq => fr_leaveOut (by omega))
theorem VA.fail {x : Int32} (hR5 : R ≤ 5) : VA σ (g_fail σ x R B sp) := by
  unfold g_fail
  (repeat' split) <;> first | with_reducible exact VA.rfl' | exact (((VA.set (fun k => by unfold ka at k; omega)).trans VA.leaveOut).trans VA.find).trans (VA.give hR5) | exact VA.rfl'
theorem VA.endClock {s : XS9} (hJ : JC s) (hB6 : B ≤ 6) (hg : ∀ i, i < 6 → gr i < 4) : VA s (g_endClock s R B K gr) := by
  have hx : XCT (u2 s 1000 7 2) := fun i hi => by
    rw [u2_ne (by omega)]
    exact hJ.hct i hi
  have H := endClock_loop (σ := s) (R := R) (K := K) hB6 hg (s0 := u2 s 1000 7 2) hx
  unfold g_endClock
  exact ((VA.set (fun k => by unfold ka at k; omega)).trans (VA.rows fun q hq => H.2 q (by omega))).trans VA.find
theorem VA.close (hJ : JC σ) (hK : KB σ) {x : Int32} (hR5 : R ≤ 5) (hB6 : B ≤ 6) (hg : ∀ i, i < 6 → gr i < 4) : VA σ (g_close σ x R B gr) := by
  unfold g_close
  split
  · split
    · have go : (JC (x_close_14 σ x R B gr σ) ∧ KB (x_close_14 σ x R B gr σ)) ∧ VA σ (x_close_14 σ x R B gr σ) := by
        unfold x_close_14
        refine xitB_all (fun s => (JC s ∧ KB s) ∧ VA σ s) (N := cn x) (fun i s s' hi hP => ?_) (cn x) 0 _ (Nat.zero_add _) ⟨⟨hJ, hK⟩, VA.rfl'⟩
        have h60 := hP.1.1.hK.2
        have C1 : JC (g_closeRound s 2000 (s 1000 8) B R (cn (s 2000 9))) ∧ KB (g_closeRound s 2000 (s 1000 8) B R (cn (s 2000 9))) := ⟨hP.1.1.closeRound, hP.1.2.closeRound hP.1.2.2.2.2.2.2 hR5 hB6 h60⟩
        have C2 : VA σ (g_closeRound s 2000 (s 1000 8) B R (cn (s 2000 9))) := hP.2.trans (VA.rows fun q hq => fr_closeRound (by omega))
        (try dsimp only)
        split
        · split
          · intro e
            rcases e with e | e
            · rw [← Sum.inl.inj e]
              exact ⟨C1, C2⟩
            · cases e
          · intro e
            rcases e with e | e
            · rw [← Sum.inl.inj e]
              exact ⟨JK.endClock C1.1 C1.2 hB6 (by omega) hg, C2.trans (VA.endClock C1.1 hB6 hg)⟩
            · cases e
        · intro e
          rcases e with e | e
          · cases e
          · rw [← Sum.inr.inj e]
            exact hP
      exact go.2
    · exact VA.rfl'
  · exact VA.rfl'
/-! the reference's -/
def kb (q i : Nat) : Prop := (5010 ≤ q ∧ q ≤ 5014) ∨ q = 5004 ∨ (5020 ≤ q ∧ q ≤ 5025 ∧ i < 4) ∨ (q = 5000 ∧ (i = 2 ∨ i = 3 ∨ i = 6)) ∨ (q = 5001 ∧ i = 900)
def MA (τ τ2 : XS9) : Prop := ∀ q i, kb q i → τ2 q i = τ q i
theorem MA.rfl' : MA τ τ := fun _ _ _ => rfl
theorem MA.trans {τ τ2 τ3 : XS9} (a : MA τ τ2) (b : MA τ2 τ3) : MA τ τ3 := fun q i h => (b q i h).trans (a q i h)
theorem MA.set {q i : Nat} {x : Int32} (hq : ¬ kb q i) : MA τ (u2 τ q i x) := fun q9 i9 hk => u2_o (fun a b => hq (by rw [← a, ← b]; exact hk))
theorem nkb {i : Nat} (h : i ≠ 2 ∧ i ≠ 3 ∧ i ≠ 6) : ¬ kb 5000 i := fun k => by unfold kb at k; omega
theorem MA.s0 {x : Int32} : MA τ (u2 τ 5000 0 x) := MA.set (nkb (by decide))
theorem MA.s00 {x : Int32} : MA τ (u2 (u2 τ 5000 0 0) 5000 0 x) := MA.s0.trans MA.s0
theorem MA.hi {τ2 : XS9} (e : ∀ q, q < 7000 → τ2 q = τ q) : MA τ τ2 := fun q i hk => by rw [e q (by unfold kb at hk; omega)]
theorem MA.step {x : Int32} : MA τ (g_Mstep τ x) := by
  unfold g_Mstep
  (repeat' split) <;> first | with_reducible exact MA.s00 | exact MA.s0.trans (MA.set (nkb (by decide))) | exact MA.s00
theorem MA.opn : MA τ (g_Mopen τ R B) := by
  unfold g_Mopen
  (repeat' split) <;> first | with_reducible exact MA.s00 | exact MA.trans (τ2 := u2 (u2 τ 5000 0 0) 5000 1 1) (MA.s0.trans (MA.set (nkb (by decide)))) (MA.hi fun q hq => by rw [u2_ne (by omega), fr_Kinit (by omega)]) | exact MA.s00
theorem MA.wish {x y v : Int32} : MA τ (g_Mwish τ x y v R B g) := by
  unfold g_Mwish
  (repeat' split) <;> first | with_reducible exact MA.s00 | exact MA.s0.trans (MA.set (fun k => by unfold kb at k; omega)) | exact MA.s00
theorem MA.waive {x : Int32} : MA τ (g_Mwaive τ x B g w) := by
  unfold g_Mwaive
  (repeat' split) <;> first | with_reducible exact MA.s00 | exact (MA.s0.trans (MA.set (fun k => by unfold kb at k; omega))).trans (MA.set (fun k => by unfold kb at k; omega)) | exact MA.s00
theorem MA.madd {j p : Nat} {c a : Int32} : MA τ (g_Madd τ j p c a) := by
  unfold g_Madd g_addI
  exact (((MA.set (fun k => by unfold kb at k; omega)).trans (MA.set (fun k => by unfold kb at k; omega))).trans (MA.set (fun k => by unfold kb at k; omega))).trans (MA.set (fun k => by unfold kb at k; omega))
theorem MA.offer {x y v : Int32} : MA τ (g_Moffer τ x y v R B pk) := by
  unfold g_Moffer
  (repeat' split) <;> first | with_reducible exact MA.s00 | exact MA.s0.trans MA.madd | exact MA.s00
theorem MA.cinit : MA τ (u2 (g_Cinit τ R B pk gr cd) 9000 20 0) := MA.hi fun q hq => by rw [u2_ne (by omega), fr_Cinit (by omega)]
theorem MA.cpay {y : Nat} (hB6 : B ≤ 6) : MA τ (u2 (u2 (g_Cpay (g_Cinit τ R B pk gr cd) y 20000 B) 9000 20 0) 20000 20 0) := MA.hi fun q hq => by rw [u2_ne (by omega), u2_ne (by omega), fr_Cpay ⟨by omega, hB6⟩, fr_Cinit (by omega)]
theorem MA.keep {wy : Nat} (hB6 : B ≤ 6) : MA τ (g_Mkeep τ R B pk gr cd wy sp) := fun q i hk => by rw [fr_Mkeep ⟨by unfold kb at hk; omega, by unfold kb at hk; omega, by unfold kb at hk; omega, hB6⟩]
theorem MA.settle {x : Int32} (hB6 : B ≤ 6) : MA τ (g_Msettle τ x R B pk gr cd sp) := by
  unfold g_Msettle
  (repeat' split) <;> first | with_reducible exact MA.s00 | exact ((MA.s0.trans (MA.set (nkb (by decide)))).trans (MA.set (nkb (by decide)))).trans (MA.keep hB6) | exact MA.s00
theorem MA.fail {x : Int32} {wy : Nat} (hB6 : B ≤ 6) : MA τ (g_Mfail τ x R B pk gr cd wy sp) := by
  unfold g_Mfail
  (repeat' split) <;> first | with_reducible exact MA.s00 | exact ((MA.s0.trans (MA.set (nkb (by decide)))).trans (MA.set (fun k => by unfold kb at k; omega))).trans (MA.keep hB6) | exact MA.s00
theorem MA.packs {x y : Int32} : MA τ (g_Mpacks τ x y R C rg) := by
  unfold g_Mpacks
  split
  · split
    · rename_i hy
      have hc := cn6 hy
      exact MA.s0.trans (MA.hi fun q hq => by rw [u2_ne (by omega), fr_Mcp ⟨by omega, hc⟩, uR_ne (by omega)])
    · exact MA.s0
  · exact MA.s0
theorem MA.clear {x : Int32} : MA τ (g_Mclear τ x R C rg) := by
  unfold g_Mclear
  split
  · rename_i hy
    exact MA.s0.trans (MA.hi fun q hq => fr_MclearNow ⟨by omega, cn6 hy⟩)
  · exact MA.s00
theorem MA.channel {x y v : Int32} : MA τ (g_Mchannel τ x y v R C rg) := by
  rcases chan_mem (τ := τ) (x := x) (y := y) (v := v) (R := R) (C := C) (rg := rg) with ⟨t, e⟩ | ⟨e1, e2⟩
  · rw [e]
    exact MA.s00
  · exact MA.s0.trans (MA.hi fun q hq => e1 q (by omega))
theorem MA.clo (r : JR τ) (h : JS τ) (hs : τ 5000 1 = 1) : MA τ (g_clo τ) := by
  obtain ⟨a, b, c, d, f, g9⟩ := h.1 hs
  have hK : mK τ < 60 := by omega
  have hg : mg τ < 199 := by omega
  have hw : mw τ < 199 := by omega
  have fr : MA τ (g_clo1 τ (mR τ) (mB τ) (mK τ) (mg τ) (mw τ) (mn τ)) := fun q i hk => by rw [fr_clo1 hg hw g9 hK (by unfold kb at hk; omega)]
  show MA τ (g_McloseOne τ (mR τ) (mB τ) (mK τ) (mg τ) (mw τ) (mn τ) (mpk τ))
  unfold g_McloseOne
  split
  · exact fr
  · unfold x_McloseOne_122
    refine xit_inv (fun s : XS9 => MA τ s) (N := mB τ) (fun i s hi hP => ?_) (mB τ) 0 _ (Nat.zero_add _) (fr.trans (MA.set (nkb (by decide))))
    (try dsimp only)
    split
    · exact hP
    · exact hP.trans MA.madd
theorem MA.close {x : Int32} (r : JR τ) (h : JS τ) (p : JP τ) : MA τ (g_Mclose τ x) := by
  unfold g_Mclose
  split
  · split
    · unfold x_Mclose_37
      have go := xitB_all (step := fun i37 (s37 : XS9) => (if (s37 5000 1) = 1 then .inl (g_clo s37) else .inr s37)) (fun s : XS9 => (JR s ∧ JS s ∧ JP s) ∧ MA τ s) (N := cn x) (fun i s s' hi hP => by
        (try dsimp only)
        split
        · rename_i hs
          intro e
          rcases e with e | e
          · rw [← Sum.inl.inj e]
            exact ⟨(clo_all hP.1.1 hP.1.2.1 hP.1.2.2 hs).1, hP.2.trans (MA.clo hP.1.1 hP.1.2.1 hs)⟩
          · cases e
        · intro e
          rcases e with e | e
          · cases e
          · rw [← Sum.inr.inj e]
            exact hP) (cn x) 0 (u2 τ 5000 0 0) (Nat.zero_add _) ⟨⟨r.s0, h.s0 r, p.s0⟩, MA.s0⟩
      exact go.2
    · exact MA.s00
  · exact MA.s00
end
def RA (τ σ : XS9) : Prop := (σ 1000 11 = τ 5000 6 ∧ σ 1001 10 = τ 5000 2 ∧ σ 1001 11 = τ 5000 3) ∧ (∀ r, r < 5 → σ 1010 r = τ (5010 + r) 0 ∧ σ 1011 r = τ (5010 + r) 1 ∧ σ 1012 r = τ (5010 + r) 2 ∧ σ 1013 r = τ (5010 + r) 3) ∧ (∀ j, j < 6 → σ 1014 j = τ (5020 + j) 0 ∧ σ 1015 j = τ (5020 + j) 1 ∧ σ 1016 j = τ (5020 + j) 2 ∧ σ 1017 j = τ (5020 + j) 3) ∧ σ 1006 1 = nI (mC τ) ∧ (∀ k, k < 10 → σ 1150 k = τ 5004 (2 * k + 1) ∧ σ 1151 k = τ 5004 (2 * k)) ∧ ∀ r, cn (τ 5001 900) ≤ r → r < 5 → τ (5010 + r) 3 = 0
section
variable {σ τ τ2 σ2 : XS9}
theorem RA.kept (h : RA τ σ) (m : MA τ τ2) (c : VA σ σ2) : RA τ2 σ2 := by
  obtain ⟨⟨a1, a2, a3⟩, a4, a5, a6, a7, a8⟩ := h
  have C : ∀ q i, ka q i → σ2 q i = σ q i := c
  have M : ∀ q i, kb q i → τ2 q i = τ q i := m
  refine ⟨⟨?_, ?_, ?_⟩, fun r hr => ?_, fun j hj => ?_, ?_, fun k hk => ?_, fun r h1 h2 => ?_⟩
  · rw [C _ _ (by unfold ka; omega), M _ _ (by unfold kb; omega)]; exact a1
  · rw [C _ _ (by unfold ka; omega), M _ _ (by unfold kb; omega)]; exact a2
  · rw [C _ _ (by unfold ka; omega), M _ _ (by unfold kb; omega)]; exact a3
  · rw [C 1010 r (by unfold ka; omega), C 1011 r (by unfold ka; omega), C 1012 r (by unfold ka; omega), C 1013 r (by unfold ka; omega), M _ _ (by unfold kb; omega), M _ _ (by unfold kb; omega), M _ _ (by unfold kb; omega), M _ _ (by unfold kb; omega)]
    exact a4 r hr
  · rw [C 1014 j (by unfold ka; omega), C 1015 j (by unfold ka; omega), C 1016 j (by unfold ka; omega), C 1017 j (by unfold ka; omega), M _ _ (by unfold kb; omega), M _ _ (by unfold kb; omega), M _ _ (by unfold kb; omega), M _ _ (by unfold kb; omega)]
    exact a5 j hj
  · rw [C _ _ (by unfold ka; omega), a6]
    show nI (cn (τ 5004 900) / 2) = nI (cn (τ2 5004 900) / 2)
    rw [M _ _ (by unfold kb; omega)]
  · rw [C 1150 k (by unfold ka; omega), C 1151 k (by unfold ka; omega), M _ _ (by unfold kb; omega), M _ _ (by unfold kb; omega)]
    exact a7 k hk
  · rw [M _ _ (by unfold kb; omega)] at h1
    rw [M _ _ (by unfold kb; omega)]
    exact a8 r h1 h2
theorem s0M_50 {q i : Nat} (h : q ≠ 5000) : s0M q i = 0 := if_neg h
theorem RA.init : RA s0M s0C := by
  refine ⟨⟨rfl, rfl, rfl⟩, fun r hr => ?_, fun j hj => ?_, rfl, fun k hk => ?_, fun r _ hr => s0M_50 (by omega)⟩
  · rw [s0M_50 (by omega), s0M_50 (by omega), s0M_50 (by omega), s0M_50 (by omega)]
    exact ⟨rfl, rfl, rfl, rfl⟩
  · rw [s0M_50 (by omega), s0M_50 (by omega), s0M_50 (by omega), s0M_50 (by omega)]
    exact ⟨rfl, rfl, rfl, rfl⟩
  · rw [s0M_50 (by omega), s0M_50 (by omega)]
    exact ⟨rfl, rfl⟩
theorem RA.s00 (h : RA τ σ) {x : Int32} : RA (u2 (u2 τ 5000 0 0) 5000 0 x) σ := h.kept MA.s00 VA.rfl'
theorem nI5 {R : Nat} (hR5 : R ≤ 5) : nI R < 5 ↔ ¬ nI R = 5 := by
  refine (nI_ltI (a := R) (b := 5) (by omega) (by omega)).trans ⟨fun h e => ?_, fun h => ?_⟩
  · have := congrArg cn e
    rw [cn_nI (by omega)] at this
    have e5 : cn (5 : Int32) = 5 := rfl
    omega
  · have : R ≠ 5 := fun e => h (by rw [e]; rfl)
    omega
theorem nI6 {B : Nat} (hB6 : B ≤ 6) : nI B < 6 ↔ ¬ nI B = 6 := by
  refine (nI_ltI (a := B) (b := 6) (by omega) (by omega)).trans ⟨fun h e => ?_, fun h => ?_⟩
  · have := congrArg cn e
    rw [cn_nI (by omega)] at this
    have e5 : cn (6 : Int32) = 6 := rfl
    omega
  · have : B ≠ 6 := fun e => h (by rw [e]; rfl)
    omega
theorem beg {σ : XS9} {q : Nat} (h : q < 2000) : g_begin σ 2000 q = σ q := fr_begin (by omega)
theorem RA.region {x y v : Int32} {R : Nat} (h : RA τ σ) (q2 : σ 1000 7 = 0 ↔ τ 5000 1 = 0) (hR5 : R ≤ 5) (eR : cn (τ 5001 900) = R) : RA (g_Mregion τ x y v R) (g_region σ x y v R) := by
  unfold g_Mregion g_region
  by_cases c1 : n_bt x 1 5
  · by_cases c2 : n_bt y 1 9
    · by_cases c3 : n_bt v 1 999
      · by_cases c4 : σ 1000 7 = 0
        · by_cases c5 : nI R < 5
          · rw [if_pos c1, if_pos c2, if_pos c3, if_pos (q2.mp c4), if_neg ((nI5 hR5).mp c5), if_pos c1, if_pos c2, if_pos c3, if_pos c4, if_pos c5]
            have hR : R < 5 := (nI_ltI (a := R) (b := 5) (by omega) (by omega)).mp c5
            obtain ⟨⟨a1, a2, a3⟩, a4, a5, a6, a7, a8⟩ := h
            unfold g_addRegion
            have cf : ∀ q, q < 2000 → q ≠ 1001 → q ≠ 1010 → q ≠ 1011 → q ≠ 1012 → g_begin (u2 (u2 (u2 (u2 σ 1010 R x) 1011 R y) 1012 R v) 1001 4 (nI (R + 1))) 2000 q = σ q := fun q h0 h1 h2 h3 h4 => by rw [beg h0, u2_ne h1, u2_ne h4, u2_ne h3, u2_ne h2]
            have mf : ∀ (fx : Nat → Int32) q, q ≠ 5000 → q ≠ 5001 → q ≠ 5010 + R → u2 (uR (u2 τ 5000 0 0) (5010 + R) fx) 5001 900 (nI (R + 1)) q = τ q := fun fx q h0 h1 h2 => by rw [u2_ne h1, uR_ne h2, u2_ne h0]
            have m0 : ∀ (fx : Nat → Int32) i, i ≠ 0 → u2 (uR (u2 τ 5000 0 0) (5010 + R) fx) 5001 900 (nI (R + 1)) 5000 i = τ 5000 i := fun fx i hi => by rw [u2_ne (by decide), uR_ne (by omega), u2_oi hi]
            have mR : ∀ fx : Nat → Int32, u2 (uR (u2 τ 5000 0 0) (5010 + R) fx) 5001 900 (nI (R + 1)) (5010 + R) = fx := fun fx => by rw [u2_ne (by omega), uR_eq]
            have c10 : ∀ i, i ≠ 4 → g_begin (u2 (u2 (u2 (u2 σ 1010 R x) 1011 R y) 1012 R v) 1001 4 (nI (R + 1))) 2000 1001 i = σ 1001 i := fun i hi => by rw [beg (by decide), u2_oi hi, u2_ne (by decide), u2_ne (by decide), u2_ne (by decide)]
            refine ⟨⟨?_, ?_, ?_⟩, fun r hr => ?_, fun j hj => ?_, ?_, fun k hk => ?_, fun r h1 h2 => ?_⟩
            · rw [cf _ (by decide) (by decide) (by decide) (by decide) (by decide), m0 _ _ (by decide)]
              exact a1
            · rw [c10 _ (by decide), m0 _ _ (by decide)]
              exact a2
            · rw [c10 _ (by decide), m0 _ _ (by decide)]
              exact a3
            · have o4 := a4 r hr
              rw [cf 1013 (by decide) (by decide) (by decide) (by decide) (by decide), beg (show 1010 < 2000 by decide), beg (show 1011 < 2000 by decide), beg (show 1012 < 2000 by decide), u2_ne (show (1010 : Nat) ≠ 1001 by decide), u2_ne (show (1011 : Nat) ≠ 1001 by decide), u2_ne (show (1012 : Nat) ≠ 1001 by decide), u2_ne (show (1010 : Nat) ≠ 1012 by decide), u2_ne (show (1011 : Nat) ≠ 1012 by decide), u2_ne (show (1010 : Nat) ≠ 1011 by decide)]
              by_cases e : r = R
              · subst e
                rw [mR, u2_at, u2_at, u2_at]
                exact ⟨rfl, rfl, rfl, o4.2.2.2.trans (a8 r (by omega) hr)⟩
              · rw [mf _ _ (by omega) (by omega) (by omega), u2_oi e, u2_oi e, u2_oi e, u2_ne (show (1011 : Nat) ≠ 1010 by decide), u2_ne (show (1012 : Nat) ≠ 1011 by decide), u2_ne (show (1012 : Nat) ≠ 1010 by decide)]
                exact o4
            · rw [cf 1014 (by decide) (by decide) (by decide) (by decide) (by decide), cf 1015 (by decide) (by decide) (by decide) (by decide) (by decide), cf 1016 (by decide) (by decide) (by decide) (by decide) (by decide), cf 1017 (by decide) (by decide) (by decide) (by decide) (by decide), mf _ _ (by omega) (by omega) (by omega)]
              exact a5 j hj
            · rw [cf _ (by decide) (by decide) (by decide) (by decide) (by decide), a6]
              show nI (cn (τ 5004 900) / 2) = nI (cn _ / 2)
              rw [mf _ _ (by omega) (by omega) (by omega)]
            · rw [cf 1150 (by decide) (by decide) (by decide) (by decide) (by decide), cf 1151 (by decide) (by decide) (by decide) (by decide) (by decide), mf _ _ (by omega) (by omega) (by omega)]
              exact a7 k hk
            · rw [u2_at, cn_nI (by omega)] at h1
              rw [mf _ _ (by omega) (by omega) (by omega)]
              exact a8 r (by omega) h2
          · rw [if_pos c1, if_pos c2, if_pos c3, if_pos (q2.mp c4), if_pos (Classical.not_not.mp (fun e => c5 ((nI5 hR5).mpr e))), if_pos c1, if_pos c2, if_pos c3, if_pos c4, if_neg c5]
            exact h.s00
        · rw [if_pos c1, if_pos c2, if_pos c3, if_neg (fun e => c4 (q2.mpr e)), if_pos c1, if_pos c2, if_pos c3, if_neg c4]
          exact h.s00
      · rw [if_pos c1, if_pos c2, if_neg c3, if_pos c1, if_pos c2, if_neg c3]
        exact h.s00
    · rw [if_pos c1, if_neg c2, if_pos c1, if_neg c2]
      exact h.s00
  · rw [if_neg c1, if_neg c1]
    exact h.s00
theorem RA.bidder {x y v u : Int32} {B : Nat} (h : RA τ σ) (q2 : σ 1000 7 = 0 ↔ τ 5000 1 = 0) (hB6 : B ≤ 6) : RA (g_Mbidder τ x y v u B) (g_bidder σ x y v u B) := by
  unfold g_Mbidder g_bidder
  by_cases c1 : n_bt x 0 99999
  · by_cases c2 : n_bt y 1 200
    · by_cases c3 : n_bt v 0 30
      · by_cases c6 : n_bt u 0 3
        · by_cases c4 : σ 1000 7 = 0
          · by_cases c5 : nI B < 6
            · rw [if_pos c1, if_pos c2, if_pos c3, if_pos c6, if_pos (q2.mp c4), if_neg ((nI6 hB6).mp c5), if_pos c1, if_pos c2, if_pos c3, if_pos c6, if_pos c4, if_pos c5]
              have hB : B < 6 := (nI_ltI (a := B) (b := 6) (by omega) (by omega)).mp c5
              obtain ⟨⟨a1, a2, a3⟩, a4, a5, a6, a7, a8⟩ := h
              unfold g_addBidder
              have cf : ∀ q, q < 2000 → q ≠ 1001 → q ≠ 1014 → q ≠ 1015 → q ≠ 1016 → q ≠ 1017 → g_begin (u2 (u2 (u2 (u2 (u2 σ 1014 B x) 1015 B y) 1016 B v) 1017 B u) 1001 9 (nI (B + 1))) 2000 q = σ q := fun q h0 h1 h2 h3 h4 h5 => by rw [beg h0, u2_ne h1, u2_ne h5, u2_ne h4, u2_ne h3, u2_ne h2]
              have mf : ∀ (fx : Nat → Int32) q, q ≠ 5000 → q ≠ 5002 → q ≠ 5020 + B → q ≠ 5030 + B → u2 (u2 (uR (u2 τ 5000 0 0) (5020 + B) fx) (5030 + B) 900 0) 5002 900 (nI (B + 1)) q = τ q := fun fx q h0 h1 h2 h3 => by rw [u2_ne h1, u2_ne h3, uR_ne h2, u2_ne h0]
              have m0 : ∀ (fx : Nat → Int32) i, i ≠ 0 → u2 (u2 (uR (u2 τ 5000 0 0) (5020 + B) fx) (5030 + B) 900 0) 5002 900 (nI (B + 1)) 5000 i = τ 5000 i := fun fx i hi => by rw [u2_ne (by decide), u2_ne (by omega), uR_ne (by omega), u2_oi hi]
              have mB : ∀ fx : Nat → Int32, u2 (u2 (uR (u2 τ 5000 0 0) (5020 + B) fx) (5030 + B) 900 0) 5002 900 (nI (B + 1)) (5020 + B) = fx := fun fx => by rw [u2_ne (by omega), u2_ne (by omega), uR_eq]
              have c10 : ∀ i, i ≠ 9 → g_begin (u2 (u2 (u2 (u2 (u2 σ 1014 B x) 1015 B y) 1016 B v) 1017 B u) 1001 9 (nI (B + 1))) 2000 1001 i = σ 1001 i := fun i hi => by rw [beg (by decide), u2_oi hi, u2_ne (by decide), u2_ne (by decide), u2_ne (by decide), u2_ne (by decide)]
              refine ⟨⟨?_, ?_, ?_⟩, fun r hr => ?_, fun j hj => ?_, ?_, fun k hk => ?_, fun r h1 h2 => ?_⟩
              · rw [cf _ (by decide) (by decide) (by decide) (by decide) (by decide) (by decide), m0 _ _ (by decide)]
                exact a1
              · rw [c10 _ (by decide), m0 _ _ (by decide)]
                exact a2
              · rw [c10 _ (by decide), m0 _ _ (by decide)]
                exact a3
              · rw [cf 1010 (by decide) (by decide) (by decide) (by decide) (by decide) (by decide), cf 1011 (by decide) (by decide) (by decide) (by decide) (by decide) (by decide), cf 1012 (by decide) (by decide) (by decide) (by decide) (by decide) (by decide), cf 1013 (by decide) (by decide) (by decide) (by decide) (by decide) (by decide), mf _ _ (by omega) (by omega) (by omega) (by omega)]
                exact a4 r hr
              · have o5 := a5 j hj
                rw [beg (show 1014 < 2000 by decide), beg (show 1015 < 2000 by decide), beg (show 1016 < 2000 by decide), beg (show 1017 < 2000 by decide), u2_ne (show (1014 : Nat) ≠ 1001 by decide), u2_ne (show (1015 : Nat) ≠ 1001 by decide), u2_ne (show (1016 : Nat) ≠ 1001 by decide), u2_ne (show (1017 : Nat) ≠ 1001 by decide), u2_ne (show (1014 : Nat) ≠ 1017 by decide), u2_ne (show (1015 : Nat) ≠ 1017 by decide), u2_ne (show (1016 : Nat) ≠ 1017 by decide), u2_ne (show (1014 : Nat) ≠ 1016 by decide), u2_ne (show (1015 : Nat) ≠ 1016 by decide), u2_ne (show (1014 : Nat) ≠ 1015 by decide)]
                by_cases e : j = B
                · subst e
                  rw [mB, u2_at, u2_at, u2_at, u2_at]
                  exact ⟨rfl, rfl, rfl, rfl⟩
                · rw [mf _ _ (by omega) (by omega) (by omega) (by omega), u2_oi e, u2_oi e, u2_oi e, u2_oi e, u2_ne (show (1015 : Nat) ≠ 1014 by decide), u2_ne (show (1016 : Nat) ≠ 1015 by decide), u2_ne (show (1016 : Nat) ≠ 1014 by decide), u2_ne (show (1017 : Nat) ≠ 1016 by decide), u2_ne (show (1017 : Nat) ≠ 1015 by decide), u2_ne (show (1017 : Nat) ≠ 1014 by decide)]
                  exact o5
              · rw [cf _ (by decide) (by decide) (by decide) (by decide) (by decide) (by decide), a6]
                show nI (cn (τ 5004 900) / 2) = nI (cn _ / 2)
                rw [mf _ _ (by omega) (by omega) (by omega) (by omega)]
              · rw [cf 1150 (by decide) (by decide) (by decide) (by decide) (by decide) (by decide), cf 1151 (by decide) (by decide) (by decide) (by decide) (by decide) (by decide), mf _ _ (by omega) (by omega) (by omega) (by omega)]
                exact a7 k hk
              · rw [mf _ _ (by omega) (by omega) (by omega) (by omega)] at h1
                rw [mf _ _ (by omega) (by omega) (by omega) (by omega)]
                exact a8 r h1 h2
            · rw [if_pos c1, if_pos c2, if_pos c3, if_pos c6, if_pos (q2.mp c4), if_pos (Classical.not_not.mp (fun e => c5 ((nI6 hB6).mpr e))), if_pos c1, if_pos c2, if_pos c3, if_pos c6, if_pos c4, if_neg c5]
              exact h.s00
          · rw [if_pos c1, if_pos c2, if_pos c3, if_pos c6, if_neg (fun e => c4 (q2.mpr e)), if_pos c1, if_pos c2, if_pos c3, if_pos c6, if_neg c4]
            exact h.s00
        · rw [if_pos c1, if_pos c2, if_pos c3, if_neg c6, if_pos c1, if_pos c2, if_pos c3, if_neg c6]
          exact h.s00
      · rw [if_pos c1, if_pos c2, if_neg c3, if_pos c1, if_pos c2, if_neg c3]
        exact h.s00
    · rw [if_pos c1, if_neg c2, if_pos c1, if_neg c2]
      exact h.s00
  · rw [if_neg c1, if_neg c1]
    exact h.s00
theorem RA.rules {x y : Int32} (h : RA τ σ) (q2 : σ 1000 7 = 0 ↔ τ 5000 1 = 0) : RA (g_Mrules τ x y) (g_rules σ x y) := by
  unfold g_Mrules g_rules
  by_cases c1 : n_bt x 1 5
  · by_cases c4 : σ 1000 7 = 0
    · rw [if_pos c1, if_pos (q2.mp c4), if_pos c1, if_pos c4]
      obtain ⟨⟨a1, a2, a3⟩, a4, a5, a6, a7, a8⟩ := h
      have cf : ∀ q, q ≠ 1001 → u2 (u2 σ 1001 10 x) 1001 11 y q = σ q := fun q hq => by rw [u2_ne hq, u2_ne hq]
      have mf : ∀ q, q ≠ 5000 → u2 (u2 (u2 τ 5000 0 0) 5000 2 x) 5000 3 y q = τ q := fun q hq => by rw [u2_ne hq, u2_ne hq, u2_ne hq]
      refine ⟨⟨?_, ?_, ?_⟩, fun r hr => ?_, fun j hj => ?_, ?_, fun k hk => ?_, fun r h1 h2 => ?_⟩
      · rw [cf _ (by decide), u2_oi (by decide), u2_oi (by decide), u2_oi (by decide)]
        exact a1
      · rw [u2_oi (by decide), u2_at, u2_oi (by decide), u2_at]
      · rw [u2_at, u2_at]
      · rw [cf _ (by decide), cf _ (by decide), cf _ (by decide), cf _ (by decide), mf _ (by omega)]
        exact a4 r hr
      · rw [cf _ (by decide), cf _ (by decide), cf _ (by decide), cf _ (by decide), mf _ (by omega)]
        exact a5 j hj
      · rw [cf _ (by decide), a6]
        show nI (cn (τ 5004 900) / 2) = nI (cn _ / 2)
        rw [mf _ (by omega)]
      · rw [cf _ (by decide), cf _ (by decide), mf _ (by omega)]
        exact a7 k hk
      · rw [mf _ (by omega)] at h1
        rw [mf _ (by omega)]
        exact a8 r h1 h2
    · rw [if_pos c1, if_neg (fun e => c4 (q2.mpr e)), if_pos c1, if_neg c4]
      exact h.s00
  · rw [if_neg c1, if_neg c1]
    exact h.s00
theorem RA.knock (h : RA τ σ) : RA (g_Mknock τ) (g_knock σ) := by
  unfold g_Mknock g_knock
  obtain ⟨⟨a1, a2, a3⟩, a4, a5, a6, a7, a8⟩ := h
  have cf : ∀ q, q ≠ 1000 → u2 σ 1000 11 (σ 1000 11 + 1) q = σ q := fun q hq => u2_ne hq
  have mf : ∀ q, q ≠ 5000 → u2 (u2 τ 5000 0 0) 5000 6 (τ 5000 6 + 1) q = τ q := fun q hq => by rw [u2_ne hq, u2_ne hq]
  refine ⟨⟨?_, ?_, ?_⟩, fun r hr => ?_, fun j hj => ?_, ?_, fun k hk => ?_, fun r h1 h2 => ?_⟩
  · rw [u2_at, u2_at, a1]
  · rw [cf _ (by decide), u2_oi (by decide), u2_oi (by decide)]
    exact a2
  · rw [cf _ (by decide), u2_oi (by decide), u2_oi (by decide)]
    exact a3
  · rw [cf _ (by decide), cf _ (by decide), cf _ (by decide), cf _ (by decide), mf _ (by omega)]
    exact a4 r hr
  · rw [cf _ (by decide), cf _ (by decide), cf _ (by decide), cf _ (by decide), mf _ (by omega)]
    exact a5 j hj
  · rw [cf _ (by decide), a6]
    show nI (cn (τ 5004 900) / 2) = nI (cn _ / 2)
    rw [mf _ (by omega)]
  · rw [cf _ (by decide), cf _ (by decide), mf _ (by omega)]
    exact a7 k hk
  · rw [mf _ (by omega)] at h1
    rw [mf _ (by omega)]
    exact a8 r h1 h2
theorem RA.border {x y : Int32} {R : Nat} (h : RA τ σ) (q2 : σ 1000 7 = 0 ↔ τ 5000 1 = 0) (hR5 : R ≤ 5) (eR : cn (τ 5001 900) = R) : RA (g_Mborder τ x y R) (g_border σ x y R) := by
  unfold g_Mborder g_border
  by_cases c1 : n_lt x R
  · by_cases c2 : n_lt y R
    · by_cases c3 : nI (cn x) = nI (cn y)
      · rw [if_pos c1, if_pos c2, if_pos c3, if_pos c1, if_pos c2, if_pos c3]
        exact h.s00
      · by_cases c4 : σ 1000 7 = 0
        · rw [if_pos c1, if_pos c2, if_neg c3, if_pos (q2.mp c4), if_pos c1, if_pos c2, if_neg c3, if_pos c4]
          obtain ⟨⟨a1, a2, a3⟩, a4, a5, a6, a7, a8⟩ := h
          have hx := c1.2
          have hy := c2.2
          have hxy : cn y ≠ cn x := fun e => c3 (by rw [e])
          unfold g_addBorder
          rw [u2_oi hxy, u2_ne (show 5010 + cn y ≠ 5010 + cn x by omega), u2_ne (show 5010 + cn y ≠ 5000 by omega), (a4 _ (by omega)).2.2.2, (a4 (cn y) (by omega)).2.2.2]
          generalize τ (5010 + cn x) 3 ||| 1 <<< (nI (cn y) &&& 31) = A
          generalize τ (5010 + cn y) 3 ||| 1 <<< (nI (cn x) &&& 31) = A2
          have cf : ∀ q, q ≠ 1013 → u2 (u2 σ 1013 (cn x) A) 1013 (cn y) A2 q = σ q := fun q hq => by rw [u2_ne hq, u2_ne hq]
          have mf : ∀ q, q ≠ 5000 → q ≠ 5010 + cn x → q ≠ 5010 + cn y → u2 (u2 (u2 τ 5000 0 0) (5010 + cn x) 3 A) (5010 + cn y) 3 A2 q = τ q := fun q h0 h1 h2 => by rw [u2_ne h2, u2_ne h1, u2_ne h0]
          have m0 : ∀ q i, i ≠ 3 → i ≠ 0 ∨ q ≠ 5000 → u2 (u2 (u2 τ 5000 0 0) (5010 + cn x) 3 A) (5010 + cn y) 3 A2 q i = τ q i := fun q i h0 h1 => by rw [u2_o (fun _ b => h0 b), u2_o (fun _ b => h0 b), u2_o (fun a b => by omega)]
          refine ⟨⟨?_, ?_, ?_⟩, fun r hr => ?_, fun j hj => ?_, ?_, fun k hk => ?_, fun r h1 h2 => ?_⟩
          · rw [cf _ (by decide), m0 _ _ (by decide) (by decide)]
            exact a1
          · rw [cf _ (by decide), m0 _ _ (by decide) (by decide)]
            exact a2
          · rw [cf _ (by decide), u2_ne (by omega), u2_ne (by omega), u2_oi (by decide)]
            exact a3
          · have o4 := a4 r hr
            rw [cf _ (by decide), cf _ (by decide), cf _ (by decide), m0 _ 0 (by decide) (by omega), m0 _ 1 (by decide) (by omega), m0 _ 2 (by decide) (by omega)]
            refine ⟨o4.1, o4.2.1, o4.2.2.1, ?_⟩
            by_cases e1 : r = cn y
            · rw [e1, u2_at, u2_at]
            · rw [u2_oi e1, u2_ne (show 5010 + r ≠ 5010 + cn y by omega)]
              by_cases e2 : r = cn x
              · rw [e2, u2_at, u2_at]
              · rw [u2_oi e2, u2_ne (show 5010 + r ≠ 5010 + cn x by omega), u2_ne (show 5010 + r ≠ 5000 by omega)]
                exact o4.2.2.2
          · rw [cf _ (by decide), cf _ (by decide), cf _ (by decide), cf _ (by decide), mf _ (by omega) (by omega) (by omega)]
            exact a5 j hj
          · rw [cf _ (by decide), a6]
            show nI (cn (τ 5004 900) / 2) = nI (cn _ / 2)
            rw [mf _ (by omega) (by omega) (by omega)]
          · rw [cf _ (by decide), cf _ (by decide), mf _ (by omega) (by omega) (by omega)]
            exact a7 k hk
          · rw [mf _ (by omega) (by omega) (by omega)] at h1
            rw [mf _ (by omega) (by omega) (by omega)]
            exact a8 r h1 h2
        · rw [if_pos c1, if_pos c2, if_neg c3, if_neg (fun e => c4 (q2.mpr e)), if_pos c1, if_pos c2, if_neg c3, if_neg c4]
          exact h.s00
    · rw [if_pos c1, if_neg c2, if_pos c1, if_neg c2]
      exact h.s00
  · rw [if_neg c1, if_neg c1]
    exact h.s00
theorem RA.eC (h : RA τ σ) (hS : mC τ ≤ 10) : aC σ = mC τ := by
  show cn (σ 1006 1) = mC τ
  rw [h.2.2.2.1, cn_nI (by omega)]
theorem RA.station {x y : Int32} {R C : Nat} (h : RA τ σ) (hC : C ≤ 10) (eC : mC τ = C) : RA (g_Mstation τ x y R C) (g_station σ x y R C) := by
  unfold g_Mstation g_station
  by_cases c1 : n_lt x R
  · by_cases c2 : n_bt y 1 9999
    · by_cases c3 : nI C < 10
      · have hC9 : C < 10 := (nI_ltI (a := C) (b := 10) (by omega) (by omega)).mp c3
        have c4 : ¬ nI (2 * C) = 20 := fun e => by
          have := congrArg cn e
          rw [cn_nI (by omega)] at this
          have e5 : cn (20 : Int32) = 20 := rfl
          omega
        rw [if_pos c1, if_pos c2, if_neg c4, if_pos c1, if_pos c2, if_pos c3]
        obtain ⟨⟨a1, a2, a3⟩, a4, a5, a6, a7, a8⟩ := h
        unfold g_add g_addI
        have cf : ∀ q, q ≠ 1006 → q ≠ 1150 → q ≠ 1151 → u2 (u2 (u2 σ 1151 C (nI (cn x))) 1150 C y) 1006 1 (nI (C + 1)) q = σ q := fun q h0 h1 h2 => by rw [u2_ne h0, u2_ne h1, u2_ne h2]
        have mf : ∀ q, q ≠ 5000 → q ≠ 5004 → u2 (u2 (u2 (u2 (u2 τ 5000 0 0) 5004 (2 * C) (nI (cn x))) 5004 900 (nI (2 * C + 1))) 5004 (2 * C + 1) y) 5004 900 (nI (2 * C + 1 + 1)) q = τ q := fun q h0 h1 => by rw [u2_ne h1, u2_ne h1, u2_ne h1, u2_ne h1, u2_ne h0]
        have m0 : ∀ i, i ≠ 0 → u2 (u2 (u2 (u2 (u2 τ 5000 0 0) 5004 (2 * C) (nI (cn x))) 5004 900 (nI (2 * C + 1))) 5004 (2 * C + 1) y) 5004 900 (nI (2 * C + 1 + 1)) 5000 i = τ 5000 i := fun i hi => by rw [u2_ne (by decide), u2_ne (by decide), u2_ne (by decide), u2_ne (by decide), u2_oi hi]
        refine ⟨⟨?_, ?_, ?_⟩, fun r hr => ?_, fun j hj => ?_, ?_, fun k hk => ?_, fun r h1 h2 => ?_⟩
        · rw [cf _ (by decide) (by decide) (by decide), m0 _ (by decide)]
          exact a1
        · rw [cf _ (by decide) (by decide) (by decide), m0 _ (by decide)]
          exact a2
        · rw [cf _ (by decide) (by decide) (by decide), m0 _ (by decide)]
          exact a3
        · rw [cf _ (by decide) (by decide) (by decide), cf _ (by decide) (by decide) (by decide), cf _ (by decide) (by decide) (by decide), cf _ (by decide) (by decide) (by decide), mf _ (by omega) (by omega)]
          exact a4 r hr
        · rw [cf _ (by decide) (by decide) (by decide), cf _ (by decide) (by decide) (by decide), cf _ (by decide) (by decide) (by decide), cf _ (by decide) (by decide) (by decide), mf _ (by omega) (by omega)]
          exact a5 j hj
        · rw [u2_at]
          show nI (C + 1) = nI (cn _ / 2)
          rw [u2_at, cn_nI (by omega), show (2 * C + 1 + 1) / 2 = C + 1 by omega]
        · rw [u2_ne (show (1150 : Nat) ≠ 1006 by decide), u2_ne (show (1151 : Nat) ≠ 1006 by decide), u2_ne (show (1151 : Nat) ≠ 1150 by decide)]
          by_cases e : k = C
          · rw [e, u2_at, u2_at, u2_oi (show 2 * C + 1 ≠ 900 by omega), u2_at, u2_oi (show 2 * C ≠ 900 by omega), u2_oi (show 2 * C ≠ 2 * C + 1 by omega), u2_oi (show 2 * C ≠ 900 by omega), u2_at]
            exact ⟨rfl, rfl⟩
          · rw [u2_oi e, u2_oi e, u2_ne (show (1150 : Nat) ≠ 1151 by decide), u2_oi (show 2 * k + 1 ≠ 900 by omega), u2_oi (show 2 * k + 1 ≠ 2 * C + 1 by omega), u2_oi (show 2 * k + 1 ≠ 900 by omega), u2_oi (show 2 * k + 1 ≠ 2 * C by omega), u2_oi (show 2 * k ≠ 900 by omega), u2_oi (show 2 * k ≠ 2 * C + 1 by omega), u2_oi (show 2 * k ≠ 900 by omega), u2_oi (show 2 * k ≠ 2 * C by omega), u2_ne (show (5004 : Nat) ≠ 5000 by decide)]
            exact a7 k hk
        · rw [mf _ (by omega) (by omega)] at h1
          rw [mf _ (by omega) (by omega)]
          exact a8 r h1 h2
      · have c4 : nI (2 * C) = 20 := by
          have : ¬ C < 10 := fun q => c3 ((nI_ltI (a := C) (b := 10) (by omega) (by omega)).mpr q)
          rw [show C = 10 by omega]
          rfl
        rw [if_pos c1, if_pos c2, if_pos c4, if_pos c1, if_pos c2, if_neg c3]
        exact h.s00
    · rw [if_pos c1, if_neg c2, if_pos c1, if_neg c2]
      exact h.s00
  · rw [if_neg c1, if_neg c1]
    exact h.s00
theorem RA.ask {x y : Int32} {C : Nat} (h : RA τ σ) (hC : C ≤ 10) : RA (g_Mask τ x y C) (g_ask σ x y C) := by
  unfold g_Mask g_ask
  by_cases c1 : n_lt x C
  · have c0 := (sub1_lt (x := x) (R := C) (by omega)).mpr c1
    by_cases c2 : n_bt y 1 9999
    · rw [if_pos c0, if_pos c2, if_pos c1, if_pos c2]
      obtain ⟨⟨a1, a2, a3⟩, a4, a5, a6, a7, a8⟩ := h
      have hx := c1.2
      unfold g_setS
      generalize (if u2 τ 5000 0 0 5004 (100 + (2 * cn x + 1)) = 0 then (1 : Int32) else 0) = F
      have cf : ∀ q, q ≠ 1150 → u2 σ 1150 (cn x) y q = σ q := fun q h1 => u2_ne h1
      have mf : ∀ q, q ≠ 5000 → q ≠ 5004 → u2 (u2 (u2 τ 5000 0 0) 5004 (2 * cn x + 1) y) 5004 (100 + (2 * cn x + 1)) F q = τ q := fun q h0 h1 => by rw [u2_ne h1, u2_ne h1, u2_ne h0]
      have m0 : ∀ i, i ≠ 0 → u2 (u2 (u2 τ 5000 0 0) 5004 (2 * cn x + 1) y) 5004 (100 + (2 * cn x + 1)) F 5000 i = τ 5000 i := fun i hi => by rw [u2_ne (by decide), u2_ne (by decide), u2_oi hi]
      refine ⟨⟨?_, ?_, ?_⟩, fun r hr => ?_, fun j hj => ?_, ?_, fun k hk => ?_, fun r h1 h2 => ?_⟩
      · rw [cf _ (by decide), m0 _ (by decide)]
        exact a1
      · rw [cf _ (by decide), m0 _ (by decide)]
        exact a2
      · rw [cf _ (by decide), m0 _ (by decide)]
        exact a3
      · rw [cf _ (by decide), cf _ (by decide), cf _ (by decide), cf _ (by decide), mf _ (by omega) (by omega)]
        exact a4 r hr
      · rw [cf _ (by decide), cf _ (by decide), cf _ (by decide), cf _ (by decide), mf _ (by omega) (by omega)]
        exact a5 j hj
      · rw [cf _ (by decide), a6]
        show nI (cn (τ 5004 900) / 2) = nI (cn _ / 2)
        rw [u2_oi (show (900 : Nat) ≠ 100 + (2 * cn x + 1) by omega), u2_oi (show (900 : Nat) ≠ 2 * cn x + 1 by omega), u2_ne (by decide)]
      · rw [cf 1151 (by decide), u2_oi (show 2 * k + 1 ≠ 100 + (2 * cn x + 1) by omega), u2_oi (show 2 * k ≠ 100 + (2 * cn x + 1) by omega), u2_oi (show 2 * k ≠ 2 * cn x + 1 by omega), u2_ne (show (5004 : Nat) ≠ 5000 by decide)]
        refine ⟨?_, (a7 k hk).2⟩
        by_cases e : k = cn x
        · rw [e, u2_at, u2_at]
        · rw [u2_oi e, u2_oi (show 2 * k + 1 ≠ 2 * cn x + 1 by omega), u2_ne (show (5004 : Nat) ≠ 5000 by decide)]
          exact (a7 k hk).1
      · rw [mf _ (by omega) (by omega)] at h1
        rw [mf _ (by omega) (by omega)]
        exact a8 r h1 h2
    · rw [if_pos c0, if_neg c2, if_pos c1, if_neg c2]
      exact h.s00
  · rw [if_neg (fun q => c1 ((sub1_lt (x := x) (R := C) (by omega)).mp q)), if_neg c1]
    exact h.s00
end
end
section
/-! ===== the answers, from the relation ===== -/
section
variable {τ σ : XS9} {x y v u : Int32} {R B C : Nat}
theorem bad {τ : XS9} {es : List String} {E : String} {k m : Int32} (e : lw_ix es E = k) : u2 (u2 τ 5000 0 0) 5000 0 k 5000 0 = lw_k es (.inr E : Int32 ⊕ String) ∧ ∀ w, (.inr E : Int32 ⊕ String) = .inl w → w = m := ⟨u2_at.trans e.symm, fun w z => by cases z⟩
theorem xit_cg {S : Type} {step step' : Nat → S → S} {N : Nat} (h : ∀ i s, i < N → step i s = step' i s) : ∀ (f i : Nat) (s : S), i + f = N → xit step f i s = xit step' f i s
  | 0, _, _, _ => rfl
  | f + 1, i, s, e => by
    show xit step f (i + 1) (step i s) = xit step' f (i + 1) (step' i s)
    rw [h i s (by omega), xit_cg h f (i + 1) _ (by omega)]
theorem says_rules (h : RA τ σ) (q2 : σ 1000 7 = 0 ↔ τ 5000 1 = 0) : g_Mrules τ x y 5000 0 = lw_k [eIAE, eISE] (o_rules σ x y) ∧ ∀ w, o_rules σ x y = .inl w → w = f_Mrules τ x y := by
  unfold g_Mrules o_rules f_Mrules
  by_cases c1 : n_bt x 1 5
  · by_cases c4 : σ 1000 7 = 0
    · simp only [if_pos c1, if_pos c4, if_pos (q2.mp c4)]
      refine ⟨?_, fun w e => ?_⟩
      · rw [u2_oi (by decide), u2_oi (by decide), u2_at]
        rfl
      · rw [← Sum.inl.inj e]
        exact h.1.2.1
    · simp only [if_pos c1, if_neg c4, if_neg (fun e => c4 (q2.mpr e))]
      exact bad rfl
  · simp only [if_neg c1]
    exact bad rfl
theorem says_bidder (q2 : σ 1000 7 = 0 ↔ τ 5000 1 = 0) (hB6 : B ≤ 6) : g_Mbidder τ x y v u B 5000 0 = lw_k [eIAE, eISE] (o_bidder σ x y v u B) ∧ ∀ w, o_bidder σ x y v u B = .inl w → w = f_Mbidder τ x y v u B := by
  unfold g_Mbidder o_bidder f_Mbidder
  by_cases c1 : n_bt x 0 99999
  · by_cases c2 : n_bt y 1 200
    · by_cases c3 : n_bt v 0 30
      · by_cases c6 : n_bt u 0 3
        · by_cases c4 : σ 1000 7 = 0
          · by_cases c5 : nI B < 6
            · simp only [if_pos c1, if_pos c2, if_pos c3, if_pos c6, if_pos c4, if_pos (q2.mp c4), if_pos c5, if_neg ((nI6 hB6).mp c5)]
              refine ⟨?_, fun w e => (Sum.inl.inj e).symm⟩
              rw [u2_ne (by decide), u2_ne (by omega), uR_ne (by omega), u2_at]
              rfl
            · simp only [if_pos c1, if_pos c2, if_pos c3, if_pos c6, if_pos c4, if_pos (q2.mp c4), if_neg c5, if_pos (Classical.not_not.mp (fun e => c5 ((nI6 hB6).mpr e)))]
              exact bad rfl
          · simp only [if_pos c1, if_pos c2, if_pos c3, if_pos c6, if_neg c4, if_neg (fun e => c4 (q2.mpr e))]
            exact bad rfl
        · simp only [if_pos c1, if_pos c2, if_pos c3, if_neg c6]
          exact bad rfl
      · simp only [if_pos c1, if_pos c2, if_neg c3]
        exact bad rfl
    · simp only [if_pos c1, if_neg c2]
      exact bad rfl
  · simp only [if_neg c1]
    exact bad rfl
theorem says_border (h : RA τ σ) (q2 : σ 1000 7 = 0 ↔ τ 5000 1 = 0) (hR5 : mR τ ≤ 5) : g_Mborder τ x y (mR τ) 5000 0 = lw_k [eIOB, eIAE, eISE] (o_border σ x y (mR τ)) ∧ ∀ w, o_border σ x y (mR τ) = .inl w → w = f_Mborder τ x y (mR τ) := by
  have P := (h.border (x := x) (y := y) q2 hR5 rfl).2.1
  unfold g_Mborder g_border at P
  unfold g_Mborder o_border f_Mborder
  by_cases c1 : n_lt x (mR τ)
  · by_cases c2 : n_lt y (mR τ)
    · by_cases c3 : nI (cn x) = nI (cn y)
      · simp only [if_pos c1, if_pos c2, if_pos c3]
        exact bad rfl
      · by_cases c4 : σ 1000 7 = 0
        · simp only [if_pos c1, if_pos c2, if_neg c3, if_pos c4, if_pos (q2.mp c4)] at P ⊢
          refine ⟨?_, fun w e => ?_⟩
          · have hx := c1.2
            have hy := c2.2
            rw [u2_ne (by omega), u2_ne (by omega), u2_at]
            rfl
          · rw [← Sum.inl.inj e]
            unfold f_addBorder x_addBorder_29
            congr 1
            refine xit_cg (N := mR τ) (fun i s hi => ?_) (mR τ) 0 0 (Nat.zero_add _)
            have p := (P i (by omega)).2.2.2
            unfold g_addBorder at p
            (try dsimp only)
            rw [p]
        · simp only [if_pos c1, if_pos c2, if_neg c3, if_neg c4, if_neg (fun e => c4 (q2.mpr e))]
          exact bad rfl
    · simp only [if_pos c1, if_neg c2]
      exact bad rfl
  · simp only [if_neg c1]
    exact bad rfl
theorem says_station (hC : C ≤ 10) : g_Mstation τ x y R C 5000 0 = lw_k [eIOB, eIAE, eISE] (o_station σ x y R C) ∧ ∀ w, o_station σ x y R C = .inl w → w = f_Mstation τ x y R C := by
  unfold g_Mstation o_station f_Mstation
  by_cases c1 : n_lt x R
  · by_cases c2 : n_bt y 1 9999
    · by_cases c3 : nI C < 10
      · have hC9 : C < 10 := (nI_ltI (a := C) (b := 10) (by omega) (by omega)).mp c3
        have c4 : ¬ nI (2 * C) = 20 := fun e => by
          have := congrArg cn e
          rw [cn_nI (by omega)] at this
          have e5 : cn (20 : Int32) = 20 := rfl
          omega
        simp only [if_pos c1, if_pos c2, if_neg c4, if_pos c3]
        refine ⟨?_, fun w e => (Sum.inl.inj e).symm⟩
        unfold g_addI
        rw [u2_ne (by decide), u2_ne (by decide), u2_ne (by decide), u2_ne (by decide), u2_at]
        rfl
      · have c4 : nI (2 * C) = 20 := by
          have : ¬ C < 10 := fun q => c3 ((nI_ltI (a := C) (b := 10) (by omega) (by omega)).mpr q)
          rw [show C = 10 by omega]
          rfl
        simp only [if_pos c1, if_pos c2, if_pos c4, if_neg c3]
        exact bad rfl
    · simp only [if_pos c1, if_neg c2]
      exact bad rfl
  · simp only [if_neg c1]
    exact bad rfl
theorem says_ask (h : RA τ σ) (hC : C ≤ 10) : g_Mask τ x y C 5000 0 = lw_k [eIOB, eIAE] (o_ask σ x y C) ∧ ∀ w, o_ask σ x y C = .inl w → w = f_Mask τ x y C := by
  unfold g_Mask o_ask f_Mask
  by_cases c1 : n_lt x C
  · have c0 := (sub1_lt (x := x) (R := C) (by omega)).mpr c1
    by_cases c2 : n_bt y 1 9999
    · simp only [if_pos c0, if_pos c1, if_pos c2]
      refine ⟨?_, fun w e => ?_⟩
      · unfold g_setS
        rw [u2_ne (by decide), u2_ne (by decide), u2_at]
        rfl
      · rw [← Sum.inl.inj e, u2_ne (by decide)]
        exact (h.2.2.2.2.1 _ (by have := c1.2; omega)).1
    · simp only [if_pos c0, if_pos c1, if_neg c2]
      exact bad rfl
  · simp only [if_neg c1, if_neg (fun q => c1 ((sub1_lt (x := x) (R := C) (by omega)).mp q))]
    exact bad rfl
end
end
section
/-! ===== a row that is filled ===== -/
theorem fill_at {a : Nat} {x : Int32} {j : Nat} : ∀ (f i : Nat) (s : XS9), (j < i → s a j = x) → j < i + f → xit (fun i5 (s5 : XS9) => u2 s5 a i5 x) f i s a j = x
  | 0, i, s, h1, h2 => h1 (by omega)
  | f + 1, i, s, h1, h2 => fill_at f (i + 1) (u2 s a i x) (fun h3 => by
      by_cases e : j = i
      · subst e
        exact u2_at
      · show u2 s a i x a j = x
        rw [u2_oi e]
        exact h1 (by omega)) (by omega)
/-! loops with an invariant by number -/
theorem xit_ind {S : Type} {step : Nat → S → S} (P : Nat → S → Prop) {N : Nat} (h : ∀ i s, i < N → P i s → P (i + 1) (step i s)) : ∀ (f i : Nat) (s : S), i + f = N → P i s → P N (xit step f i s)
  | 0, i, s, e, hP => by
    obtain rfl : i = N := by omega
    exact hP
  | f + 1, i, s, e, hP => xit_ind P h f (i + 1) (step i s) (by omega) (h i s (by omega) hP)
theorem xit_two {S T : Type} {f : Nat → S → S} {g : Nat → T → T} (P : Nat → S → T → Prop) {N : Nat} (h : ∀ i s t, i < N → P i s t → P (i + 1) (f i s) (g i t)) : ∀ (n i : Nat) (s : S) (t : T), i + n = N → P i s t → P N (xit f n i s) (xit g n i t)
  | 0, i, s, t, e, hP => by
    obtain rfl : i = N := by omega
    exact hP
  | n + 1, i, s, t, e, hP => xit_two P h n (i + 1) (f i s) (g i t) (by omega) (h i s t (by omega) hP)
end
section
/-! ===== Int32 by its bits: bt x i ===== -/
def bt (x : Int32) (i : Nat) : Bool := x.toBitVec.getLsbD i
theorem b_ext {x y : Int32} (h : ∀ i, i < 32 → bt x i = bt y i) : x = y := Int32.toBitVec_inj.mp (BitVec.eq_of_getLsbD_eq (fun i hi => h i hi))
theorem b_or (x y : Int32) (i : Nat) : bt (x ||| y) i = (bt x i || bt y i) := by unfold bt; rw [Int32.toBitVec_or, BitVec.getLsbD_or]
theorem b_and (x y : Int32) (i : Nat) : bt (x &&& y) i = (bt x i && bt y i) := by unfold bt; rw [Int32.toBitVec_and, BitVec.getLsbD_and]
theorem b_xor (x y : Int32) (i : Nat) : bt (x ^^^ y) i = (bt x i ^^ bt y i) := by unfold bt; rw [Int32.toBitVec_xor, BitVec.getLsbD_xor]
theorem b_big {x : Int32} {i : Nat} (h : 32 ≤ i) : bt x i = false := BitVec.getLsbD_of_ge _ _ h
theorem b_255 (i : Nat) : bt 255 i = decide (i < 8) := by
  rcases Nat.lt_or_ge i 32 with h | h
  · exact (by decide +kernel : ∀ i, i < 32 → bt 255 i = decide (i < 8)) i h
  · rw [b_big h, decide_eq_false (by omega)]
theorem b_65535 (i : Nat) : bt 65535 i = decide (i < 16) := by
  rcases Nat.lt_or_ge i 32 with h | h
  · exact (by decide +kernel : ∀ i, i < 32 → bt 65535 i = decide (i < 16)) i h
  · rw [b_big h, decide_eq_false (by omega)]
theorem b_m1 : ∀ i, i < 32 → bt (-1) i = true := by decide +kernel
theorem b_0 (i : Nat) : bt 0 i = false := BitVec.getLsbD_zero
theorem s_l : ∀ n, n < 32 → ((nI n &&& 31).toBitVec.smod 32).toNat = n := by decide +kernel
theorem s_u : ∀ n, n < 32 → (((nI n).toUInt32 &&& Int32.toUInt32 31).toBitVec % 32).toNat = n := by decide +kernel
theorem b_shl (n : Nat) (hn : n < 32) (x : Int32) {i : Nat} (hi : i < 32) : bt (x <<< (nI n &&& 31)) i = (decide (n ≤ i) && bt x (i - n)) := by
  unfold bt
  rw [Int32.toBitVec_shiftLeft]
  show (x.toBitVec <<< ((nI n &&& 31).toBitVec.smod 32).toNat).getLsbD i = _
  rw [s_l n hn, BitVec.getLsbD_shiftLeft]
  rcases Nat.lt_or_ge i n with h | h
  · simp [h, Nat.not_le.mpr h]
  · simp [hi, h, Nat.not_lt.mpr h]
theorem b_ushr (n : Nat) (hn : n < 32) (x : Int32) (i : Nat) : bt ((x.toUInt32 >>> ((nI n).toUInt32 &&& Int32.toUInt32 31)).toInt32) i = bt x (n + i) := by
  show (x.toUInt32 >>> ((nI n).toUInt32 &&& Int32.toUInt32 31)).toBitVec.getLsbD i = x.toUInt32.toBitVec.getLsbD (n + i)
  rw [UInt32.toBitVec_shiftRight]
  show (x.toUInt32.toBitVec >>> (((nI n).toUInt32 &&& Int32.toUInt32 31).toBitVec % 32).toNat).getLsbD i = _
  rw [s_u n hn, BitVec.getLsbD_ushiftRight]
theorem b_sshr (n : Nat) (hn : n < 32) (x : Int32) {i : Nat} (hi : i < 32) : bt (x >>> (nI n &&& 31)) i = if n + i < 32 then bt x (n + i) else bt x 31 := by
  unfold bt
  rw [Int32.toBitVec_shiftRight]
  show (x.toBitVec.sshiftRight ((nI n &&& 31).toBitVec.smod 32).toNat).getLsbD i = _
  rw [s_l n hn, BitVec.getLsbD_sshiftRight, BitVec.msb_eq_getLsbD_last]
  simp [hi]
end
section
/-! ===== bits ===== -/
section
variable {σ τ s t : XS9} {x y laid : Int32} {i j m C ch u qa : Nat} {rg : Nat → Nat}
theorem b_one : ∀ i, i < 32 → bt 1 i = decide (i = 0) := by decide +kernel
theorem b_bit (hj : j < 32) (hi : i < 32) : bt ((1 : Int32) <<< ((nI j) &&& 31)) i = decide (i = j) := by
  rw [b_shl j hj 1 hi]
  by_cases e : i = j
  · subst e
    rw [Nat.sub_self, b_one 0 (by decide)]
    simp
  · by_cases l : j ≤ i
    · rw [b_one (i - j) (by omega)]
      simp only [decide_eq_true l, Bool.true_and]
      rw [decide_eq_false (by omega), decide_eq_false e]
    · rw [decide_eq_false l, decide_eq_false e, Bool.false_and]
theorem b_tst1 (hj : j < 32) : (((x >>> ((nI j) &&& 31)) &&& 1) = 1 ↔ bt x j = true) ∧ (((x >>> ((nI j) &&& 31)) &&& 1) = 0 ↔ bt x j = false) := by
  have e : ∀ i, i < 32 → bt ((x >>> ((nI j) &&& 31)) &&& 1) i = (decide (i = 0) && bt x j) := fun i hi => by
    rw [b_and, b_one i hi, b_sshr j hj x hi]
    by_cases z : i = 0
    · subst z
      rw [if_pos (by omega), Nat.add_zero, Bool.and_comm]
    · rw [decide_eq_false z, Bool.and_false, Bool.false_and]
  cases h : bt x j with
  | true =>
    have v : (x >>> ((nI j) &&& 31)) &&& 1 = 1 := b_ext fun i hi => by rw [e i hi, h, b_one i hi, Bool.and_true]
    rw [v]
    exact ⟨⟨fun _ => rfl, fun _ => rfl⟩, ⟨fun q => absurd q (by decide), fun q => absurd q (by decide)⟩⟩
  | false =>
    have v : (x >>> ((nI j) &&& 31)) &&& 1 = 0 := b_ext fun i hi => by rw [e i hi, h, b_0, Bool.and_false]
    rw [v]
    exact ⟨⟨fun q => absurd q (by decide), fun q => absurd q (by decide)⟩, ⟨fun _ => rfl, fun _ => rfl⟩⟩
theorem b_tst2 (hj : j < 32) : (x &&& ((1 : Int32) <<< ((nI j) &&& 31))) = 0 ↔ bt x j = false := by
  refine ⟨fun h => ?_, fun h => b_ext fun i hi => ?_⟩
  · have := congrArg (fun v => bt v j) h
    rw [b_0] at this
    rw [b_and, b_bit hj hj, decide_eq_true rfl, Bool.and_true] at this
    exact this
  · rw [b_and, b_bit hj hi, b_0]
    by_cases e : i = j
    · rw [e, h, Bool.false_and]
    · rw [decide_eq_false e, Bool.and_false]
theorem b_dis : (x &&& y) = 0 ↔ ∀ i, i < 32 → bt x i = true → bt y i = false := by
  refine ⟨fun h i hi hx => ?_, fun h => b_ext fun i hi => ?_⟩
  · have := congrArg (fun v => bt v i) h
    rw [b_0] at this
    rw [b_and, hx, Bool.true_and] at this
    exact this
  · rw [b_and, b_0]
    cases e : bt x i with
    | true => rw [h i hi e, Bool.and_false]
    | false => rw [Bool.false_and]
theorem b_lo (hm : m < 2 ^ i) (hk : i ≤ j) : bt (nI m) j = false := by
  show (BitVec.ofNat 32 m).getLsbD j = false
  rw [BitVec.getLsbD_ofNat, Nat.testBit_lt_two_pow (Nat.lt_of_lt_of_le hm (Nat.pow_le_pow_right (by decide) hk)), Bool.and_false]
theorem bsubm {t m : Nat} (ht : t < 10) (hm : m < 2 ^ t) : nI (m + 2 ^ t) - ((1 : Int32) <<< (nI t &&& 31)) = nI m := by
  have e : ∀ t, t < 10 → ((1 : Int32) <<< (nI t &&& 31)) = nI (2 ^ t) := by decide +kernel
  rw [e t ht, nI_minus (Nat.le_add_left _ _), Nat.add_sub_cancel]
end
end
section
/-! ===== digits of codes, alike on both sides ===== -/
def dgt (c : Int32) (r : Nat) : Nat := cn c / 6 ^ r % 6
theorem dgt_le {c : Int32} {r : Nat} : dgt c r ≤ 5 := by
  have := Nat.mod_lt (cn c / 6 ^ r) (show 0 < 6 by decide)
  unfold dgt
  omega
theorem dgt_bd {c : Int32} {r : Nat} : bd 5 (nI (dgt c r)) := bd.nat dgt_le (by decide)
section
variable {c m : Int32} {r j : Nat}
theorem of_d (h : bd 7775 c) (hr : r < 5) : f_of c r = nI (dgt c r) := by
  have := of_eq h.2 hr
  rw [← h.1] at this
  exact this
theorem many_d (h : bd 7775 c) (hr : r < 5) : f_many c r = nI (dgt c r) := by
  have := many_eq h.2 hr
  rw [← h.1] at this
  exact this
theorem many_of (h : bd 7775 c) (hr : r < 5) : f_many c r = f_of c r := by rw [many_d h hr, of_d h hr]
theorem rep_with (h : bd 7775 c) (hr : r < 5) : f_replaced c r m = f_with c r m := by
  unfold f_replaced f_with
  rw [many_of h hr]
  rfl
theorem with_val (h : bd 7775 c) (hr : r < 5) (hm : bd 5 m) : f_with c r m = nI (cn c - dgt c r * 6 ^ r + cn m * 6 ^ r) := by
  have q : cn c / 6 ^ r % 6 * 6 ^ r ≤ cn c := Nat.le_trans (Nat.mul_le_mul_right _ (Nat.mod_le _ _)) (Nat.div_mul_le_self _ _)
  have e := rep_eq (k := cn m) q
  rw [← h.1, ← hm.1] at e
  unfold f_with
  rw [of_d h hr, power_eq hr]
  exact e
theorem with_n {n k r j : Nat} (hn : n ≤ 7775) (hk : k ≤ 5) (hr : r < 5) (hj : j < 5) : (n - n / 6 ^ r % 6 * 6 ^ r + k * 6 ^ r) / 6 ^ j % 6 = if j = r then k else n / 6 ^ j % 6 := by
  have a : r = 0 ∨ r = 1 ∨ r = 2 ∨ r = 3 ∨ r = 4 := by omega
  have b : j = 0 ∨ j = 1 ∨ j = 2 ∨ j = 3 ∨ j = 4 := by omega
  rcases a with rfl | rfl | rfl | rfl | rfl <;> rcases b with rfl | rfl | rfl | rfl | rfl <;> split <;> simp only [Nat.reducePow] <;> omega
theorem with_nat (h : bd 7775 c) (hr : r < 5) (hm : bd 5 m) : cn (f_with c r m) = cn c - dgt c r * 6 ^ r + cn m * 6 ^ r := by
  have p := pow6r hr
  have q : cn m * 6 ^ r ≤ 5 * 1296 := Nat.mul_le_mul hm.2 p.2
  have c2 := h.2
  rw [with_val h hr hm, cn_nI (by omega)]
theorem with_d (h : bd 7775 c) (hr : r < 5) (hm : bd 5 m) (hj : j < 5) : dgt (f_with c r m) j = if j = r then cn m else dgt c j := by
  unfold dgt
  rw [with_nat h hr hm]
  exact with_n h.2 hm.2 hr hj
theorem with_at (h : bd 7775 c) (hr : r < 5) (hm : bd 5 m) : dgt (f_with c r m) r = cn m := (with_d h hr hm hr).trans (if_pos rfl)
theorem with_ne (h : bd 7775 c) (hr : r < 5) (hm : bd 5 m) (hj : j < 5) (e : j ≠ r) : dgt (f_with c r m) j = dgt c j := (with_d h hr hm hj).trans (if_neg e)
theorem with_self : f_with c r (f_of c r) = c := by
  unfold f_with
  rw [Int32.sub_self, Int32.zero_mul, Int32.add_zero]
theorem with_dgt (h : bd 7775 c) (hr : r < 5) : f_with c r (nI (dgt c r)) = c := by
  rw [← of_d h hr]
  exact with_self
theorem with_with {m2 : Int32} (h : bd 7775 c) (hr : r < 5) (hm : bd 5 m) (hm2 : bd 5 m2) : f_with (f_with c r m) r m2 = f_with c r m2 := by
  rw [with_val (h.withd hr hm) hr hm2, with_val h hr hm2, with_at h hr hm, with_nat h hr hm, Nat.add_sub_cancel]
theorem pred_neg {d : Nat} (h : 1 ≤ d) (h5 : d ≤ 5) : nI (d - 1) - nI d = -1 := by
  have : ∀ d : Fin 6, 1 ≤ d.1 → nI (d.1 - 1) - nI d.1 = -1 := by decide +kernel
  exact this ⟨d, by omega⟩ h
theorem sub_power (h : bd 7775 c) (hr : r < 5) (h1 : 1 ≤ dgt c r) : c - f_power r = f_with c r (nI (dgt c r - 1)) := by
  unfold f_with
  rw [of_d h hr, pred_neg h1 dgt_le, Int32.neg_mul, Int32.one_mul, Int32.sub_eq_add_neg]
end
/-! sums -/
theorem xit_app {S : Type} {step : Nat → S → S} : ∀ (a b i : Nat) (s : S), xit step (a + b) i s = xit step b (i + a) (xit step a i s)
  | 0, b, i, s => by
    rw [Nat.zero_add]
    rfl
  | a + 1, b, i, s => by
    rw [show a + 1 + b = (a + b) + 1 by omega]
    show xit step (a + b) (i + 1) (step i s) = xit step b (i + (a + 1)) (xit step a (i + 1) (step i s))
    rw [xit_app a b (i + 1) (step i s), show i + 1 + a = i + (a + 1) by omega]
theorem xit_last {S : Type} {step : Nat → S → S} {a : Nat} {s : S} : xit step (a + 1) 0 s = step a (xit step a 0 s) := by
  rw [xit_app a 1 0 s, Nat.zero_add]
  rfl
/-- a sum -/
def xsum (t : Nat → Int32) (N : Nat) : Int32 := xit (fun i s => s + t i) N 0 0
def nsum (d : Nat → Nat) : Nat → Nat
  | 0 => 0
  | n + 1 => nsum d n + d n
section
variable {t t2 : Nat → Int32} {d d2 : Nat → Nat} {N M : Nat}
theorem xsum_s : xsum t (N + 1) = xsum t N + t N := xit_last
theorem xsum_cg (h : ∀ i, i < N → t i = t2 i) : xsum t N = xsum t2 N := xit_cg (fun i s hi => by
  show s + t i = s + t2 i
  rw [h i hi]) N 0 0 (Nat.zero_add _)
theorem xsum_cut (h : ∀ j, N ≤ j → j < M → t j = 0) (hN : N ≤ M) : xsum t M = xsum t N := by
  obtain ⟨k, rfl⟩ : ∃ k, M = N + k := ⟨M - N, by omega⟩
  induction k with
  | zero => rfl
  | succ k ih =>
    rw [← Nat.add_assoc, xsum_s, h (N + k) (by omega) (by omega), Int32.add_zero]
    exact ih (fun j a b => h j a (by omega)) (by omega)
theorem xsum_n (h : ∀ i, i < N → t i = nI (d i)) : xsum t N = nI (nsum d N) := by
  induction N with
  | zero => rfl
  | succ n ih =>
    rw [xsum_s, ih (fun i hi => h i (by omega)), h n (by omega), nI_plus]
    rfl
theorem nsum_cg (h : ∀ i, i < N → d i = d2 i) : nsum d N = nsum d2 N := by
  induction N with
  | zero => rfl
  | succ n ih =>
    show nsum d n + d n = nsum d2 n + d2 n
    rw [ih (fun i hi => h i (by omega)), h n (by omega)]
theorem nsum_le {k : Nat} (h : ∀ i, i < N → d i ≤ k) : nsum d N ≤ k * N := by
  induction N with
  | zero => exact Nat.zero_le _
  | succ n ih =>
    have a := ih (fun i hi => h i (by omega))
    have b := h n (by omega)
    show nsum d n + d n ≤ k * (n + 1)
    rw [Nat.mul_succ]
    omega
theorem nsum_set {i : Nat} (hi : i < N) (h : ∀ j, j < N → j ≠ i → d2 j = d j) : nsum d2 N + d i = nsum d N + d2 i := by
  induction N with
  | zero => omega
  | succ n ih =>
    show nsum d2 n + d2 n + d i = nsum d n + d n + d2 i
    by_cases e : i = n
    · subst e
      rw [nsum_cg (d := d2) (d2 := d) (fun j hj => h j (by omega) (by omega))]
      omega
    · have := ih (by omega) (fun j a b => h j (by omega) b)
      rw [h n (by omega) (fun q => e q.symm)]
      omega
theorem nsum_ge {i : Nat} (hi : i < N) : d i ≤ nsum d N := by
  induction N with
  | zero => omega
  | succ n ih =>
    show d i ≤ nsum d n + d n
    by_cases e : i = n
    · subst e
      omega
    · have := ih (by omega)
      omega
end
section
variable {c : Int32} {R B r : Nat}
theorem many0 (hr : r < 5) : f_many 0 r = 0 := by
  rw [many_d bd.zero hr]
  exact congrArg nI (show 0 / 6 ^ r % 6 = 0 by simp)
theorem total_x {f : Nat → Int32} : f_total c 5 f = xsum (fun i => f_many c i * f i) 5 := rfl
theorem dearer_x {d : Int32} {f g : Nat → Int32} : f_dearer c d 5 f g = xsum (fun i => (f i - g i) * (f_many c i - f_many d i)) 5 := rfl
theorem points_x {σ : XS9} : f_Mpoints σ c R = xsum (fun i => f_of c i * σ (5010 + i) 1) R := rfl
theorem held_x {σ : XS9} {b g : Nat} : f_KheldIn σ b r B g = xsum (fun i => f_of (σ (b + 2) i) r) B := rfl
theorem together_x {f : Nat → Int32} : f_together 6 f r = xsum (fun i => f_many (f i) r) 6 := rfl
theorem contra_x {σ : XS9} {b i g n i2 : Nat} : x_Kcontradicts_18 σ b i R g n i2 0 = xsum (fun k => (σ (b + 1) k - σ (b + 100 + i2) k) * (f_of (σ (b + 500 + g) i) k - f_of (σ (b + 200 + i2) i) k)) R := rfl
/-- the points of a code -/
theorem points_eq {σ : XS9} {w : Nat → Int32} (h : bd 7775 c) (hR5 : R ≤ 5) (hw : ∀ j, j < 5 → w j = σ (5010 + j) 1) (hz : ∀ j, R ≤ j → j < 5 → σ (5010 + j) 1 = 0) : f_total c 5 w = f_Mpoints σ c R := by
  rw [total_x, points_x, xsum_cut (N := R) (M := 5) (fun j a b => by
    (try dsimp only)
    rw [hw j b, hz j a b, Int32.mul_zero]) hR5]
  exact xsum_cg fun i hi => by
    (try dsimp only)
    rw [many_of h (by omega), hw i (by omega)]
theorem dearer_eq {σ : XS9} {b i g n i2 : Nat} {d : Int32} {f f2 : Nat → Int32} (hc : bd 7775 c) (hd : bd 7775 d) (hR5 : R ≤ 5) (e1 : σ (b + 500 + g) i = c) (e2 : σ (b + 200 + i2) i = d) (h1 : ∀ j, j < R → f j = σ (b + 1) j) (h2 : ∀ j, j < R → f2 j = σ (b + 100 + i2) j) (hz : ∀ j, R ≤ j → j < 5 → f j = 0 ∧ f2 j = 0) : f_dearer c d 5 f f2 = x_Kcontradicts_18 σ b i R g n i2 0 := by
  rw [dearer_x, contra_x, xsum_cut (N := R) (M := 5) (fun j a b => by
    (try dsimp only)
    rw [(hz j a b).1, (hz j a b).2, Int32.sub_self, Int32.zero_mul]) hR5]
  exact xsum_cg fun k hk => by
    (try dsimp only)
    rw [many_of hc (by omega), many_of hd (by omega), h1 k hk, h2 k hk, e1, e2]
theorem held_n {σ : XS9} {b g : Nat} (hr : r < 5) (h : ∀ i, i < B → bd 7775 (σ (b + 2) i)) : f_KheldIn σ b r B g = nI (nsum (fun i => dgt (σ (b + 2) i) r) B) := by
  rw [held_x]
  exact xsum_n fun i hi => of_d (h i hi) hr
theorem together_n {f : Nat → Int32} (hr : r < 5) (hB6 : B ≤ 6) (h : ∀ i, i < B → bd 7775 (f i)) (hz : ∀ i, B ≤ i → i < 6 → f i = 0) : f_together 6 f r = nI (nsum (fun i => dgt (f i) r) B) := by
  rw [together_x, xsum_cut (N := B) (M := 6) (fun j a b => by
    (try dsimp only)
    rw [hz j a b, many0 hr]) hB6]
  exact xsum_n fun i hi => many_d (h i hi) hr
end
end
section
/-! ===== moving what is held, alike on both sides ===== -/
theorem u2_id {s : XS9} {q i : Nat} {x : Int32} (e : x = s q i) : u2 s q i x = s := by
  funext r j
  by_cases e1 : r = q
  · by_cases e2 : j = i
    · rw [e1, e2, u2_at]
      exact e
    · rw [e1, u2_oi e2]
  · rw [u2_ne e1]
theorem u2_two {s : XS9} {q i : Nat} {x y : Int32} : u2 (u2 s q i x) q i y = u2 s q i y := by
  funext r j
  by_cases e1 : r = q
  · by_cases e2 : j = i
    · rw [e1, e2, u2_at, u2_at]
    · rw [e1, u2_oi e2, u2_oi e2, u2_oi e2]
  · rw [u2_ne e1, u2_ne e1, u2_ne e1]
theorem nle {a b : Nat} (ha : a < 2147483648) (hb : b < 2147483648) : nI a ≤ nI b ↔ a ≤ b := by
  rw [i_le, toI_nI ha, toI_nI hb]
  omega
theorem nlt {a b : Nat} (ha : a < 2147483648) (hb : b < 2147483648) : nI a < nI b ↔ a < b := by
  rw [i_lt, toI_nI ha, toI_nI hb]
  omega
theorem over_le {S q : Nat} (hS : S ≤ 30) (hq : q ≤ 5) : nI S - nI q ≤ 0 ↔ S ≤ q := by
  have : ∀ S : Fin 31, ∀ q : Fin 6, nI S.1 - nI q.1 ≤ 0 ↔ S.1 ≤ q.1 := by decide +kernel
  exact this ⟨S, by omega⟩ ⟨q, by omega⟩
/-- the row of a state -/
abbrev hsum (s : XS9) (a r B : Nat) : Nat := nsum (fun j => dgt (s a j) r) B
section
variable {σ : XS9} {b b' R B g w n r q v i : Nat}
theorem hsum_30 {s : XS9} {a : Nat} (hB6 : B ≤ 6) : hsum s a r B ≤ 30 := by
  have : hsum s a r B ≤ 5 * B := nsum_le fun _ _ => dgt_le
  omega
theorem hsum_u2 {s : XS9} {a : Nat} {x : Int32} (hi : i < B) : hsum (u2 s a i x) a r B + dgt (s a i) r = hsum s a r B + dgt x r := by
  have := nsum_set (d := fun j => dgt (s a j) r) (d2 := fun j => dgt (u2 s a i x a j) r) hi (fun j _ e => by
    show dgt (u2 s a i x a j) r = dgt (s a j) r
    rw [u2_oi e])
  (try dsimp only at this)
  rw [show dgt (u2 s a i x a i) r = dgt x r from by rw [u2_at]] at this
  exact this
theorem inner (hr : r < 5) (hi : i < B) (hB6 : B ≤ 6) (hv : v ≤ 5) (hq : q ≤ 5) : ∀ (f k : Nat) (s : XS9), (∀ j, j < B → bd 7775 (s (b + 2) j)) → min (dgt (s (b + 2) i) r - v) (hsum s (b + 2) r B - q) ≤ f → xitB (fun (_ : Nat) (s : XS9) => if f_of (s (b + 2) i) r ≤ nI v then .inr s else (if f_KheldIn s b r B g ≤ nI q then .inr s else .inl (u2 s (b + 2) i (s (b + 2) i - f_power r)))) f k s = u2 s (b + 2) i (f_with (s (b + 2) i) r (nI (dgt (s (b + 2) i) r - min (dgt (s (b + 2) i) r - v) (hsum s (b + 2) r B - q))))
  | 0, k, s, h, ht => by
    rw [show min (dgt (s (b + 2) i) r - v) (hsum s (b + 2) r B - q) = 0 by omega, Nat.sub_zero, with_dgt (h i hi) hr, u2_id rfl]
    rfl
  | f + 1, k, s, h, ht => by
    have hc := h i hi
    have hd := dgt_le (c := s (b + 2) i) (r := r)
    have hS := hsum_30 (s := s) (a := b + 2) (r := r) hB6
    have stay : min (dgt (s (b + 2) i) r - v) (hsum s (b + 2) r B - q) = 0 → s = u2 s (b + 2) i (f_with (s (b + 2) i) r (nI (dgt (s (b + 2) i) r - min (dgt (s (b + 2) i) r - v) (hsum s (b + 2) r B - q)))) := fun e => by
      rw [e, Nat.sub_zero, with_dgt hc hr, u2_id rfl]
    unfold xitB
    (try dsimp only)
    by_cases c1 : dgt (s (b + 2) i) r ≤ v
    · rw [if_pos (show f_of (s (b + 2) i) r ≤ nI v by rw [of_d hc hr]; exact (nle (by omega) (by omega)).mpr c1)]
      exact stay (by omega)
    · rw [if_neg (show ¬ f_of (s (b + 2) i) r ≤ nI v by rw [of_d hc hr]; exact fun z => c1 ((nle (by omega) (by omega)).mp z))]
      by_cases c2 : hsum s (b + 2) r B ≤ q
      · rw [if_pos (show f_KheldIn s b r B g ≤ nI q by rw [held_n hr h]; exact (nle (a := hsum s (b + 2) r B) (by omega) (by omega)).mpr c2)]
        exact stay (by omega)
      · rw [if_neg (show ¬ f_KheldIn s b r B g ≤ nI q by rw [held_n hr h]; exact fun z => c2 ((nle (a := hsum s (b + 2) r B) (by omega) (by omega)).mp z))]
        have b1 : bd 5 (nI (dgt (s (b + 2) i) r - 1)) := bd.nat (by omega) (by decide)
        have ev := sub_power hc hr (by omega)
        have e3 := hsum_u2 (s := s) (a := b + 2) (r := r) (x := s (b + 2) i - f_power r) hi
        have ed : dgt (s (b + 2) i - f_power r) r = dgt (s (b + 2) i) r - 1 := by rw [ev, with_at hc hr b1, cn_nI (by omega)]
        have h' : ∀ j, j < B → bd 7775 (u2 s (b + 2) i (s (b + 2) i - f_power r) (b + 2) j) := fun j hj => by
          by_cases e : j = i
          · rw [e, u2_at, ev]
            exact hc.withd hr b1
          · rw [u2_oi e]
            exact h j hj
        have IH := inner hr hi hB6 hv hq f (k + 1) (u2 s (b + 2) i (s (b + 2) i - f_power r)) h' (by
          rw [u2_at, ed]
          rw [ed] at e3
          omega)
        refine IH.trans ?_
        rw [ed] at e3
        rw [u2_at, ed, u2_two, ev, with_with hc hr b1 (bd.nat (by omega) (by decide))]
        rw [ev] at e3
        have e4 : dgt (s (b + 2) i) r - 1 - min (dgt (s (b + 2) i) r - 1 - v) (hsum (u2 s (b + 2) i (f_with (s (b + 2) i) r (nI (dgt (s (b + 2) i) r - 1)))) (b + 2) r B - q) = dgt (s (b + 2) i) r - min (dgt (s (b + 2) i) r - v) (hsum s (b + 2) r B - q) := by omega
        rw [e4]
/-- one bidder's return of what is too much -/
theorem c274_eq {s : XS9} (hr : r < 5) (hi : i < B) (hB6 : B ≤ 6) (eq : σ (5010 + r) 0 = nI q) (hq : q ≤ 5) (hW : bd 7775 (x_Kclose_2 σ b R B g w n σ (b + 500 + g) i)) (h : ∀ j, j < B → bd 7775 (s (b + 2) j)) : x_Kclose_274 σ b R B g w n r i s s = u2 s (b + 2) i (f_with (s (b + 2) i) r (nI (dgt (s (b + 2) i) r - min (dgt (s (b + 2) i) r - dgt (x_Kclose_2 σ b R B g w n σ (b + 500 + g) i) r) (hsum s (b + 2) r B - q)))) := by
  unfold x_Kclose_274
  rw [of_d hW hr, eq]
  exact inner hr hi hB6 dgt_le hq 5 0 s h (by have := dgt_le (c := s (b + 2) i) (r := r); omega)
theorem c259_stay {s : XS9} (hr : r < 5) (hB6 : B ≤ 6) (eq : σ (5010 + r) 0 = nI q) (hq : q ≤ 5) (hW : ∀ j, j < B → bd 7775 (x_Kclose_2 σ b R B g w n σ (b + 500 + g) j)) (h : ∀ j, j < B → bd 7775 (s (b + 2) j)) (hS : hsum s (b + 2) r B ≤ q) (f k : Nat) (e : k + f = B) : xit (fun i259 s259 => (x_Kclose_274 σ b R B g w n r i259 s259 s259)) f k s = s := by
  refine xit_inv (fun s9 : XS9 => s9 = s) (N := B) (fun i s9 hi hP => ?_) f k s e rfl
  show x_Kclose_274 σ b R B g w n r i s9 s9 = s
  rw [show s9 = s from hP]
  rw [c274_eq hr hi hB6 eq hq (hW i hi) h, show hsum s (b + 2) r B - q = 0 by omega, Nat.min_zero, Nat.sub_zero, with_dgt (h i hi) hr, u2_id rfl]
/-- alike: what is held -/
def HE (b b' B : Nat) (s s' : XS9) : Prop := ∀ j, j < B → s (b + 2) j = s' (b' + 2) j ∧ bd 7775 (s' (b' + 2) j)
theorem HE.put {s s' : XS9} {x y : Int32} (h : HE b b' B s s') (e : x = y) (hy : bd 7775 y) : HE b b' B (u2 s (b + 2) i x) (u2 s' (b' + 2) i y) := fun j hj => by
  by_cases q : j = i
  · rw [q, u2_at, u2_at]
    exact ⟨e, hy⟩
  · rw [u2_oi q, u2_oi q]
    exact h j hj
/-- what a walk over the bidders keeps: other regions' digits, and beyond the bidders -/
def KP (b' r B : Nat) (s s2 : XS9) : Prop := ∀ j, j < B → ∀ k, k < 5 → k ≠ r → dgt (s2 (b' + 2) j) k = dgt (s (b' + 2) j) k
theorem KP.put {s s2 : XS9} {x m : Int32} (h : KP b' r B s s2) (hr : r < 5) (hc : bd 7775 (s2 (b' + 2) i)) (hm : bd 5 m) (e : x = f_with (s2 (b' + 2) i) r m) : KP b' r B s (u2 s2 (b' + 2) i x) := fun j hj k hk hn => by
  by_cases q : j = i
  · rw [q, u2_at, e, with_ne hc hr hm hk hn, ← q]
    exact h j hj k hk hn
  · rw [u2_oi q]
    exact h j hj k hk hn
theorem KP.trans {s s2 s3 : XS9} (h : KP b' r B s s2) (h2 : KP b' r B s2 s3) : KP b' r B s s3 := fun j hj k hk hn => (h2 j hj k hk hn).trans (h j hj k hk hn)
/-- the class's two steps, the reference's two steps -/
def st2 (b r i : Nat) (s : XS9) : XS9 := (if f_many (s (b + 3) i) r < f_many (s (b + 2) i) r then s else u2 s (b + 2) i (f_replaced (s (b + 2) i) r (f_many (s (b + 3) i) r)))
def st80 (b r i : Nat) (p : XS9 × Int32) : (XS9 × Int32) ⊕ (XS9 × Int32) := (if p.2 ≤ 0 then .inr (p.1, p.2) else .inl (u2 p.1 (b + 2) i (f_replaced (p.1 (b + 2) i) r ((f_many (p.1 (b + 2) i) r) - (if ((f_many (p.1 (b + 2) i) r) - (f_many (p.1 (b + 3) i) r)) < p.2 then ((f_many (p.1 (b + 2) i) r) - (f_many (p.1 (b + 3) i) r)) else p.2))), p.2 - (if ((f_many (p.1 (b + 2) i) r) - (f_many (p.1 (b + 3) i) r)) < p.2 then ((f_many (p.1 (b + 2) i) r) - (f_many (p.1 (b + 3) i) r)) else p.2)))
def st181 (σ : XS9) (b R B g w n r i : Nat) (s : XS9) : XS9 := (if (f_of ((x_Kclose_2 σ b R B g w n σ) (b + 500 + g) i) r) ≤ (f_of (s (b + 2) i) r) then s else u2 s (b + 2) i (f_with (s (b + 2) i) r (f_of ((x_Kclose_2 σ b R B g w n σ) (b + 500 + g) i) r)))
def st259 (σ : XS9) (b R B g w n r i : Nat) (s : XS9) : XS9 := x_Kclose_274 σ b R B g w n r i s s
theorem xitB_l {S : Type} {step : Nat → S → S ⊕ S} {f i : Nat} {s s' : S} (e : step i s = .inl s') : xitB step (f + 1) i s = xitB step f (i + 1) s' := by
  show (match step i s with | .inl s' => xitB step f (i + 1) s' | .inr s' => s') = _
  rw [e]
theorem xitB_r {S : Type} {step : Nat → S → S ⊕ S} {f i : Nat} {s s' : S} (e : step i s = .inr s') : xitB step (f + 1) i s = s' := by
  show (match step i s with | .inl s' => xitB step f (i + 1) s' | .inr s' => s') = _
  rw [e]
/-- the wish that counts, alike -/
def WE (σ : XS9) (b' R B g w n : Nat) (W : Nat → Int32) : Prop := ∀ j, j < B → bd 7775 (W j) ∧ x_Kclose_2 σ b' R B g w n σ (b' + 500 + g) j = W j
theorem st80_pos {s : XS9} {E c V T : Int32} (h0 : ¬ E ≤ 0) (h1 : s (b + 2) i = c) (h2 : s (b + 3) i = V) (h3 : (if f_many c r - f_many V r < E then f_many c r - f_many V r else E) = T) : st80 b r i (s, E) = .inl (u2 s (b + 2) i (f_replaced c r (f_many c r - T)), E - T) := by
  subst h1
  subst h2
  subst h3
  exact if_neg h0
theorem mv80 {W : Nat → Int32} (hr : r < 5) (hB6 : B ≤ 6) (eq : σ (5010 + r) 0 = nI q) (hq : q ≤ 5) (hW : WE σ b' R B g w n W) : ∀ (f i : Nat) (s s' : XS9), i + f = B → s (b + 3) = W → HE b b' B s s' → (∀ j, j < B → dgt (W j) r ≤ dgt (s' (b' + 2) j) r) → HE b b' B (xitB (st80 b r) f i (s, nI (hsum s' (b' + 2) r B) - nI q)).1 (xit (st259 σ b' R B g w n r) f i s') ∧ KP b' r B s' (xit (st259 σ b' R B g w n r) f i s') ∧ ∀ j, B ≤ j → (xitB (st80 b r) f i (s, nI (hsum s' (b' + 2) r B) - nI q)).1 (b + 2) j = s (b + 2) j
  | 0, i, s, s', e, e3, hE, hw => ⟨hE, fun _ _ _ _ _ => rfl, fun _ _ => rfl⟩
  | f + 1, i, s, s', e, e3, hE, hw => by
    have hS := hsum_30 (s := s') (a := b' + 2) (r := r) hB6
    have hWb : ∀ j, j < B → bd 7775 (x_Kclose_2 σ b' R B g w n σ (b' + 500 + g) j) := fun j hj => by
      rw [(hW j hj).2]
      exact (hW j hj).1
    have hEb : ∀ j, j < B → bd 7775 (s' (b' + 2) j) := fun j hj => (hE j hj).2
    by_cases c1 : hsum s' (b' + 2) r B ≤ q
    · rw [show xit (st259 σ b' R B g w n r) (f + 1) i s' = s' from c259_stay hr hB6 eq hq hWb hEb c1 (f + 1) i e, xitB_r (step := st80 b r) (f := f) (i := i) (s := (s, nI (hsum s' (b' + 2) r B) - nI q)) (s' := (s, nI (hsum s' (b' + 2) r B) - nI q)) (if_pos ((over_le hS hq).mpr c1))]
      exact ⟨hE, fun _ _ _ _ _ => rfl, fun _ _ => rfl⟩
    · have hi : i < B := by omega
      have hc := hEb i hi
      have hd := dgt_le (c := s' (b' + 2) i) (r := r)
      have hwi := hw i hi
      obtain ⟨t, et⟩ : ∃ t, t = min (dgt (s' (b' + 2) i) r - dgt (W i) r) (hsum s' (b' + 2) r B - q) := ⟨_, rfl⟩
      have b5 : bd 5 (nI (dgt (s' (b' + 2) i) r - t)) := bd.nat (by omega) (by decide)
      have em : st259 σ b' R B g w n r i s' = u2 s' (b' + 2) i (f_with (s' (b' + 2) i) r (nI (dgt (s' (b' + 2) i) r - t))) := by
        rw [et, ← (hW i hi).2]
        exact c274_eq hr hi hB6 eq hq (hWb i hi) hEb
      have eS := hsum_u2 (s := s') (a := b' + 2) (r := r) (x := f_with (s' (b' + 2) i) r (nI (dgt (s' (b' + 2) i) r - t))) hi
      rw [with_at hc hr b5, cn_nI (by omega)] at eS
      have eT : (if nI (dgt (s' (b' + 2) i) r) - nI (dgt (W i) r) < nI (hsum s' (b' + 2) r B) - nI q then nI (dgt (s' (b' + 2) i) r) - nI (dgt (W i) r) else nI (hsum s' (b' + 2) r B) - nI q) = nI t := by
        rw [nI_minus hwi, nI_minus (show q ≤ hsum s' (b' + 2) r B by omega), et]
        split
        · rename_i z
          rw [Nat.min_eq_left (Nat.le_of_lt ((nlt (by omega) (by omega)).mp z))]
        · rename_i z
          rw [Nat.min_eq_right (Nat.le_of_not_lt fun y => z ((nlt (by omega) (by omega)).mpr y))]
      have ee : nI (hsum s' (b' + 2) r B) - nI q - nI t = nI (hsum (u2 s' (b' + 2) i (f_with (s' (b' + 2) i) r (nI (dgt (s' (b' + 2) i) r - t)))) (b' + 2) r B) - nI q := by
        rw [nI_minus (show q ≤ hsum s' (b' + 2) r B by omega), nI_minus (by omega), nI_minus (by omega)]
        congr 1
        omega
      have ec : st80 b r i (s, nI (hsum s' (b' + 2) r B) - nI q) = .inl (u2 s (b + 2) i (f_with (s' (b' + 2) i) r (nI (dgt (s' (b' + 2) i) r - t))), nI (hsum (u2 s' (b' + 2) i (f_with (s' (b' + 2) i) r (nI (dgt (s' (b' + 2) i) r - t)))) (b' + 2) r B) - nI q) := by
        have a1 : f_replaced (s' (b' + 2) i) r (f_many (s' (b' + 2) i) r - nI t) = f_with (s' (b' + 2) i) r (nI (dgt (s' (b' + 2) i) r - t)) := by
          rw [many_d hc hr, nI_minus (show t ≤ dgt (s' (b' + 2) i) r by omega), rep_with hc hr]
        refine (st80_pos (T := nI t) (fun z => c1 ((over_le hS hq).mp z)) (hE i hi).1 (congrFun e3 i) ?_).trans ?_
        · rw [many_d hc hr, many_d (hW i hi).1 hr]
          exact eT
        · rewrite [a1, ee]
          exact Eq.refl _
      rw [xitB_l ec]
      show HE b b' B _ (xit (st259 σ b' R B g w n r) f (i + 1) (st259 σ b' R B g w n r i s')) ∧ KP b' r B s' (xit (st259 σ b' R B g w n r) f (i + 1) (st259 σ b' R B g w n r i s')) ∧ _
      rw [em]
      have hE2 := hE.put (i := i) (x := f_with (s' (b' + 2) i) r (nI (dgt (s' (b' + 2) i) r - t))) rfl (hc.withd hr b5)
      have IH := mv80 hr hB6 eq hq hW f (i + 1) _ _ (by omega) (by rw [u2_ne (by omega)]; exact e3) hE2 (fun j hj => by
        by_cases z : j = i
        · rw [z, u2_at, with_at hc hr b5, cn_nI (by omega)]
          omega
        · rw [u2_oi z]
          exact hw j hj)
      refine ⟨IH.1, KP.trans (KP.put (fun _ _ _ _ _ => rfl) hr hc b5 rfl) IH.2.1, fun j hj => ?_⟩
      rw [IH.2.2 j hj, u2_oi (by omega)]
theorem mv2 {W : Nat → Int32} (hr : r < 5) (hW : WE σ b' R B g w n W) : ∀ (f i : Nat) (s s' : XS9), i + f = B → s (b + 3) = W → HE b b' B s s' → (∀ j, j < i → dgt (W j) r ≤ dgt (s' (b' + 2) j) r) → HE b b' B (xit (st2 b r) f i s) (xit (st181 σ b' R B g w n r) f i s') ∧ KP b' r B s' (xit (st181 σ b' R B g w n r) f i s') ∧ (∀ j, j < B → dgt (W j) r ≤ dgt (xit (st181 σ b' R B g w n r) f i s' (b' + 2) j) r) ∧ (xit (st2 b r) f i s (b + 3) = W) ∧ ∀ j, B ≤ j → xit (st2 b r) f i s (b + 2) j = s (b + 2) j
  | 0, i, s, s', e, e3, hE, hw => ⟨hE, fun _ _ _ _ _ => rfl, fun j hj => hw j (by omega), e3, fun _ _ => rfl⟩
  | f + 1, i, s, s', e, e3, hE, hw => by
    have hi : i < B := by omega
    have hc := (hE i hi).2
    have hwb := (hW i hi).1
    have b5 : bd 5 (nI (dgt (W i) r)) := dgt_bd
    have dW := dgt_le (c := W i) (r := r)
    have dH := dgt_le (c := s' (b' + 2) i) (r := r)
    have ec : st2 b r i s = u2 s (b + 2) i (if dgt (W i) r < dgt (s' (b' + 2) i) r then s' (b' + 2) i else f_with (s' (b' + 2) i) r (nI (dgt (W i) r))) := by
      unfold st2
      rw [(hE i hi).1, e3, many_d hc hr, many_d hwb hr, rep_with hc hr]
      by_cases z : dgt (W i) r < dgt (s' (b' + 2) i) r
      · rw [if_pos ((nlt (by omega) (by omega)).mpr z), if_pos z, u2_id (hE i hi).1.symm]
      · rw [if_neg (fun y => z ((nlt (by omega) (by omega)).mp y)), if_neg z]
    have em : st181 σ b' R B g w n r i s' = u2 s' (b' + 2) i (if dgt (W i) r < dgt (s' (b' + 2) i) r then s' (b' + 2) i else f_with (s' (b' + 2) i) r (nI (dgt (W i) r))) := by
      unfold st181
      rw [(hW i hi).2, of_d hc hr, of_d hwb hr]
      by_cases z : dgt (W i) r < dgt (s' (b' + 2) i) r
      · rw [if_pos ((nle (by omega) (by omega)).mpr (Nat.le_of_lt z)), if_pos z, u2_id rfl]
      · rw [if_neg z]
        by_cases y : dgt (W i) r = dgt (s' (b' + 2) i) r
        · rw [if_pos ((nle (by omega) (by omega)).mpr (Nat.le_of_eq y)), y, with_dgt hc hr, u2_id rfl]
        · rw [if_neg (fun x => y (by have := (nle (by omega) (by omega)).mp x; omega))]
    obtain ⟨x, ex⟩ : ∃ x, x = (if dgt (W i) r < dgt (s' (b' + 2) i) r then s' (b' + 2) i else f_with (s' (b' + 2) i) r (nI (dgt (W i) r))) := ⟨_, rfl⟩
    have hx : bd 7775 x ∧ dgt (W i) r ≤ dgt x r ∧ ∃ m, bd 5 m ∧ x = f_with (s' (b' + 2) i) r m := by
      rw [ex]
      split
      · rename_i z
        exact ⟨hc, Nat.le_of_lt z, _, dgt_bd, (with_dgt hc hr).symm⟩
      · refine ⟨hc.withd hr b5, ?_, _, b5, rfl⟩
        rw [with_at hc hr b5, cn_nI (by omega)]
        exact Nat.le_refl _
    rw [← ex] at ec em
    obtain ⟨h1, h2, m, h3, h4⟩ := hx
    have IH := mv2 hr hW f (i + 1) (u2 s (b + 2) i x) (u2 s' (b' + 2) i x) (by omega) (by rw [u2_ne (by omega)]; exact e3) (hE.put rfl h1) (fun j hj => by
      by_cases z : j = i
      · rw [z, u2_at]
        exact h2
      · rw [u2_oi z]
        exact hw j (by omega))
    show HE b b' B (xit (st2 b r) f (i + 1) (st2 b r i s)) (xit (st181 σ b' R B g w n r) f (i + 1) (st181 σ b' R B g w n r i s')) ∧ KP b' r B s' (xit (st181 σ b' R B g w n r) f (i + 1) (st181 σ b' R B g w n r i s')) ∧ (∀ j, j < B → dgt (W j) r ≤ dgt (xit (st181 σ b' R B g w n r) f (i + 1) (st181 σ b' R B g w n r i s') (b' + 2) j) r) ∧ (xit (st2 b r) f (i + 1) (st2 b r i s) (b + 3) = W) ∧ ∀ j, B ≤ j → xit (st2 b r) f (i + 1) (st2 b r i s) (b + 2) j = s (b + 2) j
    rw [ec, em]
    refine ⟨IH.1, KP.trans (KP.put (fun _ _ _ _ _ => rfl) hr hc h3 h4) IH.2.1, IH.2.2.1, IH.2.2.2.1, fun j hj => ?_⟩
    rw [IH.2.2.2.2 j hj, u2_oi (by omega)]
/-- one region -/
theorem move_sim {W : Nat → Int32} {s s' : XS9} (hr : r < 5) (hB6 : B ≤ 6) (eq : σ (5010 + r) 0 = nI q) (eqc : s 1010 r = nI q) (hb : 2000 ≤ b) (hq : q ≤ 5) (hW : WE σ b' R B g w n W) (e3 : s (b + 3) = W) (hE : HE b b' B s s') (hz : ∀ j, B ≤ j → j < 6 → s (b + 2) j = 0) : HE b b' B (g_moveHeld s b r B) (x_Kclose_259 σ b' R B g w n r (x_Kclose_181 σ b' R B g w n r s')) ∧ KP b' r B s' (x_Kclose_259 σ b' R B g w n r (x_Kclose_181 σ b' R B g w n r s')) ∧ ∀ j, B ≤ j → g_moveHeld s b r B (b + 2) j = s (b + 2) j := by
  have A := mv2 (b := b) hr hW B 0 s s' (Nat.zero_add _) e3 hE (fun j hj => absurd hj (by omega))
  obtain ⟨a1, a2, a3, a4, a5⟩ := A
  have f1010 : xit (st2 b r) B 0 s 1010 = s 1010 := xit_keep (fun s : XS9 => s 1010) (fun i s => by
    show st2 b r i s 1010 = s 1010
    unfold st2
    split
    · rfl
    · rw [u2_ne (by omega)]) _ _ _
  have et : f_together 6 (xit (st2 b r) B 0 s (b + 2)) r = nI (hsum (xit (st181 σ b' R B g w n r) B 0 s') (b' + 2) r B) := by
    rw [together_n hr hB6 (fun i hi => by rw [(a1 i hi).1]; exact (a1 i hi).2) (fun i h1 h2 => by rw [a5 i h1]; exact hz i h1 h2)]
    congr 1
    exact nsum_cg fun i hi => by rw [(a1 i hi).1]
  have C := mv80 (b := b) hr hB6 eq hq hW B 0 (xit (st2 b r) B 0 s) (xit (st181 σ b' R B g w n r) B 0 s') (Nat.zero_add _) a4 a1 a3
  have eg : g_moveHeld s b r B = (xitB (st80 b r) B 0 (xit (st2 b r) B 0 s, nI (hsum (xit (st181 σ b' R B g w n r) B 0 s') (b' + 2) r B) - nI q)).1 := by
    show (xitB (st80 b r) B 0 (xit (st2 b r) B 0 s, f_together 6 (xit (st2 b r) B 0 s (b + 2)) r - xit (st2 b r) B 0 s 1010 r)).1 = _
    rw [et, f1010, eqc]
  show HE b b' B (g_moveHeld s b r B) (xit (st259 σ b' R B g w n r) B 0 (xit (st181 σ b' R B g w n r) B 0 s')) ∧ KP b' r B s' (xit (st259 σ b' R B g w n r) B 0 (xit (st181 σ b' R B g w n r) B 0 s')) ∧ _
  rw [eg]
  exact ⟨C.1, a2.trans C.2.1, fun j hj => by rw [C.2.2 j hj, a5 j hj]⟩
end
end
section
/-! ===== the regions of a round, alike on both sides ===== -/
def rz (x p : Int32) : Int32 := (if (p + (if 1 < ((p * x) / 100) then ((p * x) / 100) else 1)) < 9999 then (p + (if 1 < ((p * x) / 100) then ((p * x) / 100) else 1)) else 9999)
def mvM (σ : XS9) (b R B g w n i : Nat) (s : XS9) : XS9 := x_Kclose_259 σ b R B g w n i (x_Kclose_181 σ b R B g w n i s)
def st169 (σ : XS9) (x : Int32) (b R B g w n i : Nat) (p : XS9 × Int32) : XS9 × Int32 := (if (σ (5010 + i) 0) < (f_KheldIn (mvM σ b R B g w n i p.1) b i B g) then (u2 (mvM σ b R B g w n i p.1) (b + 1) i (rz x (p.1 (b + 1) i)), 1) else (mvM σ b R B g w n i p.1, p.2))
def st5 (b : Nat) (x : Int32) (i : Nat) (p : XS9 × Int32) : XS9 × Int32 := (if (f_together 6 (p.1 (b + 2)) i) ≤ (p.1 1010 i) then (p.1, p.2) else (u2 p.1 (b + 1) i (rz x (p.1 (b + 1) i)), 1))
section
variable {σ : XS9} {x : Int32} {b b' R B g w n : Nat} {q : Nat → Nat} {W : Nat → Int32}
theorem KP.sum {s s2 : XS9} {r k : Nat} (h : KP b' r B s s2) (hk : k < 5) (hn : k ≠ r) : hsum s2 (b' + 2) k B = hsum s (b' + 2) k B := nsum_cg fun j hj => h j hj k hk hn
theorem mvM_row {s : XS9} {i a : Nat} (h : a ≠ b + 2) : mvM σ b R B g w n i s a = s a := by
  unfold mvM
  rw [fx_Kclose_259 h, fx_Kclose_181 h]
/-- after the first i regions -/
def RI (b b' B : Nat) (x : Int32) (q : Nat → Nat) (W : Nat → Int32) (s0 k0 : XS9) (i : Nat) (s : XS9) (p : XS9 × Int32) : Prop := (HE b b' B s p.1) ∧ (∀ j, B ≤ j → j < 6 → s (b + 2) j = 0) ∧ (∀ a, a ≠ b + 2 → s a = s0 a) ∧ (∀ a, a ≠ b' + 2 → a ≠ b' + 1 → p.1 a = k0 a) ∧ (∀ r, r < i → p.1 (b' + 1) r = if q r < hsum p.1 (b' + 2) r B then rz x (k0 (b' + 1) r) else k0 (b' + 1) r) ∧ (∀ r, i ≤ r → p.1 (b' + 1) r = k0 (b' + 1) r) ∧ (p.2 = 0 ↔ ∀ r, r < i → hsum p.1 (b' + 2) r B ≤ q r)
theorem RI.he {b b' B : Nat} {x : Int32} {q : Nat → Nat} {W : Nat → Int32} {s0 k0 : XS9} {i : Nat} {s : XS9} {p : XS9 × Int32} (h : RI b b' B x q W s0 k0 i s p) : HE b b' B s p.1 := h.1
theorem RI.z {b b' B : Nat} {x : Int32} {q : Nat → Nat} {W : Nat → Int32} {s0 k0 : XS9} {i : Nat} {s : XS9} {p : XS9 × Int32} (h : RI b b' B x q W s0 k0 i s p) : ∀ j, B ≤ j → j < 6 → s (b + 2) j = 0 := h.2.1
theorem RI.rows {b b' B : Nat} {x : Int32} {q : Nat → Nat} {W : Nat → Int32} {s0 k0 : XS9} {i : Nat} {s : XS9} {p : XS9 × Int32} (h : RI b b' B x q W s0 k0 i s p) : ∀ a, a ≠ b + 2 → s a = s0 a := h.2.2.1
theorem RI.rowsM {b b' B : Nat} {x : Int32} {q : Nat → Nat} {W : Nat → Int32} {s0 k0 : XS9} {i : Nat} {s : XS9} {p : XS9 × Int32} (h : RI b b' B x q W s0 k0 i s p) : ∀ a, a ≠ b' + 2 → a ≠ b' + 1 → p.1 a = k0 a := h.2.2.2.1
theorem RI.pr {b b' B : Nat} {x : Int32} {q : Nat → Nat} {W : Nat → Int32} {s0 k0 : XS9} {i : Nat} {s : XS9} {p : XS9 × Int32} (h : RI b b' B x q W s0 k0 i s p) : ∀ r, r < i → p.1 (b' + 1) r = if q r < hsum p.1 (b' + 2) r B then rz x (k0 (b' + 1) r) else k0 (b' + 1) r := h.2.2.2.2.1
theorem RI.pz {b b' B : Nat} {x : Int32} {q : Nat → Nat} {W : Nat → Int32} {s0 k0 : XS9} {i : Nat} {s : XS9} {p : XS9 × Int32} (h : RI b b' B x q W s0 k0 i s p) : ∀ r, i ≤ r → p.1 (b' + 1) r = k0 (b' + 1) r := h.2.2.2.2.2.1
theorem RI.fl {b b' B : Nat} {x : Int32} {q : Nat → Nat} {W : Nat → Int32} {s0 k0 : XS9} {i : Nat} {s : XS9} {p : XS9 × Int32} (h : RI b b' B x q W s0 k0 i s p) : p.2 = 0 ↔ ∀ r, r < i → hsum p.1 (b' + 2) r B ≤ q r := h.2.2.2.2.2.2
theorem rounds (hR5 : R ≤ 5) (hB6 : B ≤ 6) (hb : 2000 ≤ b) (hq : ∀ r, r < R → σ (5010 + r) 0 = nI (q r) ∧ q r ≤ 5) (hW : WE σ b' R B g w n W) {s0 k0 : XS9} (hqc : ∀ r, r < R → s0 1010 r = nI (q r)) (e3 : s0 (b + 3) = W) (hE : HE b b' B s0 k0) (hz : ∀ j, B ≤ j → j < 6 → s0 (b + 2) j = 0) : ∀ i, i ≤ R → RI b b' B x q W s0 k0 i (xit (fun i s => g_moveHeld s b i B) i 0 s0) (xit (st169 σ x b' R B g w n) i 0 (k0, 0)) := by
  intro i
  induction i with
  | zero =>
    intro _
    exact ⟨hE, hz, fun _ _ => rfl, fun _ _ _ => rfl, fun r hr => absurd hr (by omega), fun _ _ => rfl, ⟨fun _ r hr => absurd hr (by omega), fun _ => rfl⟩⟩
  | succ i ih =>
    intro hi
    have I := ih (by omega)
    rw [xit_last, xit_last]
    generalize xit (fun i s => g_moveHeld s b i B) i 0 s0 = s at I ⊢
    generalize xit (st169 σ x b' R B g w n) i 0 (k0, 0) = p at I ⊢
    have hr : i < 5 := by omega
    obtain ⟨q1, q2⟩ := hq i (by omega)
    have M := move_sim (b := b) (s := s) (s' := p.1) hr hB6 q1 (by rw [I.rows _ (by omega)]; exact hqc i (by omega)) hb q2 hW (by rw [I.rows _ (by omega)]; exact e3) I.he I.z
    obtain ⟨m1, m2, m3⟩ := M
    have m1 : HE b b' B (g_moveHeld s b i B) (mvM σ b' R B g w n i p.1) := m1
    have m2 : KP b' i B p.1 (mvM σ b' R B g w n i p.1) := m2
    have mb : ∀ j, j < B → bd 7775 (mvM σ b' R B g w n i p.1 (b' + 2) j) := fun j hj => (m1 j hj).2
    have hS := hsum_30 (s := mvM σ b' R B g w n i p.1) (a := b' + 2) (r := i) hB6
    have cz : ∀ j, B ≤ j → j < 6 → g_moveHeld s b i B (b + 2) j = 0 := fun j h1 h2 => by
      rw [m3 j h1]
      exact I.z j h1 h2
    have cr : ∀ a, a ≠ b + 2 → g_moveHeld s b i B a = s0 a := fun a ha => by
      rw [fr_moveHeld ha]
      exact I.rows a ha
    have es : ∀ r, r < i → hsum (mvM σ b' R B g w n i p.1) (b' + 2) r B = hsum p.1 (b' + 2) r B := fun r h => m2.sum (by omega) (by omega)
    have ec : st169 σ x b' R B g w n i p = if q i < hsum (mvM σ b' R B g w n i p.1) (b' + 2) i B then (u2 (mvM σ b' R B g w n i p.1) (b' + 1) i (rz x (p.1 (b' + 1) i)), 1) else (mvM σ b' R B g w n i p.1, p.2) := by
      unfold st169
      rw [held_n hr mb, q1]
      by_cases c : q i < hsum (mvM σ b' R B g w n i p.1) (b' + 2) i B
      · rw [if_pos ((nlt (by omega) (by omega)).mpr c), if_pos c]
      · rw [if_neg (fun y => c ((nlt (by omega) (by omega)).mp y)), if_neg c]
    rw [ec]
    by_cases c : q i < hsum (mvM σ b' R B g w n i p.1) (b' + 2) i B
    · rw [if_pos c]
      have u : ∀ y, u2 (mvM σ b' R B g w n i p.1) (b' + 1) i y (b' + 2) = mvM σ b' R B g w n i p.1 (b' + 2) := fun y => u2_ne (by omega)
      have su : ∀ y r, hsum (u2 (mvM σ b' R B g w n i p.1) (b' + 1) i y) (b' + 2) r B = hsum (mvM σ b' R B g w n i p.1) (b' + 2) r B := fun y r => nsum_cg fun j hj => by rw [u]
      refine ⟨fun j hj => ?_, cz, cr, fun a h1 h2 => ?_, fun r hr2 => ?_, fun r hr2 => ?_, ⟨fun e => ?_, fun e => ?_⟩⟩
      · show _ = u2 _ _ _ _ (b' + 2) j ∧ bd 7775 (u2 _ _ _ _ (b' + 2) j)
        rw [u]
        exact m1 j hj
      · show u2 _ _ _ _ a = k0 a
        rw [u2_ne h2, mvM_row h1]
        exact I.rowsM a h1 h2
      · show u2 _ _ _ _ (b' + 1) r = if q r < hsum (u2 _ _ _ _) (b' + 2) r B then _ else _
        rw [su]
        by_cases e : r = i
        · rw [e, u2_at, if_pos c, I.pz i (Nat.le_refl _)]
        · rw [u2_oi e, mvM_row (by omega), es r (by omega)]
          exact I.pr r (by omega)
      · show u2 _ _ _ _ (b' + 1) r = _
        rw [u2_oi (by omega), mvM_row (by omega)]
        exact I.pz r (by omega)
      · exact absurd (show (1 : Int32) = 0 from e) (by decide)
      · have this : hsum (u2 (mvM σ b' R B g w n i p.1) (b' + 1) i (rz x (p.1 (b' + 1) i))) (b' + 2) i B ≤ q i := e i (by omega)
        rw [su] at this
        omega
    · rw [if_neg c]
      refine ⟨m1, cz, cr, fun a h1 h2 => ?_, fun r hr2 => ?_, fun r hr2 => ?_, ⟨fun e r hr2 => ?_, fun e => ?_⟩⟩
      · show mvM _ _ _ _ _ _ _ _ _ a = k0 a
        rw [mvM_row h1]
        exact I.rowsM a h1 h2
      · show mvM _ _ _ _ _ _ _ _ _ (b' + 1) r = _
        rw [mvM_row (by omega)]
        by_cases e : r = i
        · rw [e]
          show p.1 (b' + 1) i = if q i < hsum (mvM σ b' R B g w n i p.1) (b' + 2) i B then _ else _
          rw [if_neg c]
          exact I.pz i (Nat.le_refl _)
        · show _ = if q r < hsum (mvM σ b' R B g w n i p.1) (b' + 2) r B then _ else _
          rw [es r (by omega)]
          exact I.pr r (by omega)
      · show mvM _ _ _ _ _ _ _ _ _ (b' + 1) r = _
        rw [mvM_row (by omega)]
        exact I.pz r (by omega)
      · show hsum (mvM σ b' R B g w n i p.1) (b' + 2) r B ≤ q r
        by_cases e2 : r = i
        · rw [e2]
          omega
        · rw [es r (by omega)]
          exact I.fl.mp e r (by omega)
      · refine I.fl.mpr fun r hr2 => ?_
        have := e r (by omega)
        have this : hsum (mvM σ b' R B g w n i p.1) (b' + 2) r B ≤ q r := this
        rw [es r hr2] at this
        exact this
/-- the class's prices -/
def RJ (b : Nat) (x : Int32) (c : Nat → Prop) (s : XS9) (i : Nat) (p : XS9 × Int32) : Prop := (∀ a, a ≠ b + 1 → p.1 a = s a) ∧ (∀ r, r < i → (c r → p.1 (b + 1) r = rz x (s (b + 1) r)) ∧ (¬ c r → p.1 (b + 1) r = s (b + 1) r)) ∧ (∀ r, i ≤ r → p.1 (b + 1) r = s (b + 1) r) ∧ (p.2 = 0 ↔ ∀ r, r < i → ¬ c r)
theorem RJ.rows {b : Nat} {x : Int32} {c : Nat → Prop} {s : XS9} {i : Nat} {p : XS9 × Int32} (h : RJ b x c s i p) : ∀ a, a ≠ b + 1 → p.1 a = s a := h.1
theorem RJ.pr {b : Nat} {x : Int32} {c : Nat → Prop} {s : XS9} {i : Nat} {p : XS9 × Int32} (h : RJ b x c s i p) : ∀ r, r < i → (c r → p.1 (b + 1) r = rz x (s (b + 1) r)) ∧ (¬ c r → p.1 (b + 1) r = s (b + 1) r) := h.2.1
theorem RJ.pz {b : Nat} {x : Int32} {c : Nat → Prop} {s : XS9} {i : Nat} {p : XS9 × Int32} (h : RJ b x c s i p) : ∀ r, i ≤ r → p.1 (b + 1) r = s (b + 1) r := h.2.2.1
theorem RJ.fl {b : Nat} {x : Int32} {c : Nat → Prop} {s : XS9} {i : Nat} {p : XS9 × Int32} (h : RJ b x c s i p) : p.2 = 0 ↔ ∀ r, r < i → ¬ c r := h.2.2.2
theorem raised (hb : 2000 ≤ b) {c : Nat → Prop} {s : XS9} (hc : ∀ r, r < R → (f_together 6 (s (b + 2)) r ≤ s 1010 r ↔ ¬ c r)) : ∀ i, i ≤ R → RJ b x c s i (xit (st5 b x) i 0 (s, 0)) := by
  intro i
  induction i with
  | zero =>
    intro _
    exact ⟨fun _ _ => rfl, fun r hr => absurd hr (by omega), fun _ _ => rfl, ⟨fun _ r hr => absurd hr (by omega), fun _ => rfl⟩⟩
  | succ i ih =>
    intro hi
    have I := ih (by omega)
    rw [xit_last]
    generalize xit (st5 b x) i 0 (s, 0) = p at I ⊢
    have ec : (f_together 6 (p.1 (b + 2)) i ≤ p.1 1010 i) ↔ ¬ c i := by
      rw [I.rows _ (by omega), I.rows _ (by omega)]
      exact hc i (by omega)
    unfold st5
    by_cases k : c i
    · rw [if_neg (fun y => ec.mp y k)]
      refine ⟨fun a ha => ?_, fun r hr => ?_, fun r hr => ?_, ⟨fun e => ?_, fun e => absurd k (e i (by omega))⟩⟩
      · show u2 _ _ _ _ a = s a
        rw [u2_ne ha]
        exact I.rows a ha
      · show (c r → u2 _ _ _ _ (b + 1) r = _) ∧ (¬ c r → u2 _ _ _ _ (b + 1) r = _)
        by_cases e : r = i
        · rw [e, u2_at, I.pz i (Nat.le_refl _)]
          exact ⟨fun _ => rfl, fun y => absurd k y⟩
        · rw [u2_oi e]
          exact I.pr r (by omega)
      · show u2 _ _ _ _ (b + 1) r = _
        rw [u2_oi (by omega)]
        exact I.pz r (by omega)
      · exact absurd (show (1 : Int32) = 0 from e) (by decide)
    · rw [if_pos (ec.mpr k)]
      refine ⟨I.rows, fun r hr => ?_, fun r hr => I.pz r (by omega), ⟨fun e r hr => ?_, fun e => I.fl.mpr fun r hr => e r (by omega)⟩⟩
      · by_cases e : r = i
        · rw [e]
          exact ⟨fun y => absurd y k, fun _ => I.pz i (Nat.le_refl _)⟩
        · exact I.pr r (by omega)
      · by_cases e2 : r = i
        · rw [e2]
          exact k
        · exact I.fl.mp e r (by omega)
end
end
section
/-! ===== a round's close, alike on both sides ===== -/
def stU (b K i : Nat) (s : XS9) : XS9 := (if (f_contradictedRound s b i K) = (-1) then s else u2 (u2 s (b + 6) i ((s (b + 6) i) + 1)) (b + 3) i (s (b + 2) i))
def stL (b i : Nat) (s : XS9) : XS9 := (if (8 * (s (b + 4) i)) ≤ (10 * (f_total (s (b + 3) i) 5 (s 1011))) then s else (if (f_hasWaived s b i) = 0 then u2 s (b + 4) i ((10 * (f_total (s (b + 3) i) 5 (s 1011))) / 8) else s))
def stM2 (σ : XS9) (b R g n i : Nat) (s : XS9) : XS9 := (if (σ 5000 3) = 0 then s else (if (f_Kcontradicts s b i R g n) = (-1) then s else u2 (u2 s (b + 500 + g) i (σ (b + 2) i)) (b + 5) i ((s (b + 5) i) + 1)))
def stM65 (σ : XS9) (b R w : Nat) (W : Nat → Int32) (i : Nat) (s : XS9) : XS9 := (if (σ (b + 700 + w) i) = 0 then (if (8 * (s (b + 3) i)) ≤ (10 * (f_Mpoints s (W i) R)) then s else u2 s (b + 3) i ((10 * (f_Mpoints s (W i) R)) / 8)) else s)
theorem xitR_cg {S Q : Type} {f g : Nat → S → S ⊕ Q} {N : Nat} (h : ∀ i s, i < N → f i s = g i s) : ∀ (k i : Nat) (s : S), i + k = N → xitR f k i s = xitR g k i s
  | 0, _, _, _ => rfl
  | k + 1, i, s, e => by
    show (match f i s with | .inl s' => xitR f k (i + 1) s' | .inr r => .inr r) = (match g i s with | .inl s' => xitR g k (i + 1) s' | .inr r => .inr r)
    rw [h i s (by omega)]
    split
    · exact xitR_cg h k (i + 1) _ (by omega)
    · rfl
/-- the clock's state, alike -/
def KQ (b b' R B g w n : Nat) (s s' : XS9) : Prop := (s b 9 = nI n) ∧ (∀ r, r < R → s (b + 1) r = s' (b' + 1) r) ∧ (∀ r, R ≤ r → r < 5 → s (b + 1) r = 0) ∧ (HE b b' B s s') ∧ (∀ j, B ≤ j → j < 6 → s (b + 2) j = 0) ∧ (∀ j, j < B → s (b + 3) j = s' (b' + 500 + g) j ∧ bd 7775 (s' (b' + 500 + g) j)) ∧ (∀ j, B ≤ j → j < 6 → s (b + 3) j = 0) ∧ (∀ j, j < B → s (b + 4) j = s' (b' + 3) j) ∧ (∀ j, j < B → s (b + 5) j = s' (b' + 4) j ∧ bd 2 (s' (b' + 4) j)) ∧ (∀ j, j < B → s (b + 6) j = s' (b' + 5) j) ∧ (∀ j, j < B → (f_hasWaived s b j = 0 ↔ s' (b' + 700 + w) j = 0)) ∧ (∀ k, k < n → (∀ r, r < R → s (b + 101 + k) r = s' (b' + 100 + k) r) ∧ ∀ r, R ≤ r → r < 5 → s (b + 101 + k) r = 0) ∧ (∀ k, k < n → ∀ j, j < B → s (b + 301 + k) j = s' (b' + 200 + k) j ∧ bd 7775 (s' (b' + 200 + k) j))
theorem KQ.c {b b' R B g w n : Nat} {s s' : XS9} (h : KQ b b' R B g w n s s') : s b 9 = nI n := h.1
theorem KQ.p {b b' R B g w n : Nat} {s s' : XS9} (h : KQ b b' R B g w n s s') : ∀ r, r < R → s (b + 1) r = s' (b' + 1) r := h.2.1
theorem KQ.pz {b b' R B g w n : Nat} {s s' : XS9} (h : KQ b b' R B g w n s s') : ∀ r, R ≤ r → r < 5 → s (b + 1) r = 0 := h.2.2.1
theorem KQ.he {b b' R B g w n : Nat} {s s' : XS9} (h : KQ b b' R B g w n s s') : HE b b' B s s' := h.2.2.2.1
theorem KQ.hz {b b' R B g w n : Nat} {s s' : XS9} (h : KQ b b' R B g w n s s') : ∀ j, B ≤ j → j < 6 → s (b + 2) j = 0 := h.2.2.2.2.1
theorem KQ.wi {b b' R B g w n : Nat} {s s' : XS9} (h : KQ b b' R B g w n s s') : ∀ j, j < B → s (b + 3) j = s' (b' + 500 + g) j ∧ bd 7775 (s' (b' + 500 + g) j) := h.2.2.2.2.2.1
theorem KQ.wz {b b' R B g w n : Nat} {s s' : XS9} (h : KQ b b' R B g w n s s') : ∀ j, B ≤ j → j < 6 → s (b + 3) j = 0 := h.2.2.2.2.2.2.1
theorem KQ.el {b b' R B g w n : Nat} {s s' : XS9} (h : KQ b b' R B g w n s s') : ∀ j, j < B → s (b + 4) j = s' (b' + 3) j := h.2.2.2.2.2.2.2.1
theorem KQ.wv {b b' R B g w n : Nat} {s s' : XS9} (h : KQ b b' R B g w n s s') : ∀ j, j < B → s (b + 5) j = s' (b' + 4) j ∧ bd 2 (s' (b' + 4) j) := h.2.2.2.2.2.2.2.2.1
theorem KQ.co {b b' R B g w n : Nat} {s s' : XS9} (h : KQ b b' R B g w n s s') : ∀ j, j < B → s (b + 6) j = s' (b' + 5) j := h.2.2.2.2.2.2.2.2.2.1
theorem KQ.ma {b b' R B g w n : Nat} {s s' : XS9} (h : KQ b b' R B g w n s s') : ∀ j, j < B → (f_hasWaived s b j = 0 ↔ s' (b' + 700 + w) j = 0) := h.2.2.2.2.2.2.2.2.2.2.1
theorem KQ.lp {b b' R B g w n : Nat} {s s' : XS9} (h : KQ b b' R B g w n s s') : ∀ k, k < n → (∀ r, r < R → s (b + 101 + k) r = s' (b' + 100 + k) r) ∧ ∀ r, R ≤ r → r < 5 → s (b + 101 + k) r = 0 := h.2.2.2.2.2.2.2.2.2.2.2.1
theorem KQ.lh {b b' R B g w n : Nat} {s s' : XS9} (h : KQ b b' R B g w n s s') : ∀ k, k < n → ∀ j, j < B → s (b + 301 + k) j = s' (b' + 200 + k) j ∧ bd 7775 (s' (b' + 200 + k) j) := h.2.2.2.2.2.2.2.2.2.2.2.2
/-- what a clock was told, alike -/
def TQ (R : Nat) (s s' : XS9) : Prop := (s 1001 11 = s' 5000 3) ∧ (∀ r, r < 5 → s 1010 r = s' (5010 + r) 0 ∧ bd 5 (s' (5010 + r) 0)) ∧ (∀ r, r < 5 → s 1011 r = s' (5010 + r) 1) ∧ (∀ r, R ≤ r → r < 5 → s' (5010 + r) 1 = 0)
theorem TQ.rl {R : Nat} {s s' : XS9} (h : TQ R s s') : s 1001 11 = s' 5000 3 := h.1
theorem TQ.rg {R : Nat} {s s' : XS9} (h : TQ R s s') : ∀ r, r < 5 → s 1010 r = s' (5010 + r) 0 ∧ bd 5 (s' (5010 + r) 0) := h.2.1
theorem TQ.pt {R : Nat} {s s' : XS9} (h : TQ R s s') : ∀ r, r < 5 → s 1011 r = s' (5010 + r) 1 := h.2.2.1
theorem TQ.ptz {R : Nat} {s s' : XS9} (h : TQ R s s') : ∀ r, R ≤ r → r < 5 → s' (5010 + r) 1 = 0 := h.2.2.2
section
variable {σ : XS9} {x : Int32} {b b' R B g w n : Nat}
theorem contra_eq {s s' : XS9} {i : Nat} (hR5 : R ≤ 5) (hw : s (b + 3) i = s' (b' + 500 + g) i ∧ bd 7775 (s' (b' + 500 + g) i)) (hp : ∀ r, r < R → s (b + 1) r = s' (b' + 1) r) (hpz : ∀ r, R ≤ r → r < 5 → s (b + 1) r = 0) (hlp : ∀ k, k < n → (∀ r, r < R → s (b + 101 + k) r = s' (b' + 100 + k) r) ∧ ∀ r, R ≤ r → r < 5 → s (b + 101 + k) r = 0) (hlh : ∀ k, k < n → s (b + 301 + k) i = s' (b' + 200 + k) i ∧ bd 7775 (s' (b' + 200 + k) i)) : f_contradictedRound s b i n = f_Kcontradicts s' b' i R g n := by
  have e : x_contradictedRound_2 s b i n () = x_Kcontradicts_2 s' b' i R g n () := by
    unfold x_contradictedRound_2 x_Kcontradicts_2
    refine xitR_cg (fun k u hk => ?_) n 0 () (Nat.zero_add _)
    obtain ⟨l1, l2⟩ := hlp k hk
    obtain ⟨l3, l4⟩ := hlh k hk
    (try dsimp only)
    rw [dearer_eq (σ := s') (b := b') (i := i) (g := g) (n := n) (i2 := k) (R := R) (c := s (b + 3) i) (d := s (b + 301 + k) i) (by rw [hw.1]; exact hw.2) (by rw [l3]; exact l4) hR5 hw.1.symm l3.symm hp l1 (fun j h1 h2 => ⟨hpz j h1 h2, l2 j h1 h2⟩)]
  unfold f_contradictedRound f_Kcontradicts
  generalize x_contradictedRound_2 s b i n () = A at e ⊢
  subst e
  cases x_Kcontradicts_2 s' b' i R g n () <;> rfl
/-- undoing contradictions -/
def UQ (b b' B g : Nat) (s0 σ s s' : XS9) : Prop := (∀ j, j < B → s (b + 3) j = s' (b' + 500 + g) j ∧ bd 7775 (s' (b' + 500 + g) j)) ∧ (∀ j, j < B → s (b + 6) j = s' (b' + 5) j) ∧ (∀ a, a ≠ b + 3 → a ≠ b + 6 → s a = s0 a) ∧ (∀ a, a ≠ b' + 500 + g → a ≠ b' + 5 → s' a = σ a)
theorem UQ.wi {b b' B g : Nat} {s0 σ s s' : XS9} (h : UQ b b' B g s0 σ s s') : ∀ j, j < B → s (b + 3) j = s' (b' + 500 + g) j ∧ bd 7775 (s' (b' + 500 + g) j) := h.1
theorem UQ.co {b b' B g : Nat} {s0 σ s s' : XS9} (h : UQ b b' B g s0 σ s s') : ∀ j, j < B → s (b + 6) j = s' (b' + 5) j := h.2.1
theorem UQ.rc {b b' B g : Nat} {s0 σ s s' : XS9} (h : UQ b b' B g s0 σ s s') : ∀ a, a ≠ b + 3 → a ≠ b + 6 → s a = s0 a := h.2.2.1
theorem UQ.rm {b b' B g : Nat} {s0 σ s s' : XS9} (h : UQ b b' B g s0 σ s s') : ∀ a, a ≠ b' + 500 + g → a ≠ b' + 5 → s' a = σ a := h.2.2.2
theorem undo_sim {s0 : XS9} (hR5 : R ≤ 5) (hn : n < 60) (hg : g < 199) (Q : KQ b b' R B g w n s0 σ) (hr : ¬ σ 5000 3 = 0) : ∀ i, i ≤ B → UQ b b' B g s0 σ (xit (stU b n) i 0 s0) (xit (stM2 σ b' R g n) i 0 σ) := by
  intro i
  induction i with
  | zero => exact fun _ => ⟨Q.wi, Q.co, fun _ _ _ => rfl, fun _ _ _ => rfl⟩
  | succ i ih =>
    intro hi
    have I := ih (by omega)
    rw [xit_last, xit_last]
    generalize xit (stU b n) i 0 s0 = s at I ⊢
    generalize xit (stM2 σ b' R g n) i 0 σ = s' at I ⊢
    have hiB : i < B := by omega
    have ec : f_contradictedRound s b i n = f_Kcontradicts s' b' i R g n := contra_eq hR5 (I.wi i hiB) (fun r h => by rw [I.rc _ (by omega) (by omega), I.rm _ (by omega) (by omega)]; exact Q.p r h) (fun r h1 h2 => by rw [I.rc _ (by omega) (by omega)]; exact Q.pz r h1 h2) (fun k hk => by
      rw [I.rc _ (by omega) (by omega), I.rm _ (by omega) (by omega)]
      exact Q.lp k hk) (fun k hk => by
      rw [I.rc _ (by omega) (by omega), I.rm _ (by omega) (by omega)]
      exact Q.lh k hk i hiB)
    unfold stU stM2
    rw [if_neg hr, ec]
    by_cases c : f_Kcontradicts s' b' i R g n = -1
    · rw [if_pos c, if_pos c]
      exact I
    · rw [if_neg c, if_neg c]
      have eh : s (b + 2) i = σ (b' + 2) i := by
        rw [I.rc _ (by omega) (by omega)]
        exact (Q.he i hiB).1
      refine ⟨fun j hj => ?_, fun j hj => ?_, fun a h1 h2 => ?_, fun a h1 h2 => ?_⟩
      · rw [u2_ne (show b' + 500 + g ≠ b' + 5 by omega)]
        by_cases e : j = i
        · rw [e, u2_at, u2_at]
          exact ⟨eh, (Q.he i hiB).2⟩
        · rw [u2_oi e, u2_oi e, u2_ne (show b + 3 ≠ b + 6 by omega)]
          exact I.wi j hj
      · rw [u2_ne (show b + 6 ≠ b + 3 by omega)]
        by_cases e : j = i
        · rw [e, u2_at, u2_at, I.co i hiB]
        · rw [u2_oi e, u2_oi e, u2_ne (show b' + 5 ≠ b' + 500 + g by omega)]
          exact I.co j hj
      · rw [u2_ne h1, u2_ne h2]
        exact I.rc a h1 h2
      · rw [u2_ne h2, u2_ne h1]
        exact I.rm a h1 h2
theorem keep_rule (hr : σ 5000 3 = 0) : x_Kclose_2 σ b' R B g w n σ = σ := by
  unfold x_Kclose_2
  refine xit_inv (fun s : XS9 => s = σ) (N := B) (fun i s hi hP => ?_) B 0 _ (Nat.zero_add _) rfl
  (try dsimp only)
  rw [if_pos hr]
  exact hP
/-- lowering who may wish -/
theorem lower_sim {s0 k0 : XS9} {W : Nat → Int32} (hR5 : R ≤ 5) (hw : ∀ j, j < B → s0 (b + 3) j = W j ∧ bd 7775 (W j)) (hel : ∀ j, j < B → s0 (b + 4) j = k0 (b' + 3) j) (hma : ∀ j, j < B → (f_hasWaived s0 b j = 0 ↔ σ (b' + 700 + w) j = 0)) (hpt : ∀ r, r < 5 → s0 1011 r = k0 (5010 + r) 1) (hptz : ∀ r, R ≤ r → r < 5 → k0 (5010 + r) 1 = 0) (hb : 2000 ≤ b) (hb' : 7000 ≤ b') : ∀ i, i ≤ B → (∀ j, j < B → xit (stL b) i 0 s0 (b + 4) j = xit (stM65 σ b' R w W) i 0 k0 (b' + 3) j) ∧ (∀ a, a ≠ b + 4 → xit (stL b) i 0 s0 a = s0 a) ∧ ∀ a, a ≠ b' + 3 → xit (stM65 σ b' R w W) i 0 k0 a = k0 a := by
  intro i
  induction i with
  | zero => exact fun _ => ⟨hel, fun _ _ => rfl, fun _ _ => rfl⟩
  | succ i ih =>
    intro hi
    obtain ⟨I1, I2, I3⟩ := ih (by omega)
    rw [xit_last, xit_last]
    generalize xit (stL b) i 0 s0 = s at I1 I2 ⊢
    generalize xit (stM65 σ b' R w W) i 0 k0 = s' at I1 I3 ⊢
    have hiB : i < B := by omega
    have ep : f_total (s (b + 3) i) 5 (s 1011) = f_Mpoints s' (W i) R := by
      rw [I2 _ (by omega), I2 1011 (by omega), (hw i hiB).1]
      exact points_eq (hw i hiB).2 hR5 (fun j hj => by rw [I3 _ (by omega)]; exact hpt j hj) (fun j h1 h2 => by rw [I3 _ (by omega)]; exact hptz j h1 h2)
    have ew : f_hasWaived s b i = 0 ↔ σ (b' + 700 + w) i = 0 := by
      have : f_hasWaived s b i = f_hasWaived s0 b i := by
        unfold f_hasWaived
        rw [I2 b (by omega)]
      rw [this]
      exact hma i hiB
    unfold stL stM65
    rw [ep, I1 i hiB]
    by_cases c1 : 8 * s' (b' + 3) i ≤ 10 * f_Mpoints s' (W i) R
    · rw [if_pos c1, if_pos c1]
      split <;> exact ⟨I1, I2, I3⟩
    · rw [if_neg c1, if_neg c1]
      by_cases c2 : σ (b' + 700 + w) i = 0
      · rw [if_pos c2, if_pos (ew.mpr c2)]
        refine ⟨fun j hj => ?_, fun a ha => ?_, fun a ha => ?_⟩
        · by_cases e : j = i
          · rw [e, u2_at, u2_at]
          · rw [u2_oi e, u2_oi e]
            exact I1 j hj
        · rw [u2_ne ha]
          exact I2 a ha
        · rw [u2_ne ha]
          exact I3 a ha
      · rw [if_neg c2, if_neg (fun y => c2 (ew.mp y))]
        exact ⟨I1, I2, I3⟩
/-! the class's round -/
def crL (σ : XS9) (b : Nat) (x : Int32) (K : Nat) : XS9 := uR (uR (u2 (u2 σ (b + 7) K x) (b + 8) K (σ b 12)) (b + 101 + K) (va_cpy (σ (b + 1)) (σ (b + 101 + K)) 0 0 5)) (b + 201 + K) (va_cpy (σ (b + 3)) (σ (b + 201 + K)) 0 0 6)
def crU (σ : XS9) (b : Nat) (x : Int32) (B K : Nat) : XS9 := if σ 1001 11 = 0 then crL σ b x K else g_undoContradictions (crL σ b x K) b B K
def crM (σ : XS9) (b : Nat) (x : Int32) (B R K : Nat) : XS9 := x_closeRound_92 σ b x B R K (g_lowerEligible (crU σ b x B K) b B)
def crF (s : XS9) (b : Nat) (x : Int32) (R K : Nat) : XS9 := u2 (u2 (uR (uR (g_raisePrices s b x R) (b + 301 + K) (va_cpy (s (b + 2)) (s (b + 301 + K)) 0 0 6)) (b + 3) (va_cpy (s (b + 2)) (s (b + 3)) 0 0 6)) b 12 0) b 9 (nI (K + 1))
theorem closeRound_eq {K : Nat} (h : nI K < 60) : g_closeRound σ b x B R K = crF (crM σ b x B R K) b x R K := by
  unfold g_closeRound
  rw [if_pos h]
  by_cases c : σ 1001 11 = 0
  · rw [if_pos c]
    unfold crF crM
    rw [show crU σ b x B K = crL σ b x K from if_pos c]
    unfold crL
    rfl
  · rw [if_neg c]
    unfold crF crM
    rw [show crU σ b x B K = g_undoContradictions (crL σ b x K) b B K from if_neg c]
    unfold crL
    rfl
theorem closeRound_f {K : Nat} (h : nI K < 60) : f_closeRound σ b x B R K = if f_raisePrices (crM σ b x B R K) b x R = 0 then 1 else (if nI (K + 1) = 60 then 1 else 0) := by
  unfold f_closeRound
  rw [if_pos h]
  by_cases c : σ 1001 11 = 0
  · rw [if_pos c]
    unfold crM
    rw [show crU σ b x B K = crL σ b x K from if_pos c]
    unfold crL
    rfl
  · rw [if_neg c]
    unfold crM
    rw [show crU σ b x B K = g_undoContradictions (crL σ b x K) b B K from if_neg c]
    unfold crL
    rfl
theorem crL_row {K a : Nat} (h : a ≠ b + 7 ∧ a ≠ b + 8 ∧ a ≠ b + 101 + K ∧ a ≠ b + 201 + K) : crL σ b x K a = σ a := by
  unfold crL
  rw [uR_ne h.2.2.2, uR_ne h.2.2.1, u2_ne h.2.1, u2_ne h.1]
theorem crL_p {K r : Nat} (hK : K < 60) (hr : r < 5) : crL σ b x K (b + 101 + K) r = σ (b + 1) r := by
  unfold crL
  rw [uR_ne (by omega), uR_eq, cpy_lo hr]
/-- the state after the round's log -/
theorem KQ.log {s : XS9} (Q : KQ b b' R B g w n s σ) (hn : n < 60) : KQ b b' R B g w n (crL s b x n) σ := by
  have e : ∀ a, a ≠ b + 7 → a ≠ b + 8 → a ≠ b + 101 + n → a ≠ b + 201 + n → crL s b x n a = s a := fun a h1 h2 h3 h4 => crL_row ⟨h1, h2, h3, h4⟩
  refine ⟨?_, fun r hr => ?_, fun r h1 h2 => ?_, fun j hj => ?_, fun j h1 h2 => ?_, fun j hj => ?_, (fun j h1 h2 => by rw [e _ (by omega) (by omega) (by omega) (by omega)]; exact Q.wz j h1 h2), fun j hj => ?_, fun j hj => ?_, fun j hj => ?_, fun j hj => ?_, fun k hk => ?_, fun k hk => ?_⟩
  · rw [e _ (by omega) (by omega) (by omega) (by omega)]; exact Q.c
  · rw [e _ (by omega) (by omega) (by omega) (by omega)]; exact Q.p r hr
  · rw [e _ (by omega) (by omega) (by omega) (by omega)]; exact Q.pz r h1 h2
  · rw [e _ (by omega) (by omega) (by omega) (by omega)]; exact Q.he j hj
  · rw [e _ (by omega) (by omega) (by omega) (by omega)]; exact Q.hz j h1 h2
  · rw [e _ (by omega) (by omega) (by omega) (by omega)]; exact Q.wi j hj
  · rw [e _ (by omega) (by omega) (by omega) (by omega)]; exact Q.el j hj
  · rw [e _ (by omega) (by omega) (by omega) (by omega)]; exact Q.wv j hj
  · rw [e _ (by omega) (by omega) (by omega) (by omega)]; exact Q.co j hj
  · have : f_hasWaived (crL s b x n) b j = f_hasWaived s b j := by
      unfold f_hasWaived
      rw [e _ (by omega) (by omega) (by omega) (by omega)]
    rw [this]
    exact Q.ma j hj
  · rw [e _ (by omega) (by omega) (by omega) (by omega)]; exact Q.lp k hk
  · rw [e _ (by omega) (by omega) (by omega) (by omega)]; exact Q.lh k hk
end
end
section
/-! ===== a round's close, alike on both sides: the whole ===== -/
section
variable {σ s : XS9} {x : Int32} {b b' R B g w n : Nat}
theorem crF_row {K a : Nat} (h : a ≠ b ∧ a ≠ b + 1 ∧ a ≠ b + 3 ∧ a ≠ b + 301 + K) : crF s b x R K a = s a := by
  unfold crF
  rw [u2_ne h.1, u2_ne h.1, uR_ne h.2.2.1, uR_ne h.2.2.2, fr_raisePrices h.2.1]
theorem crF_p {K : Nat} : crF s b x R K (b + 1) = g_raisePrices s b x R (b + 1) := by
  unfold crF
  rw [u2_ne (by omega), u2_ne (by omega), uR_ne (by omega), uR_ne (by omega)]
theorem crF_w {K j : Nat} (hj : j < 6) : crF s b x R K (b + 3) j = s (b + 2) j := by
  unfold crF
  rw [u2_ne (by omega), u2_ne (by omega), uR_eq, cpy_lo hj]
theorem crF_l {K j : Nat} (hj : j < 6) : crF s b x R K (b + 301 + K) j = s (b + 2) j := by
  unfold crF
  rw [u2_ne (by omega), u2_ne (by omega), uR_ne (by omega), uR_eq, cpy_lo hj]
theorem crF_c {K : Nat} : crF s b x R K b 9 = nI (K + 1) := by
  unfold crF
  rw [u2_at]
theorem crF_m {K : Nat} : crF s b x R K b 12 = 0 := by
  unfold crF
  rw [u2_oi (by decide), u2_at]
theorem waived0 {j : Nat} (h : s b 12 = 0) : f_hasWaived s b j = 0 := by
  unfold f_hasWaived
  rw [h, Int32.zero_and, if_pos rfl]
theorem kc0_log : kc0 σ b R B g w n (b + 100 + n) = σ (b + 1) := by
  unfold kc0
  rw [u2_ne (by omega), uR_eq, kcP_row (by omega)]
theorem kcF_log {f : Int32} (hg : g < 199) (hn : n < 60) : kcF s f b g w n (b + 200 + n) = s (b + 2) := by
  unfold kcF kcT
  rw [u2_ne (by omega), uR_ne (by omega), u2_ne (by omega), uR_ne (by omega), u2_ne (by omega), u2_ne (by omega), uR_eq]
theorem close_sim (hb : 2000 ≤ b) (hb' : 7000 ≤ b') (hR5 : R ≤ 5) (hB6 : B ≤ 6) (hn : n < 60) (hg : g < 199) (hw : w < 199) (Q : KQ b b' R B g w n s σ) (T : TQ R s σ) : KQ b b' R B (g + 1) (w + 1) (n + 1) (g_closeRound s b x B R n) (g_Kclose σ x b' R B g w n) ∧ f_closeRound s b x B R n = g_Kclose σ x b' R B g w n b' 9 := by
  have h60 : nI n < 60 := (nI_ltI (a := n) (b := 60) (by omega) (by omega)).mpr hn
  have L := Q.log (x := x) hn
  have lr : ∀ a, a < 2000 → crL s b x n a = s a := fun a ha => crL_row (by omega)
  have U : UQ b b' B g (crL s b x n) σ (crU s b x B n) (x_Kclose_2 σ b' R B g w n σ) := by
    unfold crU
    by_cases hr : σ 5000 3 = 0
    · rw [keep_rule hr, if_pos (T.rl.trans hr)]
      exact ⟨L.wi, L.co, fun _ _ _ => rfl, fun _ _ _ => rfl⟩
    · rw [if_neg (fun z => hr (T.rl.symm.trans z))]
      exact undo_sim hR5 hn hg L hr B (Nat.le_refl _)
  have ur : ∀ a, a < 2000 → crU s b x B n a = s a := fun a ha => by rw [U.rc _ (by omega) (by omega), lr a ha]
  have LW : (∀ j, j < B → g_lowerEligible (crU s b x B n) b B (b + 4) j = kcP σ b' R B g w n (b' + 3) j) ∧ (∀ a, a ≠ b + 4 → g_lowerEligible (crU s b x B n) b B a = crU s b x B n a) ∧ ∀ a, a ≠ b' + 3 → kcP σ b' R B g w n a = x_Kclose_2 σ b' R B g w n σ a :=
    lower_sim (σ := σ) (s0 := crU s b x B n) (k0 := x_Kclose_2 σ b' R B g w n σ) (W := x_Kclose_2 σ b' R B g w n σ (b' + 500 + g)) (w := w) hR5 (fun j hj => U.wi j hj) (fun j hj => by
      rw [U.rc _ (by omega) (by omega), U.rm _ (by omega) (by omega)]
      exact L.el j hj) (fun j hj => by
      have e : f_hasWaived (crU s b x B n) b j = f_hasWaived (crL s b x n) b j := by
        unfold f_hasWaived
        rw [U.rc _ (by omega) (by omega)]
      rw [e]
      exact L.ma j hj) (fun r hr => by
      rw [ur _ (by omega), U.rm _ (by omega) (by omega)]
      exact T.pt r hr) (fun r h1 h2 => by
      rw [U.rm _ (by omega) (by omega)]
      exact T.ptz r h1 h2) hb hb' B (Nat.le_refl _)
  obtain ⟨lw1, lw2, lw3⟩ := LW
  have er : ∀ a, a < 2000 → g_lowerEligible (crU s b x B n) b B a = s a := fun a ha => by rw [lw2 _ (by omega), ur a ha]
  have k2 : kc0 σ b' R B g w n (b' + 2) = σ (b' + 2) := kc0_row (by omega)
  have e2 : g_lowerEligible (crU s b x B n) b B (b + 2) = s (b + 2) := by rw [lw2 _ (by omega), U.rc _ (by omega) (by omega), crL_row (by omega)]
  have I : RI b b' B x (fun r => cn (σ (5010 + r) 0)) (crU s b x B n (b + 3)) (g_lowerEligible (crU s b x B n) b B) (kc0 σ b' R B g w n) R (crM s b x B R n) (kcV σ x b' R B g w n) :=
    rounds (q := fun r => cn (σ (5010 + r) 0)) (W := crU s b x B n (b + 3)) hR5 hB6 hb (fun r hr => T.rg r (by omega) |>.2) (fun j hj => ⟨by rw [(U.wi j hj).1]; exact (U.wi j hj).2, (U.wi j hj).1.symm⟩) (fun r hr => by
      rw [er _ (by omega), (T.rg r (by omega)).1]
      exact (T.rg r (by omega)).2.1) (lw2 _ (by omega)) (fun j hj => by
      rw [k2, e2]
      exact Q.he j hj) (fun j h1 h2 => by
      rw [e2]
      exact Q.hz j h1 h2) R (Nat.le_refl _)
  have mr : ∀ a, a < 2000 → crM s b x B R n a = s a := fun a ha => by rw [I.rows _ (by omega), er a ha]
  have ht : ∀ r, r < R → (f_together 6 (crM s b x B R n (b + 2)) r ≤ crM s b x B R n 1010 r ↔ ¬ cn (σ (5010 + r) 0) < hsum (kcV σ x b' R B g w n).1 (b' + 2) r B) := fun r hr => by
    have h30 := hsum_30 (s := (kcV σ x b' R B g w n).1) (a := b' + 2) (r := r) hB6
    have q5 := (T.rg r (by omega)).2
    have q6 := q5.2
    have es : nsum (fun i => dgt (crM s b x B R n (b + 2) i) r) B = hsum (kcV σ x b' R B g w n).1 (b' + 2) r B := nsum_cg fun i hi => by
      (try dsimp only)
      rw [(I.he i hi).1]
    have k := nle (a := hsum (kcV σ x b' R B g w n).1 (b' + 2) r B) (b := cn (σ (5010 + r) 0)) (by omega) (by omega)
    rw [← q5.1] at k
    rw [together_n (by omega) hB6 (fun i hi => by rw [(I.he i hi).1]; exact (I.he i hi).2) I.z, es, mr 1010 (by omega), (T.rg r (by omega)).1]
    exact k.trans (by omega)
  have J : RJ b x (fun r => cn (σ (5010 + r) 0) < hsum (kcV σ x b' R B g w n).1 (b' + 2) r B) (crM s b x B R n) R (x_raisePrices_5 (crM s b x B R n) b x R (crM s b x B R n, 0)) := raised hb ht R (Nat.le_refl _)
  have fl : f_raisePrices (crM s b x B R n) b x R = 0 ↔ (kcV σ x b' R B g w n).2 = 0 := by
    refine J.fl.trans (Iff.trans ?_ I.fl.symm)
    exact ⟨fun h r hr => Nat.le_of_not_lt (h r hr), fun h r hr => Nat.not_lt_of_le (h r hr)⟩
  have k0p : kc0 σ b' R B g w n (b' + 1) = σ (b' + 1) := kc0_row (by omega)
  have mp : crM s b x B R n (b + 1) = s (b + 1) := by rw [I.rows _ (by omega), lw2 _ (by omega), U.rc _ (by omega) (by omega), crL_row (by omega)]
  have mk : ∀ a, a ≠ b' + 1 → a ≠ b' + 2 → a ≠ b' + 3 → a ≠ b' + 5 → a ≠ b' → a ≠ b' + 100 + n → a ≠ b' + 200 + n → a ≠ b' + 500 + g → a ≠ b' + 500 + (g + 1) → a ≠ b' + 700 + (w + 1) → g_Kclose σ x b' R B g w n a = σ a := fun a h1 h2 h3 h4 h5 h6 h7 h8 h9 h10 => by
    rw [Kclose_eq, kcF_row ⟨h5, h7, h9, h10⟩, I.rowsM _ h2 h1, kc0_row ⟨h8, h4, h3, h5, h6⟩]
  have cc : ∀ a, a = b + 5 ∨ (∃ k, k < n ∧ (a = b + 101 + k ∨ a = b + 301 + k)) → g_closeRound s b x B R n a = s a := fun a ha => fr_closeRound (by
    rcases ha with ha | ⟨k, hk, ha | ha⟩ <;> omega)
  refine ⟨⟨?_, fun r hr => ?_, fun r h1 h2 => ?_, fun j hj => ?_, fun j h1 h2 => ?_, fun j hj => ?_, (fun j h1 h2 => by rw [closeRound_eq h60, crF_w h2]; exact I.z j h1 h2), fun j hj => ?_, fun j hj => ?_, fun j hj => ?_, fun j hj => ?_, fun k hk => ?_, fun k hk j hj => ?_⟩, ?_⟩
  · rw [closeRound_eq h60, crF_c]
  · rw [closeRound_eq h60, crF_p, Kclose_eq, kcF_row (by omega), I.pr r hr, k0p]
    show (x_raisePrices_5 (crM s b x B R n) b x R (crM s b x B R n, 0)).1 (b + 1) r = _
    have := J.pr r hr
    rw [mp, Q.p r hr] at this
    by_cases c : cn (σ (5010 + r) 0) < hsum (kcV σ x b' R B g w n).1 (b' + 2) r B
    · rw [if_pos c]
      exact this.1 c
    · rw [if_neg c]
      exact this.2 c
  · rw [closeRound_eq h60, crF_p]
    show (x_raisePrices_5 (crM s b x B R n) b x R (crM s b x B R n, 0)).1 (b + 1) r = _
    rw [J.pz r h1, mp]
    exact Q.pz r h1 h2
  · rw [closeRound_eq h60, crF_row (by omega), Kclose_eq, kcF_row (by omega)]
    exact I.he j hj
  · rw [closeRound_eq h60, crF_row (by omega)]
    exact I.z j h1 h2
  · rw [closeRound_eq h60, crF_w (by omega), Kclose_eq, kcF_wish hg hn]
    exact I.he j hj
  · rw [closeRound_eq h60, crF_row (by omega), I.rows _ (by omega), Kclose_eq, kcF_row (by omega), I.rowsM _ (by omega) (by omega)]
    refine (lw1 j hj).trans ?_
    unfold kc0
    rw [u2_ne (by omega), uR_ne (by omega)]
  · rw [cc _ (.inl rfl), mk _ (by omega) (by omega) (by omega) (by omega) (by omega) (by omega) (by omega) (by omega) (by omega) (by omega)]
    exact Q.wv j hj
  · rw [closeRound_eq h60, crF_row (by omega), I.rows _ (by omega), lw2 _ (by omega), U.co j hj, Kclose_eq, kcF_row (by omega), I.rowsM _ (by omega) (by omega)]
    unfold kc0
    rw [u2_ne (by omega), uR_ne (by omega), lw3 _ (by omega)]
  · rw [waived0 (by rw [closeRound_eq h60, crF_m]), Kclose_waived]
  · by_cases e : k = n
    · rw [e]
      have ec : ∀ r, r < 5 → g_closeRound s b x B R n (b + 101 + n) r = s (b + 1) r := fun r hr => by
        rw [closeRound_eq h60, crF_row (by omega), I.rows _ (by omega), lw2 _ (by omega), U.rc _ (by omega) (by omega), crL_p hn hr]
      have em : g_Kclose σ x b' R B g w n (b' + 100 + n) = σ (b' + 1) := by
        rw [Kclose_eq, kcF_row (by omega), I.rowsM _ (by omega) (by omega), kc0_log]
      rw [em]
      exact ⟨fun r hr => by rw [ec r (by omega)]; exact Q.p r hr, fun r h1 h2 => by rw [ec r h2]; exact Q.pz r h1 h2⟩
    · rw [cc _ (.inr ⟨k, by omega, .inl rfl⟩), mk _ (by omega) (by omega) (by omega) (by omega) (by omega) (by omega) (by omega) (by omega) (by omega) (by omega)]
      exact Q.lp k (by omega)
  · by_cases e : k = n
    · rw [e, closeRound_eq h60, crF_l (by omega), Kclose_eq, kcF_log hg hn]
      exact I.he j hj
    · rw [cc _ (.inr ⟨k, by omega, .inr rfl⟩), mk _ (by omega) (by omega) (by omega) (by omega) (by omega) (by omega) (by omega) (by omega) (by omega) (by omega)]
      exact Q.lh k (by omega) j hj
  · rw [closeRound_f h60, Kclose_eq, kcF_over]
    by_cases c : (kcV σ x b' R B g w n).2 = 0
    · rw [if_pos c, if_pos (fl.mpr c)]
    · rw [if_neg c, if_neg (fun z => c (fl.mp z))]
end
end
section
/-! ===== the clock of both sides ===== -/
/-- the log -/
def LQ (τ σ : XS9) : Prop := (∀ k, k < mK τ → σ 2007 k = τ (5200 + k) 0) ∧ (∀ k, k < mK τ → ∀ j, j < mB τ → ((σ 2008 k &&& (1 <<< ((nI j) &&& 31))) = 0 ↔ τ (6300 + k) j = 0)) ∧ (∀ k, k < mK τ → ∀ r, r < mR τ → σ (2101 + k) r = τ (6000 + k) r) ∧ (∀ k, k < mK τ → ∀ j, j < mB τ → σ (2201 + k) j = τ (6100 + k) j) ∧ (∀ k, k < mK τ → ∀ j, j < mB τ → σ (2301 + k) j = τ (6200 + k) j)
theorem LQ.t {τ σ : XS9} (h : LQ τ σ) : ∀ k, k < mK τ → σ 2007 k = τ (5200 + k) 0 := h.1
theorem LQ.m {τ σ : XS9} (h : LQ τ σ) : ∀ k, k < mK τ → ∀ j, j < mB τ → ((σ 2008 k &&& (1 <<< ((nI j) &&& 31))) = 0 ↔ τ (6300 + k) j = 0) := h.2.1
theorem LQ.p {τ σ : XS9} (h : LQ τ σ) : ∀ k, k < mK τ → ∀ r, r < mR τ → σ (2101 + k) r = τ (6000 + k) r := h.2.2.1
theorem LQ.w {τ σ : XS9} (h : LQ τ σ) : ∀ k, k < mK τ → ∀ j, j < mB τ → σ (2201 + k) j = τ (6100 + k) j := h.2.2.2.1
theorem LQ.h {τ σ : XS9} (h : LQ τ σ) : ∀ k, k < mK τ → ∀ j, j < mB τ → σ (2301 + k) j = τ (6200 + k) j := h.2.2.2.2
/-- before the opening -/
def OQ (τ σ : XS9) : Prop := (∀ r, r < 5 → σ 2001 r = σ 1012 r) ∧ (∀ j, j < 6 → σ 2004 j = σ 1015 j) ∧ (∀ j, j < 6 → σ 2002 j = 0 ∧ σ 2003 j = 0 ∧ σ 2006 j = 0) ∧ (∀ j, j < mB τ → σ 2005 j = 2) ∧ (σ 2000 12 = 0)
theorem OQ.p {τ σ : XS9} (h : OQ τ σ) : ∀ r, r < 5 → σ 2001 r = σ 1012 r := h.1
theorem OQ.e {τ σ : XS9} (h : OQ τ σ) : ∀ j, j < 6 → σ 2004 j = σ 1015 j := h.2.1
theorem OQ.h {τ σ : XS9} (h : OQ τ σ) : ∀ j, j < 6 → σ 2002 j = 0 ∧ σ 2003 j = 0 ∧ σ 2006 j = 0 := h.2.2.1
theorem OQ.w {τ σ : XS9} (h : OQ τ σ) : ∀ j, j < mB τ → σ 2005 j = 2 := h.2.2.2.1
theorem OQ.m {τ σ : XS9} (h : OQ τ σ) : σ 2000 12 = 0 := h.2.2.2.2
def RC (τ σ : XS9) : Prop := (σ 1000 7 = τ 5000 1) ∧ (bd 3 (σ 1000 7)) ∧ (σ 1000 8 = τ 5000 4) ∧ (σ 2000 9 = τ 5003 900) ∧ (¬ τ 5000 1 = 0 → KQ 2000 7000 (mR τ) (mB τ) (mg τ) (mw τ) (mn τ) σ τ) ∧ (τ 5000 1 = 0 → OQ τ σ) ∧ (τ 7000 25 = 0 ↔ τ 5000 1 = 0) ∧ (LQ τ σ)
theorem RC.st {τ σ : XS9} (h : RC τ σ) : σ 1000 7 = τ 5000 1 := h.1
theorem RC.sb {τ σ : XS9} (h : RC τ σ) : bd 3 (σ 1000 7) := h.2.1
theorem RC.stp {τ σ : XS9} (h : RC τ σ) : σ 1000 8 = τ 5000 4 := h.2.2.1
theorem RC.k {τ σ : XS9} (h : RC τ σ) : σ 2000 9 = τ 5003 900 := h.2.2.2.1
theorem RC.on {τ σ : XS9} (h : RC τ σ) : ¬ τ 5000 1 = 0 → KQ 2000 7000 (mR τ) (mB τ) (mg τ) (mw τ) (mn τ) σ τ := h.2.2.2.2.1
theorem RC.on1 {τ σ : XS9} (h : RC τ σ) (e : τ 5000 1 = 1) : KQ 2000 7000 (mR τ) (mB τ) (mg τ) (mw τ) (mn τ) σ τ := h.on (fun z => absurd (e.symm.trans z) (by decide))
theorem RC.off {τ σ : XS9} (h : RC τ σ) : τ 5000 1 = 0 → OQ τ σ := h.2.2.2.2.2.1
theorem RC.fl {τ σ : XS9} (h : RC τ σ) : τ 7000 25 = 0 ↔ τ 5000 1 = 0 := h.2.2.2.2.2.2.1
theorem RC.lg {τ σ : XS9} (h : RC τ σ) : LQ τ σ := h.2.2.2.2.2.2.2
def kc (q i : Nat) : Prop := (q = 1000 ∧ (i = 7 ∨ i = 8)) ∨ (2000 ≤ q ∧ q ≤ 2999) ∨ q = 1012 ∨ q = 1015
def VK (σ σ2 : XS9) : Prop := ∀ q i, kc q i → σ2 q i = σ q i
theorem VK.rfl' {σ : XS9} : VK σ σ := fun _ _ _ => rfl
theorem VK.trans {σ σ2 σ3 : XS9} (a : VK σ σ2) (b : VK σ2 σ3) : VK σ σ3 := fun q i h => (b q i h).trans (a q i h)
theorem VK.set {σ : XS9} {q i : Nat} {x : Int32} (hq : ¬ kc q i) : VK σ (u2 σ q i x) := fun q9 i9 hk => u2_o (fun a b => hq (by rw [← a, ← b]; exact hk))
theorem VK.rows {σ σ2 : XS9} (h : ∀ q, (q = 1000 ∨ (2000 ≤ q ∧ q ≤ 2999) ∨ q = 1012 ∨ q = 1015) → σ2 q = σ q) : VK σ σ2 := fun q i hk => by rw [h q (by unfold kc at hk; omega)]
def km (q i : Nat) : Prop := (q = 5000 ∧ (i = 1 ∨ i = 4)) ∨ ((q = 5001 ∨ q = 5002 ∨ q = 5003) ∧ i = 900) ∨ (5200 ≤ q ∧ q < 5300) ∨ (6000 ≤ q ∧ q < 8000)
def MK (τ τ2 : XS9) : Prop := ∀ q i, km q i → τ2 q i = τ q i
section
variable {τ τ2 σ σ2 : XS9} {R B C K g w : Nat} {gr cnt sp pk tn rg : Nat → Nat} {cd : Nat → Nat → Nat}
theorem MK.rfl' : MK τ τ := fun _ _ _ => rfl
theorem MK.trans {τ3 : XS9} (a : MK τ τ2) (b : MK τ2 τ3) : MK τ τ3 := fun q i h => (b q i h).trans (a q i h)
theorem MK.set {q i : Nat} {x : Int32} (hq : ¬ km q i) : MK τ (u2 τ q i x) := fun q9 i9 hk => u2_o (fun a b => hq (by rw [← a, ← b]; exact hk))
theorem MK.row {q : Nat} {f : Nat → Int32} (hq : ∀ i, ¬ km q i) : MK τ (uR τ q f) := fun q9 i9 hk => by
  by_cases e : q9 = q
  · rw [e] at hk
    exact absurd hk (hq i9)
  · rw [uR_ne e]
theorem nkm {i : Nat} (h : i ≠ 1 ∧ i ≠ 4) : ¬ km 5000 i := fun k => by unfold km at k; omega
theorem MK.s0 {x : Int32} : MK τ (u2 τ 5000 0 x) := MK.set (nkm (by decide))
theorem MK.s00 {x : Int32} : MK τ (u2 (u2 τ 5000 0 0) 5000 0 x) := MK.s0.trans MK.s0
theorem MK.hi (e : ∀ q, q < 8000 → τ2 q = τ q) : MK τ τ2 := fun q i hk => by rw [e q (by unfold km at hk; omega)]
theorem KQ.of {b b' R B g w n : Nat} {s s2 k k2 : XS9} (h : KQ b b' R B g w n s k) (hn : n ≤ 60) (hg : g < 200) (hw : w < 200) (ec : ∀ q, b ≤ q → q ≤ b + 999 → s2 q = s q) (em : ∀ q, b' ≤ q → q ≤ b' + 999 → k2 q = k q) : KQ b b' R B g w n s2 k2 := by
  refine ⟨?_, fun r hr => ?_, fun r h1 h2 => ?_, fun j hj => ?_, fun j h1 h2 => ?_, fun j hj => ?_, (fun j h1 h2 => by rw [ec _ (by omega) (by omega)]; exact h.wz j h1 h2), fun j hj => ?_, fun j hj => ?_, fun j hj => ?_, fun j hj => ?_, fun k hk => ?_, fun k hk => ?_⟩
  · rw [ec _ (by omega) (by omega)]; exact h.c
  · rw [ec _ (by omega) (by omega), em _ (by omega) (by omega)]; exact h.p r hr
  · rw [ec _ (by omega) (by omega)]; exact h.pz r h1 h2
  · rw [ec _ (by omega) (by omega), em _ (by omega) (by omega)]; exact h.he j hj
  · rw [ec _ (by omega) (by omega)]; exact h.hz j h1 h2
  · rw [ec _ (by omega) (by omega), em _ (by omega) (by omega)]; exact h.wi j hj
  · rw [ec _ (by omega) (by omega), em _ (by omega) (by omega)]; exact h.el j hj
  · rw [ec _ (by omega) (by omega), em _ (by omega) (by omega)]; exact h.wv j hj
  · rw [ec _ (by omega) (by omega), em _ (by omega) (by omega)]; exact h.co j hj
  · have : f_hasWaived s2 b j = f_hasWaived s b j := by
      unfold f_hasWaived
      rw [ec _ (by omega) (by omega)]
    rw [this, em _ (by omega) (by omega)]
    exact h.ma j hj
  · rw [ec _ (by omega) (by omega), em _ (by omega) (by omega)]; exact h.lp k hk
  · rw [ec _ (by omega) (by omega), em _ (by omega) (by omega)]; exact h.lh k hk
theorem RC.kept0 (h : RC τ σ) (K60 : mK τ ≤ 60) (hb : mn τ ≤ 60 ∧ mg τ < 200 ∧ mw τ < 200) (m : MK τ τ2) (c : VK σ σ2) : RC τ2 σ2 := by
  have cr : ∀ q, 2000 ≤ q → q ≤ 2999 → σ2 q = σ q := fun q h1 h2 => funext fun i => c q i (by unfold kc; omega)
  have mr : ∀ q, 6000 ≤ q → q < 8000 → τ2 q = τ q := fun q h1 h2 => funext fun i => m q i (by unfold km; omega)
  have mr5 : ∀ q, 5200 ≤ q → q < 5300 → τ2 q = τ q := fun q h1 h2 => funext fun i => m q i (by unfold km; omega)
  have eR : mR τ2 = mR τ := congrArg cn (m 5001 900 (by unfold km; omega))
  have eB : mB τ2 = mB τ := congrArg cn (m 5002 900 (by unfold km; omega))
  have eK : mK τ2 = mK τ := congrArg cn (m 5003 900 (by unfold km; omega))
  have eg : mg τ2 = mg τ := congrArg cn (m 7000 23 (by unfold km; omega))
  have ew : mw τ2 = mw τ := congrArg cn (m 7000 24 (by unfold km; omega))
  have en : mn τ2 = mn τ := congrArg cn (m 7000 21 (by unfold km; omega))
  have es : τ2 5000 1 = τ 5000 1 := m _ _ (by unfold km; omega)
  have ec : σ2 1000 7 = σ 1000 7 := c _ _ (by unfold kc; omega)
  refine ⟨?_, ?_, ?_, ?_, fun e => ?_, fun e => ?_, (by rw [m 7000 25 (by unfold km; omega), es]; exact h.fl), ⟨fun k hk => ?_, fun k hk j hj => ?_, fun k hk r hr => ?_, fun k hk j hj => ?_, fun k hk j hj => ?_⟩⟩
  · rw [ec, es]; exact h.st
  · rw [ec]; exact h.sb
  · rw [c _ _ (by unfold kc; omega), m _ _ (by unfold km; omega)]; exact h.stp
  · rw [c _ _ (by unfold kc; omega), m _ _ (by unfold km; omega)]; exact h.k
  · rw [es] at e
    rw [eR, eB, eg, ew, en]
    exact (h.on e).of hb.1 hb.2.1 hb.2.2 (fun q a b => cr q (by omega) (by omega)) (fun q a b => mr q (by omega) (by omega))
  · rw [es] at e
    have o := h.off e
    refine ⟨fun r hr => ?_, fun j hj => ?_, fun j hj => ?_, fun j hj => ?_, ?_⟩
    · rw [cr _ (by omega) (by omega), c _ _ (by unfold kc; omega)]; exact o.p r hr
    · rw [cr _ (by omega) (by omega), c _ _ (by unfold kc; omega)]; exact o.e j hj
    · rw [cr _ (by omega) (by omega), cr _ (by omega) (by omega), cr _ (by omega) (by omega)]; exact o.h j hj
    · rw [eB] at hj
      rw [cr _ (by omega) (by omega)]; exact o.w j hj
    · rw [cr _ (by omega) (by omega)]; exact o.m
  · rw [eK] at hk
    rw [cr _ (by omega) (by omega), mr5 _ (by omega) (by omega)]; exact h.lg.t k hk
  · rw [eK] at hk
    rw [eB] at hj
    rw [cr _ (by omega) (by omega), mr _ (by omega) (by omega)]; exact h.lg.m k hk j hj
  · rw [eK] at hk
    rw [eR] at hr
    rw [cr _ (by omega) (by omega), mr _ (by omega) (by omega)]; exact h.lg.p k hk r hr
  · rw [eK] at hk
    rw [eB] at hj
    rw [cr _ (by omega) (by omega), mr _ (by omega) (by omega)]; exact h.lg.w k hk j hj
  · rw [eK] at hk
    rw [eB] at hj
    rw [cr _ (by omega) (by omega), mr _ (by omega) (by omega)]; exact h.lg.h k hk j hj
theorem RC.kept (h : RC τ σ) (r : JR τ) (m : MK τ τ2) (c : VK σ σ2) : RC τ2 σ2 := h.kept0 r.hK.2 ⟨r.hn.2.1, r.hg.2, r.hw.2⟩ m c
/-! what keeps it: the class -/
theorem nkc {q i : Nat} (h : q < 2000 ∧ q ≠ 1000 ∧ q ≠ 1012 ∧ q ≠ 1015) : ¬ kc q i := fun k => by unfold kc at k; omega
theorem VK.border {x y : Int32} : VK σ (g_border σ x y R) := by
  unfold g_border
  (repeat' split) <;> first | with_reducible exact VK.rfl' | (unfold g_addBorder; exact (VK.set (nkc (by omega))).trans (VK.set (nkc (by omega)))) | exact VK.rfl'
theorem VK.rules {x y : Int32} : VK σ (g_rules σ x y) := by
  unfold g_rules
  (repeat' split) <;> first | with_reducible exact VK.rfl' | exact (VK.set (nkc (by omega))).trans (VK.set (nkc (by omega))) | exact VK.rfl'
theorem VK.knock : VK σ (g_knock σ) := VK.set (fun k => by unfold kc at k; omega)
theorem VK.station {x y : Int32} : VK σ (g_station σ x y R C) := by
  unfold g_station
  (repeat' split) <;> first | with_reducible exact VK.rfl' | (unfold g_add; exact ((VK.set (nkc (by omega))).trans (VK.set (nkc (by omega)))).trans (VK.set (nkc (by omega)))) | exact VK.rfl'
theorem VK.ask {x y : Int32} : VK σ (g_ask σ x y C) := by
  unfold g_ask
  (repeat' split) <;> first | with_reducible exact VK.rfl' | exact VK.set (nkc (by omega)) | exact VK.rfl'
theorem VK.packs {x y : Int32} : VK σ (g_packs σ x y C rg) := by
  unfold g_packs
  (repeat' split) <;> first | with_reducible exact VK.rfl' | exact VK.rows (fun q hq => fr_packM (by omega)) | exact VK.rfl'
theorem VK.channel {x y z : Int32} : VK σ (g_channel σ x y z C rg) := by
  unfold g_channel
  (repeat' split) <;> first | with_reducible exact VK.rfl' | exact VK.rows (fun q hq => fr_packM (by omega)) | exact VK.rfl'
theorem VK.clear {x : Int32} : VK σ (g_clear σ x C rg) := by
  unfold g_clear
  (repeat' split) <;> first | with_reducible exact VK.rfl' | exact VK.rows (fun q hq => fr_cheapest (by omega)) | exact VK.rfl'
theorem VK.anew {x y z v : Int32} (hK60 : K ≤ 60) : VK σ (g_anew σ x y z v R B K) := by
  unfold g_anew
  (repeat' split) <;> first | with_reducible exact VK.rfl' | exact VK.rows (fun q hq => fr_runLog hK60 (by omega)) | exact VK.rfl'
theorem VK.isSound (hK60 : K ≤ 60) : VK σ (g_isSound σ R B w K) := VK.rows (fun q hq => fr_runLog hK60 (by omega))
theorem VK.digest (hK60 : K ≤ 60) : VK σ (g_digest σ K B R C w rg) := by
  unfold g_digest g_dgS
  split
  · exact ((VK.rows (fun q hq => fr_cheapest (by omega))).trans (VK.rows (fun q hq => fr_cheapest (by omega)))).trans (VK.isSound hK60)
  · exact VK.isSound hK60
theorem VK.find : VK σ (g_find σ) := VK.rows (fun q hq => fr_find (by omega))
theorem VK.addM {i : Nat} {x y : Int32} (hi : i < 6) (hg : ∀ i, i < 6 → gr i < 4) (hc : cnt i ≤ 6) : VK σ (g_addM σ i x y R B gr cnt) := VK.rows (fun q hq => fr_addM ⟨hi, by omega, hg⟩ hc)
theorem VK.offer {x y z : Int32} (hB6 : B ≤ 6) (hg : ∀ i, i < 6 → gr i < 4) (hc : ∀ i, i < 6 → cnt i ≤ 6) : VK σ (g_offer σ x y z R B gr cnt) := by
  unfold g_offer
  split
  · rename_i hx
    have hx6 : cn x < 6 := by have := hx.2; omega
    split
    · exact VK.rfl'
    · split
      · split
        · split
          · exact VK.rfl'
          · split
            · exact VK.rfl'
            · exact (VK.addM hx6 hg (hc _ hx6)).trans VK.find
        · exact VK.rfl'
      · exact VK.rfl'
  · exact VK.rfl'
theorem VK.give (hR5 : R ≤ 5) : VK σ (g_give σ R sp) := VK.rows (fun q hq => fr_give hR5 ⟨by omega, by omega⟩)
theorem VK.leaveOut {i : Nat} : VK σ (g_leaveOut σ i) := VK.rows (fun q hq => fr_leaveOut (by omega))
theorem VK.fail {x : Int32} (hR5 : R ≤ 5) : VK σ (g_fail σ x R B sp) := by
  unfold g_fail
  (repeat' split) <;> first | with_reducible exact VK.rfl' | exact (((VK.set (fun k => by unfold kc at k; omega)).trans VK.leaveOut).trans VK.find).trans (VK.give hR5) | exact VK.rfl'
/-! the reference -/
theorem MK.border {x y : Int32} (hR5 : R ≤ 5) : MK τ (g_Mborder τ x y R) := by
  unfold g_Mborder
  split
  · rename_i hx
    have hx2 := hx.2
    split
    · rename_i hy
      have hy2 := hy.2
      (repeat' split) <;> first | with_reducible exact MK.s00 | exact (MK.s0.trans (MK.set (fun k => by unfold km at k; omega))).trans (MK.set (fun k => by unfold km at k; omega)) | exact MK.s00
    · exact MK.s00
  · exact MK.s00
theorem MK.rules {x y : Int32} : MK τ (g_Mrules τ x y) := by
  unfold g_Mrules
  (repeat' split) <;> first | with_reducible exact MK.s00 | exact (MK.s0.trans (MK.set (nkm (by decide)))).trans (MK.set (nkm (by decide))) | exact MK.s00
theorem MK.knock : MK τ (g_Mknock τ) := MK.s0.trans (MK.set (nkm (by decide)))
theorem MK.station {x y : Int32} : MK τ (g_Mstation τ x y R C) := by
  unfold g_Mstation g_addI
  (repeat' split) <;> first | with_reducible exact MK.s00 | exact (((MK.s0.trans (MK.set (fun k => by unfold km at k; omega))).trans (MK.set (fun k => by unfold km at k; omega))).trans (MK.set (fun k => by unfold km at k; omega))).trans (MK.set (fun k => by unfold km at k; omega)) | exact MK.s00
theorem MK.ask {x y : Int32} : MK τ (g_Mask τ x y C) := by
  unfold g_Mask g_setS
  (repeat' split) <;> first | with_reducible exact MK.s00 | exact (MK.s0.trans (MK.set (fun k => by unfold km at k; omega))).trans (MK.set (fun k => by unfold km at k; omega)) | exact MK.s00
theorem MK.madd {j p : Nat} {c a : Int32} (hj : j < 6) : MK τ (g_Madd τ j p c a) := by
  unfold g_Madd g_addI
  exact (((MK.set (fun k => by unfold km at k; omega)).trans (MK.set (fun k => by unfold km at k; omega))).trans (MK.set (fun k => by unfold km at k; omega))).trans (MK.set (fun k => by unfold km at k; omega))
theorem MK.offer {x y v : Int32} (hB6 : B ≤ 6) : MK τ (g_Moffer τ x y v R B pk) := by
  unfold g_Moffer
  split
  · rename_i hx
    have hx2 := hx.2
    (repeat' split) <;> first | with_reducible exact MK.s00 | exact MK.s0.trans (MK.madd (by omega)) | exact MK.s00
  · exact MK.s00
theorem MK.cinit : MK τ (u2 (g_Cinit τ R B pk gr cd) 9000 20 0) := MK.hi fun q hq => by rw [u2_ne (by omega), fr_Cinit (by omega)]
theorem MK.cpay {y : Nat} (hB6 : B ≤ 6) : MK τ (u2 (u2 (g_Cpay (g_Cinit τ R B pk gr cd) y 20000 B) 9000 20 0) 20000 20 0) := MK.hi fun q hq => by rw [u2_ne (by omega), u2_ne (by omega), fr_Cpay ⟨by omega, hB6⟩, fr_Cinit (by omega)]
theorem MK.keep {wy : Nat} (hB6 : B ≤ 6) : MK τ (g_Mkeep τ R B pk gr cd wy sp) := fun q i hk => by rw [fr_Mkeep ⟨by unfold km at hk; omega, by unfold km at hk; omega, by unfold km at hk; omega, hB6⟩]
theorem MK.fail {x : Int32} {wy : Nat} (hB6 : B ≤ 6) : MK τ (g_Mfail τ x R B pk gr cd wy sp) := by
  unfold g_Mfail
  split
  · rename_i hx
    have hx2 := hx.2
    (repeat' split) <;> first | with_reducible exact MK.s00 | exact ((MK.s0.trans (MK.set (nkm (by decide)))).trans (MK.set (fun k => by unfold km at k; omega))).trans (MK.keep hB6) | exact MK.s00
  · exact MK.s00
theorem MK.packs {x y : Int32} : MK τ (g_Mpacks τ x y R C rg) := by
  unfold g_Mpacks
  split
  · split
    · rename_i hy
      have hc := cn6 hy
      exact MK.s0.trans (MK.hi fun q hq => by rw [u2_ne (by omega), fr_Mcp ⟨by omega, hc⟩, uR_ne (by omega)])
    · exact MK.s0
  · exact MK.s0
theorem MK.clear {x : Int32} : MK τ (g_Mclear τ x R C rg) := by
  unfold g_Mclear
  split
  · rename_i hy
    exact MK.s0.trans (MK.hi fun q hq => fr_MclearNow ⟨by omega, cn6 hy⟩)
  · exact MK.s00
theorem MK.channel {x y v : Int32} : MK τ (g_Mchannel τ x y v R C rg) := by
  rcases chan_mem (τ := τ) (x := x) (y := y) (v := v) (R := R) (C := C) (rg := rg) with ⟨t, e⟩ | ⟨e1, e2⟩
  · rw [e]
    exact MK.s00
  · exact MK.s0.trans (MK.hi fun q hq => e1 q (by omega))
/-! only the heads change -/
theorem RC.mid (h : RC τ σ) (hb : mn τ ≤ 60 ∧ mg τ < 200 ∧ mw τ < 200) (mr : ∀ q, q ≠ 5000 → τ2 q = τ q) (cr : ∀ q, q ≠ 1000 → σ2 q = σ q) (st : σ2 1000 7 = τ2 5000 1) (sb : bd 3 (σ2 1000 7)) (stp : σ2 1000 8 = τ2 5000 4) (on : ¬ τ2 5000 1 = 0 → ¬ τ 5000 1 = 0) (off : τ2 5000 1 = 0 → τ 5000 1 = 0) : RC τ2 σ2 := by
  have eR : mR τ2 = mR τ := by
    show cn (τ2 5001 900) = _
    rw [mr _ (by decide)]
  have eB : mB τ2 = mB τ := by
    show cn (τ2 5002 900) = _
    rw [mr _ (by decide)]
  have eK : mK τ2 = mK τ := by
    show cn (τ2 5003 900) = _
    rw [mr _ (by decide)]
  have eg : mg τ2 = mg τ := by
    show cn (τ2 7000 23) = _
    rw [mr _ (by decide)]
  have ew : mw τ2 = mw τ := by
    show cn (τ2 7000 24) = _
    rw [mr _ (by decide)]
  have en : mn τ2 = mn τ := by
    show cn (τ2 7000 21) = _
    rw [mr _ (by decide)]
  refine ⟨st, sb, stp, ?_, fun e => ?_, fun e => ?_, (by rw [mr 7000 (by decide)]; exact h.fl.trans ⟨fun e => Classical.byContradiction fun z => on z e, off⟩), ⟨fun k hk => ?_, fun k hk j hj => ?_, fun k hk r hr => ?_, fun k hk j hj => ?_, fun k hk j hj => ?_⟩⟩
  · rw [cr _ (by decide), mr _ (by decide)]
    exact h.k
  · rw [eR, eB, eg, ew, en]
    exact (h.on (on e)).of hb.1 hb.2.1 hb.2.2 (fun q a b => cr q (by omega)) (fun q a b => mr q (by omega))
  · have o := h.off (off e)
    refine ⟨fun r hr => ?_, fun j hj => ?_, fun j hj => ?_, fun j hj => ?_, ?_⟩
    · rw [cr _ (by decide), cr _ (by decide)]; exact o.p r hr
    · rw [cr _ (by decide), cr _ (by decide)]; exact o.e j hj
    · rw [cr _ (by decide), cr _ (by decide), cr _ (by decide)]; exact o.h j hj
    · rw [eB] at hj
      rw [cr _ (by decide)]; exact o.w j hj
    · rw [cr _ (by decide)]; exact o.m
  · rw [eK] at hk
    rw [cr _ (by omega), mr _ (by omega)]; exact h.lg.t k hk
  · rw [eK] at hk
    rw [eB] at hj
    rw [cr _ (by omega), mr _ (by omega)]; exact h.lg.m k hk j hj
  · rw [eK] at hk
    rw [eR] at hr
    rw [cr _ (by omega), mr _ (by omega)]; exact h.lg.p k hk r hr
  · rw [eK] at hk
    rw [eB] at hj
    rw [cr _ (by omega), mr _ (by omega)]; exact h.lg.w k hk j hj
  · rw [eK] at hk
    rw [eB] at hj
    rw [cr _ (by omega), mr _ (by omega)]; exact h.lg.h k hk j hj
theorem RC.settle {x : Int32} {pk gr : Nat → Nat} {cd : Nat → Nat → Nat} {sp sp' : Nat → Nat} (h : RC τ σ) (r : JR τ) (hR5 : R ≤ 5) (hB6 : B ≤ 6) : RC (g_Msettle τ x R B pk gr cd sp) (g_settle σ x R sp') := by
  unfold g_Msettle g_settle
  by_cases c1 : n_bt x 0 2
  · by_cases c2 : σ 1000 7 = 2
    · have c3 : τ 5000 1 = 2 := h.st.symm.trans c2
      rw [if_pos c1, if_pos c3, if_pos c1, if_pos c2]
      have e3 : u2 (u2 (u2 τ 5000 0 0) 5000 1 3) 5000 7 (nI (cn x)) 5000 1 = 3 := by rw [u2_oi (by decide), u2_at]
      have A : RC (u2 (u2 (u2 τ 5000 0 0) 5000 1 3) 5000 7 (nI (cn x))) (u2 (u2 σ 1000 9 x) 1000 7 3) := h.mid ⟨r.hn.2.1, r.hg.2, r.hw.2⟩ (fun q hq => by rw [u2_ne hq, u2_ne hq, u2_ne hq]) (fun q hq => by rw [u2_ne hq, u2_ne hq]) (by rw [e3, u2_at]) (by rw [u2_at]; exact ⟨rfl, by decide⟩) (by
        rw [u2_oi (by decide), u2_oi (by decide), u2_oi (by decide), u2_oi (by decide), u2_oi (by decide)]
        exact h.stp) (fun _ e => absurd (c3.symm.trans e) (by decide)) (fun e => absurd (e3.symm.trans e) (by decide))
      have eK : mK (u2 (u2 (u2 τ 5000 0 0) 5000 1 3) 5000 7 (nI (cn x))) = mK τ := by
        show cn (u2 _ _ _ _ 5003 900) = _
        rw [u2_ne (by decide), u2_ne (by decide), u2_ne (by decide)]
      exact A.kept0 (by rw [eK]; exact r.hK.2) ⟨by
        show cn (u2 _ _ _ _ 7000 21) ≤ 60
        rw [u2_ne (by decide), u2_ne (by decide), u2_ne (by decide)]
        exact r.hn.2.1, by
        show cn (u2 _ _ _ _ 7000 23) < 200
        rw [u2_ne (by decide), u2_ne (by decide), u2_ne (by decide)]
        exact r.hg.2, by
        show cn (u2 _ _ _ _ 7000 24) < 200
        rw [u2_ne (by decide), u2_ne (by decide), u2_ne (by decide)]
        exact r.hw.2⟩ (MK.keep hB6) (VK.give hR5)
    · rw [if_pos c1, if_neg (fun e => c2 (h.st.trans e)), if_pos c1, if_neg c2]
      exact h.kept r MK.s00 VK.rfl'
  · rw [if_neg c1, if_neg c1]
    exact h.kept r MK.s00 VK.rfl'
theorem stage01 {v : Int32} (h : bd 3 v) : v ≤ 1 ↔ (v = 0 ∨ v = 1) := by
  have : ∀ k : Fin 4, nI k.1 ≤ 1 ↔ (nI k.1 = 0 ∨ nI k.1 = 1) := by decide +kernel
  have q := this ⟨cn v, by have := h.2; omega⟩
  rw [← h.1] at q
  exact q
theorem RC.step {x : Int32} (h : RC τ σ) (r : JR τ) : RC (g_Mstep τ x) (g_step σ x) := by
  unfold g_Mstep g_step
  have ok : ∀ y, RC (u2 (u2 τ 5000 0 0) 5000 4 y) (u2 σ 1000 8 y) := fun y => h.mid ⟨r.hn.2.1, r.hg.2, r.hw.2⟩ (fun q hq => by rw [u2_ne hq, u2_ne hq]) (fun q hq => u2_ne hq) (by
    rw [u2_oi (by decide), u2_oi (by decide), u2_oi (by decide)]
    exact h.st) (by
    rw [u2_oi (by decide)]
    exact h.sb) (by rw [u2_at, u2_at]) (fun e => by
    rw [u2_oi (by decide), u2_oi (by decide)] at e
    exact e) (fun e => by
    rw [u2_oi (by decide), u2_oi (by decide)] at e
    exact e)
  by_cases c1 : n_bt x 1 20
  · rw [if_pos c1, if_pos c1]
    by_cases c2 : σ 1000 7 = 0
    · rw [if_pos c2, if_pos (show τ 5000 1 ≤ 1 by rw [← h.st]; exact (stage01 h.sb).mpr (.inl c2))]
      exact ok x
    · by_cases c3 : σ 1000 7 = 1
      · rw [if_neg c2, if_pos c3, if_pos (show τ 5000 1 ≤ 1 by rw [← h.st]; exact (stage01 h.sb).mpr (.inr c3))]
        exact ok x
      · rw [if_neg c2, if_neg c3, if_neg (show ¬ τ 5000 1 ≤ 1 by
          rw [← h.st]
          exact fun z => ((stage01 h.sb).mp z).elim c2 c3)]
        exact h.kept r MK.s00 VK.rfl'
  · rw [if_neg c1, if_neg c1]
    exact h.kept r MK.s00 VK.rfl'
end
end
