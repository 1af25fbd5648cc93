/-! ===== the clock of both sides ===== -/
/-- the log -/
def LQ (τ σ : XS9) : Prop := (∀ k, k < mK τ → σ 2007 k = τ (5200 + k) 0) ∧ (∀ k, k < mK τ → ∀ j, j < mB τ → ((σ 2008 k &&& (1 <<< ((nI j) &&& 31))) = 0 ↔ τ (6300 + k) j = 0)) ∧ (∀ k, k < mK τ → ∀ r, r < mR τ → σ (2101 + k) r = τ (6000 + k) r) ∧ (∀ k, k < mK τ → ∀ j, j < mB τ → σ (2201 + k) j = τ (6100 + k) j) ∧ (∀ k, k < mK τ → ∀ j, j < mB τ → σ (2301 + k) j = τ (6200 + k) j)
theorem LQ.t {τ σ : XS9} (h : LQ τ σ) : ∀ k, k < mK τ → σ 2007 k = τ (5200 + k) 0 := h.1
theorem LQ.m {τ σ : XS9} (h : LQ τ σ) : ∀ k, k < mK τ → ∀ j, j < mB τ → ((σ 2008 k &&& (1 <<< ((nI j) &&& 31))) = 0 ↔ τ (6300 + k) j = 0) := h.2.1
theorem LQ.p {τ σ : XS9} (h : LQ τ σ) : ∀ k, k < mK τ → ∀ r, r < mR τ → σ (2101 + k) r = τ (6000 + k) r := h.2.2.1
theorem LQ.w {τ σ : XS9} (h : LQ τ σ) : ∀ k, k < mK τ → ∀ j, j < mB τ → σ (2201 + k) j = τ (6100 + k) j := h.2.2.2.1
theorem LQ.h {τ σ : XS9} (h : LQ τ σ) : ∀ k, k < mK τ → ∀ j, j < mB τ → σ (2301 + k) j = τ (6200 + k) j := h.2.2.2.2
/-- before the opening -/
def OQ (τ σ : XS9) : Prop := (∀ r, r < 5 → σ 2001 r = σ 1012 r) ∧ (∀ j, j < 6 → σ 2004 j = σ 1015 j) ∧ (∀ j, j < 6 → σ 2002 j = 0 ∧ σ 2003 j = 0 ∧ σ 2006 j = 0) ∧ (∀ j, j < mB τ → σ 2005 j = 2) ∧ (σ 2000 12 = 0)
theorem OQ.p {τ σ : XS9} (h : OQ τ σ) : ∀ r, r < 5 → σ 2001 r = σ 1012 r := h.1
theorem OQ.e {τ σ : XS9} (h : OQ τ σ) : ∀ j, j < 6 → σ 2004 j = σ 1015 j := h.2.1
theorem OQ.h {τ σ : XS9} (h : OQ τ σ) : ∀ j, j < 6 → σ 2002 j = 0 ∧ σ 2003 j = 0 ∧ σ 2006 j = 0 := h.2.2.1
theorem OQ.w {τ σ : XS9} (h : OQ τ σ) : ∀ j, j < mB τ → σ 2005 j = 2 := h.2.2.2.1
theorem OQ.m {τ σ : XS9} (h : OQ τ σ) : σ 2000 12 = 0 := h.2.2.2.2
def RC (τ σ : XS9) : Prop := (σ 1000 7 = τ 5000 1) ∧ (bd 3 (σ 1000 7)) ∧ (σ 1000 8 = τ 5000 4) ∧ (σ 2000 9 = τ 5003 900) ∧ (¬ τ 5000 1 = 0 → KQ 2000 7000 (mR τ) (mB τ) (mg τ) (mw τ) (mn τ) σ τ) ∧ (τ 5000 1 = 0 → OQ τ σ) ∧ (τ 7000 25 = 0 ↔ τ 5000 1 = 0) ∧ (LQ τ σ)
theorem RC.st {τ σ : XS9} (h : RC τ σ) : σ 1000 7 = τ 5000 1 := h.1
theorem RC.sb {τ σ : XS9} (h : RC τ σ) : bd 3 (σ 1000 7) := h.2.1
theorem RC.stp {τ σ : XS9} (h : RC τ σ) : σ 1000 8 = τ 5000 4 := h.2.2.1
theorem RC.k {τ σ : XS9} (h : RC τ σ) : σ 2000 9 = τ 5003 900 := h.2.2.2.1
theorem RC.on {τ σ : XS9} (h : RC τ σ) : ¬ τ 5000 1 = 0 → KQ 2000 7000 (mR τ) (mB τ) (mg τ) (mw τ) (mn τ) σ τ := h.2.2.2.2.1
theorem RC.on1 {τ σ : XS9} (h : RC τ σ) (e : τ 5000 1 = 1) : KQ 2000 7000 (mR τ) (mB τ) (mg τ) (mw τ) (mn τ) σ τ := h.on (fun z => absurd (e.symm.trans z) (by decide))
theorem RC.off {τ σ : XS9} (h : RC τ σ) : τ 5000 1 = 0 → OQ τ σ := h.2.2.2.2.2.1
theorem RC.fl {τ σ : XS9} (h : RC τ σ) : τ 7000 25 = 0 ↔ τ 5000 1 = 0 := h.2.2.2.2.2.2.1
theorem RC.lg {τ σ : XS9} (h : RC τ σ) : LQ τ σ := h.2.2.2.2.2.2.2
def kc (q i : Nat) : Prop := (q = 1000 ∧ (i = 7 ∨ i = 8)) ∨ (2000 ≤ q ∧ q ≤ 2999) ∨ q = 1012 ∨ q = 1015
def VK (σ σ2 : XS9) : Prop := ∀ q i, kc q i → σ2 q i = σ q i
theorem VK.rfl' {σ : XS9} : VK σ σ := fun _ _ _ => rfl
theorem VK.trans {σ σ2 σ3 : XS9} (a : VK σ σ2) (b : VK σ2 σ3) : VK σ σ3 := fun q i h => (b q i h).trans (a q i h)
theorem VK.set {σ : XS9} {q i : Nat} {x : Int32} (hq : ¬ kc q i) : VK σ (u2 σ q i x) := fun q9 i9 hk => u2_o (fun a b => hq (by rw [← a, ← b]; exact hk))
theorem VK.rows {σ σ2 : XS9} (h : ∀ q, (q = 1000 ∨ (2000 ≤ q ∧ q ≤ 2999) ∨ q = 1012 ∨ q = 1015) → σ2 q = σ q) : VK σ σ2 := fun q i hk => by rw [h q (by unfold kc at hk; omega)]
def km (q i : Nat) : Prop := (q = 5000 ∧ (i = 1 ∨ i = 4)) ∨ ((q = 5001 ∨ q = 5002 ∨ q = 5003) ∧ i = 900) ∨ (5200 ≤ q ∧ q < 5300) ∨ (6000 ≤ q ∧ q < 8000)
def MK (τ τ2 : XS9) : Prop := ∀ q i, km q i → τ2 q i = τ q i
section
variable {τ τ2 σ σ2 : XS9} {R B C K g w : Nat} {gr cnt sp pk tn rg : Nat → Nat} {cd : Nat → Nat → Nat}
theorem MK.rfl' : MK τ τ := fun _ _ _ => rfl
theorem MK.trans {τ3 : XS9} (a : MK τ τ2) (b : MK τ2 τ3) : MK τ τ3 := fun q i h => (b q i h).trans (a q i h)
theorem MK.set {q i : Nat} {x : Int32} (hq : ¬ km q i) : MK τ (u2 τ q i x) := fun q9 i9 hk => u2_o (fun a b => hq (by rw [← a, ← b]; exact hk))
theorem MK.row {q : Nat} {f : Nat → Int32} (hq : ∀ i, ¬ km q i) : MK τ (uR τ q f) := fun q9 i9 hk => by
  by_cases e : q9 = q
  · rw [e] at hk
    exact absurd hk (hq i9)
  · rw [uR_ne e]
theorem nkm {i : Nat} (h : i ≠ 1 ∧ i ≠ 4) : ¬ km 5000 i := fun k => by unfold km at k; omega
theorem MK.s0 {x : Int32} : MK τ (u2 τ 5000 0 x) := MK.set (nkm (by decide))
theorem MK.s00 {x : Int32} : MK τ (u2 (u2 τ 5000 0 0) 5000 0 x) := MK.s0.trans MK.s0
theorem MK.hi (e : ∀ q, q < 8000 → τ2 q = τ q) : MK τ τ2 := fun q i hk => by rw [e q (by unfold km at hk; omega)]
theorem KQ.of {b b' R B g w n : Nat} {s s2 k k2 : XS9} (h : KQ b b' R B g w n s k) (hn : n ≤ 60) (hg : g < 200) (hw : w < 200) (ec : ∀ q, b ≤ q → q ≤ b + 999 → s2 q = s q) (em : ∀ q, b' ≤ q → q ≤ b' + 999 → k2 q = k q) : KQ b b' R B g w n s2 k2 := by
  refine ⟨?_, fun r hr => ?_, fun r h1 h2 => ?_, fun j hj => ?_, fun j h1 h2 => ?_, fun j hj => ?_, (fun j h1 h2 => by rw [ec _ (by omega) (by omega)]; exact h.wz j h1 h2), fun j hj => ?_, fun j hj => ?_, fun j hj => ?_, fun j hj => ?_, fun k hk => ?_, fun k hk => ?_⟩
  · rw [ec _ (by omega) (by omega)]; exact h.c
  · rw [ec _ (by omega) (by omega), em _ (by omega) (by omega)]; exact h.p r hr
  · rw [ec _ (by omega) (by omega)]; exact h.pz r h1 h2
  · rw [ec _ (by omega) (by omega), em _ (by omega) (by omega)]; exact h.he j hj
  · rw [ec _ (by omega) (by omega)]; exact h.hz j h1 h2
  · rw [ec _ (by omega) (by omega), em _ (by omega) (by omega)]; exact h.wi j hj
  · rw [ec _ (by omega) (by omega), em _ (by omega) (by omega)]; exact h.el j hj
  · rw [ec _ (by omega) (by omega), em _ (by omega) (by omega)]; exact h.wv j hj
  · rw [ec _ (by omega) (by omega), em _ (by omega) (by omega)]; exact h.co j hj
  · have : f_hasWaived s2 b j = f_hasWaived s b j := by
      unfold f_hasWaived
      rw [ec _ (by omega) (by omega)]
    rw [this, em _ (by omega) (by omega)]
    exact h.ma j hj
  · rw [ec _ (by omega) (by omega), em _ (by omega) (by omega)]; exact h.lp k hk
  · rw [ec _ (by omega) (by omega), em _ (by omega) (by omega)]; exact h.lh k hk
theorem RC.kept0 (h : RC τ σ) (K60 : mK τ ≤ 60) (hb : mn τ ≤ 60 ∧ mg τ < 200 ∧ mw τ < 200) (m : MK τ τ2) (c : VK σ σ2) : RC τ2 σ2 := by
  have cr : ∀ q, 2000 ≤ q → q ≤ 2999 → σ2 q = σ q := fun q h1 h2 => funext fun i => c q i (by unfold kc; omega)
  have mr : ∀ q, 6000 ≤ q → q < 8000 → τ2 q = τ q := fun q h1 h2 => funext fun i => m q i (by unfold km; omega)
  have mr5 : ∀ q, 5200 ≤ q → q < 5300 → τ2 q = τ q := fun q h1 h2 => funext fun i => m q i (by unfold km; omega)
  have eR : mR τ2 = mR τ := congrArg cn (m 5001 900 (by unfold km; omega))
  have eB : mB τ2 = mB τ := congrArg cn (m 5002 900 (by unfold km; omega))
  have eK : mK τ2 = mK τ := congrArg cn (m 5003 900 (by unfold km; omega))
  have eg : mg τ2 = mg τ := congrArg cn (m 7000 23 (by unfold km; omega))
  have ew : mw τ2 = mw τ := congrArg cn (m 7000 24 (by unfold km; omega))
  have en : mn τ2 = mn τ := congrArg cn (m 7000 21 (by unfold km; omega))
  have es : τ2 5000 1 = τ 5000 1 := m _ _ (by unfold km; omega)
  have ec : σ2 1000 7 = σ 1000 7 := c _ _ (by unfold kc; omega)
  refine ⟨?_, ?_, ?_, ?_, fun e => ?_, fun e => ?_, (by rw [m 7000 25 (by unfold km; omega), es]; exact h.fl), ⟨fun k hk => ?_, fun k hk j hj => ?_, fun k hk r hr => ?_, fun k hk j hj => ?_, fun k hk j hj => ?_⟩⟩
  · rw [ec, es]; exact h.st
  · rw [ec]; exact h.sb
  · rw [c _ _ (by unfold kc; omega), m _ _ (by unfold km; omega)]; exact h.stp
  · rw [c _ _ (by unfold kc; omega), m _ _ (by unfold km; omega)]; exact h.k
  · rw [es] at e
    rw [eR, eB, eg, ew, en]
    exact (h.on e).of hb.1 hb.2.1 hb.2.2 (fun q a b => cr q (by omega) (by omega)) (fun q a b => mr q (by omega) (by omega))
  · rw [es] at e
    have o := h.off e
    refine ⟨fun r hr => ?_, fun j hj => ?_, fun j hj => ?_, fun j hj => ?_, ?_⟩
    · rw [cr _ (by omega) (by omega), c _ _ (by unfold kc; omega)]; exact o.p r hr
    · rw [cr _ (by omega) (by omega), c _ _ (by unfold kc; omega)]; exact o.e j hj
    · rw [cr _ (by omega) (by omega), cr _ (by omega) (by omega), cr _ (by omega) (by omega)]; exact o.h j hj
    · rw [eB] at hj
      rw [cr _ (by omega) (by omega)]; exact o.w j hj
    · rw [cr _ (by omega) (by omega)]; exact o.m
  · rw [eK] at hk
    rw [cr _ (by omega) (by omega), mr5 _ (by omega) (by omega)]; exact h.lg.t k hk
  · rw [eK] at hk
    rw [eB] at hj
    rw [cr _ (by omega) (by omega), mr _ (by omega) (by omega)]; exact h.lg.m k hk j hj
  · rw [eK] at hk
    rw [eR] at hr
    rw [cr _ (by omega) (by omega), mr _ (by omega) (by omega)]; exact h.lg.p k hk r hr
  · rw [eK] at hk
    rw [eB] at hj
    rw [cr _ (by omega) (by omega), mr _ (by omega) (by omega)]; exact h.lg.w k hk j hj
  · rw [eK] at hk
    rw [eB] at hj
    rw [cr _ (by omega) (by omega), mr _ (by omega) (by omega)]; exact h.lg.h k hk j hj
theorem RC.kept (h : RC τ σ) (r : JR τ) (m : MK τ τ2) (c : VK σ σ2) : RC τ2 σ2 := h.kept0 r.hK.2 ⟨r.hn.2.1, r.hg.2, r.hw.2⟩ m c
/-! what keeps it: the class -/
theorem nkc {q i : Nat} (h : q < 2000 ∧ q ≠ 1000 ∧ q ≠ 1012 ∧ q ≠ 1015) : ¬ kc q i := fun k => by unfold kc at k; omega
theorem VK.border {x y : Int32} : VK σ (g_border σ x y R) := by
  unfold g_border
  (repeat' split) <;> first | exact VK.rfl' | (unfold g_addBorder; exact (VK.set (nkc (by omega))).trans (VK.set (nkc (by omega))))
theorem VK.rules {x y : Int32} : VK σ (g_rules σ x y) := by
  unfold g_rules
  (repeat' split) <;> first | exact VK.rfl' | exact (VK.set (nkc (by omega))).trans (VK.set (nkc (by omega)))
theorem VK.knock : VK σ (g_knock σ) := VK.set (fun k => by unfold kc at k; omega)
theorem VK.station {x y : Int32} : VK σ (g_station σ x y R C) := by
  unfold g_station
  (repeat' split) <;> first | exact VK.rfl' | (unfold g_add; exact ((VK.set (nkc (by omega))).trans (VK.set (nkc (by omega)))).trans (VK.set (nkc (by omega))))
theorem VK.ask {x y : Int32} : VK σ (g_ask σ x y C) := by
  unfold g_ask
  (repeat' split) <;> first | exact VK.rfl' | exact VK.set (nkc (by omega))
theorem VK.packs {x y : Int32} : VK σ (g_packs σ x y C rg) := by
  unfold g_packs
  (repeat' split) <;> first | exact VK.rfl' | exact VK.rows (fun q hq => fr_packM (by omega))
theorem VK.channel {x y z : Int32} : VK σ (g_channel σ x y z C rg) := by
  unfold g_channel
  (repeat' split) <;> first | exact VK.rfl' | exact VK.rows (fun q hq => fr_packM (by omega))
theorem VK.clear {x : Int32} : VK σ (g_clear σ x C rg) := by
  unfold g_clear
  (repeat' split) <;> first | exact VK.rfl' | exact VK.rows (fun q hq => fr_cheapest (by omega))
theorem VK.anew {x y z v : Int32} (hK60 : K ≤ 60) : VK σ (g_anew σ x y z v R B K) := by
  unfold g_anew
  (repeat' split) <;> first | exact VK.rfl' | exact VK.rows (fun q hq => fr_runLog hK60 (by omega))
theorem VK.isSound (hK60 : K ≤ 60) : VK σ (g_isSound σ R B w K) := VK.rows (fun q hq => fr_runLog hK60 (by omega))
theorem VK.digest (hK60 : K ≤ 60) : VK σ (g_digest σ K B R C w rg) := by
  unfold g_digest g_dgS
  split
  · exact ((VK.rows (fun q hq => fr_cheapest (by omega))).trans (VK.rows (fun q hq => fr_cheapest (by omega)))).trans (VK.isSound hK60)
  · exact VK.isSound hK60
theorem VK.find : VK σ (g_find σ) := VK.rows (fun q hq => fr_find (by omega))
theorem VK.addM {i : Nat} {x y : Int32} (hi : i < 6) (hg : ∀ i, i < 6 → gr i < 4) (hc : cnt i ≤ 6) : VK σ (g_addM σ i x y R B gr cnt) := VK.rows (fun q hq => fr_addM ⟨hi, by omega, hg⟩ hc)
theorem VK.offer {x y z : Int32} (hB6 : B ≤ 6) (hg : ∀ i, i < 6 → gr i < 4) (hc : ∀ i, i < 6 → cnt i ≤ 6) : VK σ (g_offer σ x y z R B gr cnt) := by
  unfold g_offer
  split
  · rename_i hx
    have hx6 : cn x < 6 := by have := hx.2; omega
    split
    · exact VK.rfl'
    · split
      · split
        · split
          · exact VK.rfl'
          · split
            · exact VK.rfl'
            · exact (VK.addM hx6 hg (hc _ hx6)).trans VK.find
        · exact VK.rfl'
      · exact VK.rfl'
  · exact VK.rfl'
theorem VK.give (hR5 : R ≤ 5) : VK σ (g_give σ R sp) := VK.rows (fun q hq => fr_give hR5 ⟨by omega, by omega⟩)
theorem VK.leaveOut {i : Nat} : VK σ (g_leaveOut σ i) := VK.rows (fun q hq => fr_leaveOut (by omega))
theorem VK.fail {x : Int32} (hR5 : R ≤ 5) : VK σ (g_fail σ x R B sp) := by
  unfold g_fail
  (repeat' split) <;> first | exact VK.rfl' | exact (((VK.set (fun k => by unfold kc at k; omega)).trans VK.leaveOut).trans VK.find).trans (VK.give hR5)
/-! the reference -/
theorem MK.border {x y : Int32} (hR5 : R ≤ 5) : MK τ (g_Mborder τ x y R) := by
  unfold g_Mborder
  split
  · rename_i hx
    have hx2 := hx.2
    split
    · rename_i hy
      have hy2 := hy.2
      (repeat' split) <;> first | exact MK.s00 | exact (MK.s0.trans (MK.set (fun k => by unfold km at k; omega))).trans (MK.set (fun k => by unfold km at k; omega))
    · exact MK.s00
  · exact MK.s00
theorem MK.rules {x y : Int32} : MK τ (g_Mrules τ x y) := by
  unfold g_Mrules
  (repeat' split) <;> first | exact MK.s00 | exact (MK.s0.trans (MK.set (nkm (by decide)))).trans (MK.set (nkm (by decide)))
theorem MK.knock : MK τ (g_Mknock τ) := MK.s0.trans (MK.set (nkm (by decide)))
theorem MK.station {x y : Int32} : MK τ (g_Mstation τ x y R C) := by
  unfold g_Mstation g_addI
  (repeat' split) <;> first | exact MK.s00 | exact (((MK.s0.trans (MK.set (fun k => by unfold km at k; omega))).trans (MK.set (fun k => by unfold km at k; omega))).trans (MK.set (fun k => by unfold km at k; omega))).trans (MK.set (fun k => by unfold km at k; omega))
theorem MK.ask {x y : Int32} : MK τ (g_Mask τ x y C) := by
  unfold g_Mask g_setS
  (repeat' split) <;> first | exact MK.s00 | exact (MK.s0.trans (MK.set (fun k => by unfold km at k; omega))).trans (MK.set (fun k => by unfold km at k; omega))
theorem MK.madd {j p : Nat} {c a : Int32} (hj : j < 6) : MK τ (g_Madd τ j p c a) := by
  unfold g_Madd g_addI
  exact (((MK.set (fun k => by unfold km at k; omega)).trans (MK.set (fun k => by unfold km at k; omega))).trans (MK.set (fun k => by unfold km at k; omega))).trans (MK.set (fun k => by unfold km at k; omega))
theorem MK.offer {x y v : Int32} (hB6 : B ≤ 6) : MK τ (g_Moffer τ x y v R B pk) := by
  unfold g_Moffer
  split
  · rename_i hx
    have hx2 := hx.2
    (repeat' split) <;> first | exact MK.s00 | exact MK.s0.trans (MK.madd (by omega))
  · exact MK.s00
theorem MK.cinit : MK τ (u2 (g_Cinit τ R B pk gr cd) 9000 20 0) := MK.hi fun q hq => by rw [u2_ne (by omega), fr_Cinit (by omega)]
theorem MK.cpay {y : Nat} (hB6 : B ≤ 6) : MK τ (u2 (u2 (g_Cpay (g_Cinit τ R B pk gr cd) y 20000 B) 9000 20 0) 20000 20 0) := MK.hi fun q hq => by rw [u2_ne (by omega), u2_ne (by omega), fr_Cpay ⟨by omega, hB6⟩, fr_Cinit (by omega)]
theorem MK.keep {wy : Nat} (hB6 : B ≤ 6) : MK τ (g_Mkeep τ R B pk gr cd wy sp) := fun q i hk => by rw [fr_Mkeep ⟨by unfold km at hk; omega, by unfold km at hk; omega, by unfold km at hk; omega, hB6⟩]
theorem MK.fail {x : Int32} {wy : Nat} (hB6 : B ≤ 6) : MK τ (g_Mfail τ x R B pk gr cd wy sp) := by
  unfold g_Mfail
  split
  · rename_i hx
    have hx2 := hx.2
    (repeat' split) <;> first | exact MK.s00 | exact ((MK.s0.trans (MK.set (nkm (by decide)))).trans (MK.set (fun k => by unfold km at k; omega))).trans (MK.keep hB6)
  · exact MK.s00
theorem MK.packs {x y : Int32} : MK τ (g_Mpacks τ x y R C rg) := by
  unfold g_Mpacks
  split
  · split
    · rename_i hy
      have hc := cn6 hy
      exact MK.s0.trans (MK.hi fun q hq => by rw [u2_ne (by omega), fr_Mcp ⟨by omega, hc⟩, uR_ne (by omega)])
    · exact MK.s0
  · exact MK.s0
theorem MK.clear {x : Int32} : MK τ (g_Mclear τ x R C rg) := by
  unfold g_Mclear
  split
  · rename_i hy
    exact MK.s0.trans (MK.hi fun q hq => fr_MclearNow ⟨by omega, cn6 hy⟩)
  · exact MK.s00
theorem MK.channel {x y v : Int32} : MK τ (g_Mchannel τ x y v R C rg) := by
  rcases chan_mem (τ := τ) (x := x) (y := y) (v := v) (R := R) (C := C) (rg := rg) with ⟨t, e⟩ | ⟨e1, e2⟩
  · rw [e]
    exact MK.s00
  · exact MK.s0.trans (MK.hi fun q hq => e1 q (by omega))
/-! only the heads change -/
theorem RC.mid (h : RC τ σ) (hb : mn τ ≤ 60 ∧ mg τ < 200 ∧ mw τ < 200) (mr : ∀ q, q ≠ 5000 → τ2 q = τ q) (cr : ∀ q, q ≠ 1000 → σ2 q = σ q) (st : σ2 1000 7 = τ2 5000 1) (sb : bd 3 (σ2 1000 7)) (stp : σ2 1000 8 = τ2 5000 4) (on : ¬ τ2 5000 1 = 0 → ¬ τ 5000 1 = 0) (off : τ2 5000 1 = 0 → τ 5000 1 = 0) : RC τ2 σ2 := by
  have eR : mR τ2 = mR τ := by
    show cn (τ2 5001 900) = _
    rw [mr _ (by decide)]
  have eB : mB τ2 = mB τ := by
    show cn (τ2 5002 900) = _
    rw [mr _ (by decide)]
  have eK : mK τ2 = mK τ := by
    show cn (τ2 5003 900) = _
    rw [mr _ (by decide)]
  have eg : mg τ2 = mg τ := by
    show cn (τ2 7000 23) = _
    rw [mr _ (by decide)]
  have ew : mw τ2 = mw τ := by
    show cn (τ2 7000 24) = _
    rw [mr _ (by decide)]
  have en : mn τ2 = mn τ := by
    show cn (τ2 7000 21) = _
    rw [mr _ (by decide)]
  refine ⟨st, sb, stp, ?_, fun e => ?_, fun e => ?_, (by rw [mr 7000 (by decide)]; exact h.fl.trans ⟨fun e => Classical.byContradiction fun z => on z e, off⟩), ⟨fun k hk => ?_, fun k hk j hj => ?_, fun k hk r hr => ?_, fun k hk j hj => ?_, fun k hk j hj => ?_⟩⟩
  · rw [cr _ (by decide), mr _ (by decide)]
    exact h.k
  · rw [eR, eB, eg, ew, en]
    exact (h.on (on e)).of hb.1 hb.2.1 hb.2.2 (fun q a b => cr q (by omega)) (fun q a b => mr q (by omega))
  · have o := h.off (off e)
    refine ⟨fun r hr => ?_, fun j hj => ?_, fun j hj => ?_, fun j hj => ?_, ?_⟩
    · rw [cr _ (by decide), cr _ (by decide)]; exact o.p r hr
    · rw [cr _ (by decide), cr _ (by decide)]; exact o.e j hj
    · rw [cr _ (by decide), cr _ (by decide), cr _ (by decide)]; exact o.h j hj
    · rw [eB] at hj
      rw [cr _ (by decide)]; exact o.w j hj
    · rw [cr _ (by decide)]; exact o.m
  · rw [eK] at hk
    rw [cr _ (by omega), mr _ (by omega)]; exact h.lg.t k hk
  · rw [eK] at hk
    rw [eB] at hj
    rw [cr _ (by omega), mr _ (by omega)]; exact h.lg.m k hk j hj
  · rw [eK] at hk
    rw [eR] at hr
    rw [cr _ (by omega), mr _ (by omega)]; exact h.lg.p k hk r hr
  · rw [eK] at hk
    rw [eB] at hj
    rw [cr _ (by omega), mr _ (by omega)]; exact h.lg.w k hk j hj
  · rw [eK] at hk
    rw [eB] at hj
    rw [cr _ (by omega), mr _ (by omega)]; exact h.lg.h k hk j hj
theorem RC.settle {x : Int32} {pk gr : Nat → Nat} {cd : Nat → Nat → Nat} {sp sp' : Nat → Nat} (h : RC τ σ) (r : JR τ) (hR5 : R ≤ 5) (hB6 : B ≤ 6) : RC (g_Msettle τ x R B pk gr cd sp) (g_settle σ x R sp') := by
  unfold g_Msettle g_settle
  by_cases c1 : n_bt x 0 2
  · by_cases c2 : σ 1000 7 = 2
    · have c3 : τ 5000 1 = 2 := h.st.symm.trans c2
      rw [if_pos c1, if_pos c3, if_pos c1, if_pos c2]
      have e3 : u2 (u2 (u2 τ 5000 0 0) 5000 1 3) 5000 7 (nI (cn x)) 5000 1 = 3 := by rw [u2_oi (by decide), u2_at]
      have A : RC (u2 (u2 (u2 τ 5000 0 0) 5000 1 3) 5000 7 (nI (cn x))) (u2 (u2 σ 1000 9 x) 1000 7 3) := h.mid ⟨r.hn.2.1, r.hg.2, r.hw.2⟩ (fun q hq => by rw [u2_ne hq, u2_ne hq, u2_ne hq]) (fun q hq => by rw [u2_ne hq, u2_ne hq]) (by rw [e3, u2_at]) (by rw [u2_at]; exact ⟨rfl, by decide⟩) (by
        rw [u2_oi (by decide), u2_oi (by decide), u2_oi (by decide), u2_oi (by decide), u2_oi (by decide)]
        exact h.stp) (fun _ e => absurd (c3.symm.trans e) (by decide)) (fun e => absurd (e3.symm.trans e) (by decide))
      have eK : mK (u2 (u2 (u2 τ 5000 0 0) 5000 1 3) 5000 7 (nI (cn x))) = mK τ := by
        show cn (u2 _ _ _ _ 5003 900) = _
        rw [u2_ne (by decide), u2_ne (by decide), u2_ne (by decide)]
      exact A.kept0 (by rw [eK]; exact r.hK.2) ⟨by
        show cn (u2 _ _ _ _ 7000 21) ≤ 60
        rw [u2_ne (by decide), u2_ne (by decide), u2_ne (by decide)]
        exact r.hn.2.1, by
        show cn (u2 _ _ _ _ 7000 23) < 200
        rw [u2_ne (by decide), u2_ne (by decide), u2_ne (by decide)]
        exact r.hg.2, by
        show cn (u2 _ _ _ _ 7000 24) < 200
        rw [u2_ne (by decide), u2_ne (by decide), u2_ne (by decide)]
        exact r.hw.2⟩ (MK.keep hB6) (VK.give hR5)
    · rw [if_pos c1, if_neg (fun e => c2 (h.st.trans e)), if_pos c1, if_neg c2]
      exact h.kept r MK.s00 VK.rfl'
  · rw [if_neg c1, if_neg c1]
    exact h.kept r MK.s00 VK.rfl'
theorem stage01 {v : Int32} (h : bd 3 v) : v ≤ 1 ↔ (v = 0 ∨ v = 1) := by
  have : ∀ k : Fin 4, nI k.1 ≤ 1 ↔ (nI k.1 = 0 ∨ nI k.1 = 1) := by decide +kernel
  have q := this ⟨cn v, by have := h.2; omega⟩
  rw [← h.1] at q
  exact q
theorem RC.step {x : Int32} (h : RC τ σ) (r : JR τ) : RC (g_Mstep τ x) (g_step σ x) := by
  unfold g_Mstep g_step
  have ok : ∀ y, RC (u2 (u2 τ 5000 0 0) 5000 4 y) (u2 σ 1000 8 y) := fun y => h.mid ⟨r.hn.2.1, r.hg.2, r.hw.2⟩ (fun q hq => by rw [u2_ne hq, u2_ne hq]) (fun q hq => u2_ne hq) (by
    rw [u2_oi (by decide), u2_oi (by decide), u2_oi (by decide)]
    exact h.st) (by
    rw [u2_oi (by decide)]
    exact h.sb) (by rw [u2_at, u2_at]) (fun e => by
    rw [u2_oi (by decide), u2_oi (by decide)] at e
    exact e) (fun e => by
    rw [u2_oi (by decide), u2_oi (by decide)] at e
    exact e)
  by_cases c1 : n_bt x 1 20
  · rw [if_pos c1, if_pos c1]
    by_cases c2 : σ 1000 7 = 0
    · rw [if_pos c2, if_pos (show τ 5000 1 ≤ 1 by rw [← h.st]; exact (stage01 h.sb).mpr (.inl c2))]
      exact ok x
    · by_cases c3 : σ 1000 7 = 1
      · rw [if_neg c2, if_pos c3, if_pos (show τ 5000 1 ≤ 1 by rw [← h.st]; exact (stage01 h.sb).mpr (.inr c3))]
        exact ok x
      · rw [if_neg c2, if_neg c3, if_neg (show ¬ τ 5000 1 ≤ 1 by
          rw [← h.st]
          exact fun z => ((stage01 h.sb).mp z).elim c2 c3)]
        exact h.kept r MK.s00 VK.rfl'
  · rw [if_neg c1, if_neg c1]
    exact h.kept r MK.s00 VK.rfl'
end
