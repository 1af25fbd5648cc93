/-! ===== pure facts: what keeps the relation ===== -/
/-- on the class's side -/
def VC (σ σ2 : XS9) : Prop := σ2 1001 4 = σ 1001 4 ∧ σ2 1001 9 = σ 1001 9 ∧ (σ2 1000 7 = 0 ↔ σ 1000 7 = 0)
/-- on the reference's -/
def VM (τ τ2 : XS9) : Prop := τ2 5001 900 = τ 5001 900 ∧ τ2 5002 900 = τ 5002 900 ∧ (τ2 5000 1 = 0 ↔ τ 5000 1 = 0)
theorem R2.kept {τ τ2 σ σ2 : XS9} (h : R2 τ σ) (m : VM τ τ2) (c : VC σ σ2) : R2 τ2 σ2 := h.of c.1 c.2.1 c.2.2 m.1 m.2.1 m.2.2
theorem VC.rfl' {σ : XS9} : VC σ σ := ⟨rfl, rfl, Iff.rfl⟩
theorem VM.rfl' {τ : XS9} : VM τ τ := ⟨rfl, rfl, Iff.rfl⟩
theorem VC.trans {σ σ2 σ3 : XS9} (a : VC σ σ2) (b : VC σ2 σ3) : VC σ σ3 := ⟨b.1.trans a.1, b.2.1.trans a.2.1, b.2.2.trans a.2.2⟩
theorem VM.trans {τ τ2 τ3 : XS9} (a : VM τ τ2) (b : VM τ2 τ3) : VM τ τ3 := ⟨b.1.trans a.1, b.2.1.trans a.2.1, b.2.2.trans a.2.2⟩
theorem VC.rows {σ σ2 : XS9} (h0 : σ2 1000 = σ 1000) (h1 : σ2 1001 = σ 1001) : VC σ σ2 := ⟨by rw [h1], by rw [h1], by rw [h0]⟩
theorem VM.rows {τ τ2 : XS9} (h0 : τ2 5000 = τ 5000) (h1 : τ2 5001 = τ 5001) (h2 : τ2 5002 = τ 5002) : VM τ τ2 := ⟨by rw [h1], by rw [h2], by rw [h0]⟩
theorem VC.set {σ : XS9} {q i : Nat} {x : Int32} (hq : ¬ ((q = 1001 ∧ (i = 4 ∨ i = 9)) ∨ (q = 1000 ∧ i = 7))) : VC σ (u2 σ q i x) :=
  ⟨u2_o (fun a b => by omega), u2_o (fun a b => by omega), by rw [u2_o (fun a b => by omega)]⟩
theorem VM.set {τ : XS9} {q i : Nat} {x : Int32} (hq : ¬ ((q = 5001 ∧ i = 900) ∨ (q = 5002 ∧ i = 900) ∨ (q = 5000 ∧ i = 1))) : VM τ (u2 τ q i x) :=
  ⟨u2_o (fun a b => by omega), u2_o (fun a b => by omega), by rw [u2_o (fun a b => by omega)]⟩
theorem VM.s0 {τ : XS9} {x : Int32} : VM τ (u2 τ 5000 0 x) := VM.set (by decide)
theorem VM.s00 {τ : XS9} {x : Int32} : VM τ (u2 (u2 τ 5000 0 0) 5000 0 x) := VM.s0.trans VM.s0
section
variable {σ τ : XS9} {R B C K g w : Nat} {gr cnt sp pk tn rg : Nat → Nat} {cd : Nat → Nat → Nat}
theorem VC.border {x y : Int32} : VC σ (g_border σ x y R) := by
  unfold g_border
  (repeat' split) <;> first | exact VC.rfl' | (unfold g_addBorder; exact (VC.set (q := 1013) (by omega)).trans (VC.set (q := 1013) (by omega)))
theorem VC.rules {x y : Int32} : VC σ (g_rules σ x y) := by
  unfold g_rules
  (repeat' split) <;> first | exact VC.rfl' | exact (VC.set (by decide)).trans (VC.set (by decide))
theorem VC.step {x : Int32} : VC σ (g_step σ x) := by
  unfold g_step
  (repeat' split) <;> first | exact VC.rfl' | exact VC.set (by decide)
theorem VC.wish {x y z : Int32} : VC σ (g_wish σ x y z R B) := by
  unfold g_wish
  (repeat' split) <;> first | exact VC.rfl' | exact VC.set (q := 2003) (by omega)
theorem VC.waive {x : Int32} : VC σ (g_waive σ x B) := by
  unfold g_waive
  (repeat' split) <;> first | exact VC.rfl' | (unfold g_useWaiver; exact (VC.set (q := 2005) (by omega)).trans (VC.set (q := 2000) (by omega)))
theorem VC.station {x y : Int32} : VC σ (g_station σ x y R C) := by
  unfold g_station
  (repeat' split) <;> first | exact VC.rfl' | (unfold g_add; exact ((VC.set (q := 1151) (by omega)).trans (VC.set (q := 1150) (by omega))).trans (VC.set (q := 1006) (by omega)))
theorem VC.ask {x y : Int32} : VC σ (g_ask σ x y C) := by
  unfold g_ask
  (repeat' split) <;> first | exact VC.rfl' | exact VC.set (q := 1150) (by omega)
theorem VC.packs {x y : Int32} : VC σ (g_packs σ x y C rg) := by
  unfold g_packs
  (repeat' split) <;> first | exact VC.rfl' | exact VC.rows (fr_packM (by omega)) (fr_packM (by omega))
theorem VC.channel {x y z : Int32} : VC σ (g_channel σ x y z C rg) := by
  unfold g_channel
  (repeat' split) <;> first | exact VC.rfl' | exact VC.rows (fr_packM (by omega)) (fr_packM (by omega))
theorem VC.clear {x : Int32} : VC σ (g_clear σ x C rg) := by
  unfold g_clear
  (repeat' split) <;> first | exact VC.rfl' | exact VC.rows (fr_cheapest (by omega)) (fr_cheapest (by omega))
theorem VC.anew {x y z v : Int32} (hK60 : K ≤ 60) : VC σ (g_anew σ x y z v R B K) := by
  unfold g_anew
  (repeat' split) <;> first | exact VC.rfl' | exact VC.rows (fr_runLog hK60 (by omega)) (fr_runLog hK60 (by omega))
theorem VC.isSound (hK60 : K ≤ 60) : VC σ (g_isSound σ R B w K) := VC.rows (fr_runLog hK60 (by omega)) (fr_runLog hK60 (by omega))
theorem VC.digest (hK60 : K ≤ 60) : VC σ (g_digest σ K B R C w rg) := by
  unfold g_digest g_dgS
  split
  · exact ((VC.rows (fr_cheapest (by omega)) (fr_cheapest (by omega))).trans (VC.rows (fr_cheapest (by omega)) (fr_cheapest (by omega)))).trans (VC.isSound hK60)
  · exact VC.isSound hK60
theorem VC.knock : VC σ (g_knock σ) := VC.set (by decide)
theorem VC.find : VC σ (g_find σ) := VC.rows (fr_find (by omega)) (fr_find (by omega))
theorem VC.addM {i : Nat} {x y : Int32} (hi : i < 6) (hg : ∀ i, i < 6 → gr i < 4) (hc : cnt i ≤ 6) : VC σ (g_addM σ i x y R B gr cnt) := VC.rows (fr_addM ⟨hi, by omega, hg⟩ hc) (fr_addM ⟨hi, by omega, hg⟩ hc)
theorem VC.offer {x y z : Int32} (hB6 : B ≤ 6) (hg : ∀ i, i < 6 → gr i < 4) (hc : ∀ i, i < 6 → cnt i ≤ 6) : VC σ (g_offer σ x y z R B gr cnt) := by
  unfold g_offer
  split
  · rename_i hx
    have hx6 : cn x < 6 := by have := hx.2; omega
    split
    · exact VC.rfl'
    · split
      · split
        · split
          · exact VC.rfl'
          · split
            · exact VC.rfl'
            · exact (VC.addM hx6 hg (hc _ hx6)).trans VC.find
        · exact VC.rfl'
      · exact VC.rfl'
  · exact VC.rfl'
theorem VC.give (hR5 : R ≤ 5) : VC σ (g_give σ R sp) := VC.rows (fr_give hR5 ⟨by omega, by omega⟩) (fr_give hR5 ⟨by omega, by omega⟩)
theorem VC.settle {x : Int32} (hR5 : R ≤ 5) : VC σ (g_settle σ x R sp) := by
  unfold g_settle
  split
  · split
    · rename_i h2
      refine VC.trans (σ2 := u2 (u2 σ 1000 9 x) 1000 7 3) ⟨by rw [u2_ne (by decide), u2_ne (by decide)], by rw [u2_ne (by decide), u2_ne (by decide)], ?_⟩ (VC.give hR5)
      rw [u2_at, h2]
      exact ⟨fun e => absurd e (by decide), fun e => absurd e (by decide)⟩
    · exact VC.rfl'
  · exact VC.rfl'
theorem VC.leaveOut {i : Nat} : VC σ (g_leaveOut σ i) := VC.rows (fr_leaveOut (by omega)) (fr_leaveOut (by omega))
theorem VC.fail {x : Int32} (hR5 : R ≤ 5) : VC σ (g_fail σ x R B sp) := by
  unfold g_fail
  (repeat' split) <;> first | exact VC.rfl' | exact (((VC.set (by decide)).trans VC.leaveOut).trans VC.find).trans (VC.give hR5)
/-! the reference's -/
theorem VM.border {x y : Int32} (hR5 : R ≤ 5) : VM τ (g_Mborder τ x y R) := by
  unfold g_Mborder
  split
  · rename_i hx
    have hx2 := hx.2
    split
    · rename_i hy
      have hy2 := hy.2
      (repeat' split) <;> first | exact VM.s00 | exact (VM.s0.trans (VM.set (by omega))).trans (VM.set (by omega))
    · exact VM.s00
  · exact VM.s00
theorem VM.rules {x y : Int32} : VM τ (g_Mrules τ x y) := by
  unfold g_Mrules
  (repeat' split) <;> first | exact VM.s00 | exact (VM.s0.trans (VM.set (by decide))).trans (VM.set (by decide))
theorem VM.step {x : Int32} : VM τ (g_Mstep τ x) := by
  unfold g_Mstep
  (repeat' split) <;> first | exact VM.s00 | exact VM.s0.trans (VM.set (by decide))
theorem VM.wish {x y v : Int32} : VM τ (g_Mwish τ x y v R B g) := by
  unfold g_Mwish
  (repeat' split) <;> first | exact VM.s00 | exact VM.s0.trans (VM.set (by omega))
theorem VM.waive {x : Int32} : VM τ (g_Mwaive τ x B g w) := by
  unfold g_Mwaive
  (repeat' split) <;> first | exact VM.s00 | exact (VM.s0.trans (VM.set (by omega))).trans (VM.set (by omega))
theorem VM.knock : VM τ (g_Mknock τ) := VM.s0.trans (VM.set (by decide))
theorem VM.station {x y : Int32} : VM τ (g_Mstation τ x y R C) := by
  unfold g_Mstation
  (repeat' split) <;> first | exact VM.s00 | (unfold g_addI; exact (((VM.s0.trans (VM.set (by omega))).trans (VM.set (by omega))).trans (VM.set (by omega))).trans (VM.set (by omega)))
theorem VM.ask {x y : Int32} : VM τ (g_Mask τ x y C) := by
  unfold g_Mask
  (repeat' split) <;> first | exact VM.s00 | (unfold g_setS; exact (VM.s0.trans (VM.set (by omega))).trans (VM.set (by omega)))
theorem VM.offer {x y v : Int32} : VM τ (g_Moffer τ x y v R B pk) := by
  unfold g_Moffer
  (repeat' split) <;> first | exact VM.s00 | (unfold g_Madd g_addI; exact (((VM.s0.trans (VM.set (by omega))).trans (VM.set (by omega))).trans (VM.set (by omega))).trans (VM.set (by omega)))
theorem VM.hi {τ2 : XS9} (e : ∀ q, q ≤ 8000 → τ2 q = τ q) : VM τ τ2 := VM.rows (e _ (by omega)) (e _ (by omega)) (e _ (by omega))
theorem VM.cinit {R B : Nat} {pk gr : Nat → Nat} {cd : Nat → Nat → Nat} : VM τ (u2 (g_Cinit τ R B pk gr cd) 9000 20 0) := VM.hi fun q hq => by rw [u2_ne (by omega), fr_Cinit (by omega)]
theorem VM.wins {x : Int32} : VM τ (g_Mwins τ x R B pk gr cd) := by
  unfold g_Mwins
  (repeat' split) <;> first | exact VM.s00 | exact VM.s0.trans VM.cinit
theorem VM.sale {x : Int32} : VM τ (g_Msale τ x R B pk gr cd K C g tn sp) := by
  unfold g_Msale
  (repeat' split) <;> first | exact VM.s00 | exact VM.s0.trans VM.cinit
theorem VM.worth {x : Int32} : VM τ (g_Mworth τ x R B pk gr cd) := by
  unfold g_Mworth
  (repeat' split) <;> first | exact VM.s00 | exact VM.s0.trans VM.cinit
theorem VM.packs {x y : Int32} : VM τ (g_Mpacks τ x y R C rg) := by
  unfold g_Mpacks
  split
  · split
    · rename_i hy
      have hc := cn6 hy
      exact VM.s0.trans (VM.hi fun q hq => by rw [u2_ne (by omega), fr_Mcp ⟨by omega, hc⟩, uR_ne (by omega)])
    · exact VM.s0
  · exact VM.s0
theorem VM.clear {x : Int32} : VM τ (g_Mclear τ x R C rg) := by
  unfold g_Mclear
  split
  · rename_i hy
    exact VM.s0.trans (VM.hi fun q hq => fr_MclearNow ⟨by omega, cn6 hy⟩)
  · exact VM.s00
end
