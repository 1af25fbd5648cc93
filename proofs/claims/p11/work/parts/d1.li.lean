section
/-! ===== LI, and the interfaces that are whole with it ===== -/
def LI2 (τ σ : XS9) : Prop := (JC σ ∧ KB σ) ∧ (JR τ ∧ JS τ) ∧ R2 τ σ
theorem LI2.p {τ σ : XS9} (h : LI2 τ σ) : JC σ ∧ JR τ := ⟨h.1.1, h.2.1.1⟩
theorem LI2.init : LI2 s0M s0C := ⟨⟨JC.init, KB.init⟩, ⟨JR.init, JS.init⟩, R2.init⟩
theorem LI2.eqR {τ σ : XS9} (h : LI2 τ σ) : aR σ = mR τ := congrArg cn h.2.2.1
theorem LI2.eqB {τ σ : XS9} (h : LI2 τ σ) : aB σ = mB τ := congrArg cn h.2.2.2.1
def LI (τ σ : XS9) : Prop := LI2 τ σ ∧ JP τ
theorem LI.init : LI s0M s0C := ⟨LI2.init, JP.init⟩
theorem K_region : ∀ τ σ (p0 p1 p2 : Int32), LI τ σ → LI (g_Mregion τ p0 p1 p2 (mR τ)) (g_region σ p0 p1 p2 (aR σ)) := fun τ σ p0 p1 p2 h9 => ⟨(have h := h9.1; ⟨⟨h.1.1.region h.1.1.hR.2, h.1.2.region⟩, ⟨h.2.1.1.region h.2.1.1.hR.1 h.2.1.1.hR.2, h.2.1.2.region h.2.1.1 h.2.1.1.hR.2⟩, by
    rw [h.eqR]
    exact h.2.2.region h.2.1.1.hR.2⟩), h9.2.region h9.1.2.1.1.hR.2⟩
theorem G_region {l : Launch} (hl : l.stackTraces = false) {LI' : XS9 → XS9 → Prop} (hq : ∀ τ σ, LI' τ σ → LI τ σ) (hk : ∀ τ σ (p0 p1 p2 : Int32), LI' τ σ → LI' (g_Mregion τ p0 p1 p2 (mR τ)) (g_region σ p0 p1 p2 (aR σ))) : IF_region l LI' := if_region hl (fun _ _ h8 => (hq _ _ h8).1.p) hk
theorem K_bidder : ∀ τ σ (p0 p1 p2 p3 : Int32), LI τ σ → LI (g_Mbidder τ p0 p1 p2 p3 (mB τ)) (g_bidder σ p0 p1 p2 p3 (aB σ)) := fun τ σ p0 p1 p2 p3 h9 => ⟨(have h := h9.1; ⟨⟨h.1.1.bidder h.1.1.hB.2, h.1.2.bidder⟩, ⟨h.2.1.1.bidder h.2.1.1.hB.2, h.2.1.2.bidder h.2.1.1 h.2.1.1.hB.2⟩, by
    rw [h.eqB]
    exact h.2.2.bidder h.2.1.1.hB.2⟩), h9.2.bidder h9.1.2.1.1.hB.2⟩
theorem G_bidder {l : Launch} (hl : l.stackTraces = false) {LI' : XS9 → XS9 → Prop} (hq : ∀ τ σ, LI' τ σ → LI τ σ) (hk : ∀ τ σ (p0 p1 p2 p3 : Int32), LI' τ σ → LI' (g_Mbidder τ p0 p1 p2 p3 (mB τ)) (g_bidder σ p0 p1 p2 p3 (aB σ))) : IF_bidder l LI' := if_bidder hl (fun _ _ h8 => (hq _ _ h8).1.p) hk
theorem K_border : ∀ τ σ (p0 p1 : Int32), LI τ σ → LI (g_Mborder τ p0 p1 (mR τ)) (g_border σ p0 p1 (aR σ)) := fun τ σ p0 p1 h9 => ⟨(have h := h9.1; ⟨⟨h.1.1.border, h.1.2.border⟩, ⟨h.2.1.1.border h.2.1.1.hR.2, h.2.1.2.border h.2.1.1 h.2.1.1.hR.2⟩, h.2.2.kept (VM.border h.2.1.1.hR.2) VC.border⟩), h9.2.border h9.1.2.1.1.hR.2⟩
theorem G_border {l : Launch} (hl : l.stackTraces = false) {LI' : XS9 → XS9 → Prop} (hq : ∀ τ σ, LI' τ σ → LI τ σ) (hk : ∀ τ σ (p0 p1 : Int32), LI' τ σ → LI' (g_Mborder τ p0 p1 (mR τ)) (g_border σ p0 p1 (aR σ))) : IF_border l LI' := if_border hl (fun _ _ h8 => (hq _ _ h8).1.p) hk
theorem K_rules : ∀ τ σ (p0 p1 : Int32), LI τ σ → LI (g_Mrules τ p0 p1) (g_rules σ p0 p1) := fun τ σ p0 p1 h9 => ⟨(have h := h9.1; ⟨⟨h.1.1.rules, h.1.2.rules⟩, ⟨h.2.1.1.rules, h.2.1.2.rules h.2.1.1⟩, h.2.2.kept VM.rules VC.rules⟩), h9.2.rules⟩
theorem G_rules {l : Launch} (hl : l.stackTraces = false) {LI' : XS9 → XS9 → Prop} (hq : ∀ τ σ, LI' τ σ → LI τ σ) (hk : ∀ τ σ (p0 p1 : Int32), LI' τ σ → LI' (g_Mrules τ p0 p1) (g_rules σ p0 p1)) : IF_rules l LI' := if_rules hl (fun _ _ h8 => (hq _ _ h8).1.p) hk
theorem K_step : ∀ τ σ (p0 : Int32), LI τ σ → LI (g_Mstep τ p0) (g_step σ p0) := fun τ σ p0 h9 => ⟨(have h := h9.1; ⟨⟨h.1.1.step, h.1.2.step⟩, ⟨h.2.1.1.step, h.2.1.2.step h.2.1.1⟩, h.2.2.kept VM.step VC.step⟩), h9.2.step⟩
theorem G_step {l : Launch} (hl : l.stackTraces = false) {LI' : XS9 → XS9 → Prop} (hq : ∀ τ σ, LI' τ σ → LI τ σ) (hk : ∀ τ σ (p0 : Int32), LI' τ σ → LI' (g_Mstep τ p0) (g_step σ p0)) : IF_step l LI' := if_step hl (fun _ _ h8 => (hq _ _ h8).1.p) hk
theorem K_opn : ∀ τ σ, LI τ σ → LI (g_Mopen τ (mR τ) (mB τ)) (g_open σ (aR σ) (aB σ)) := fun τ σ h9 => ⟨(have h := h9.1; ⟨⟨h.1.1.opn, h.1.2.opn⟩, ⟨h.2.1.1.opn, h.2.1.2.opn h.2.1.1⟩, by
    rw [h.eqR, h.eqB]
    exact h.2.2.opn h.2.1.1.hR.2 h.2.1.1.hB.2⟩), h9.2.opn h9.1.2.1.1.hR.2 h9.1.2.1.1.hB.2⟩
theorem G_opn {l : Launch} (hl : l.stackTraces = false) {LI' : XS9 → XS9 → Prop} (hq : ∀ τ σ, LI' τ σ → LI τ σ) (hk : ∀ τ σ, LI' τ σ → LI' (g_Mopen τ (mR τ) (mB τ)) (g_open σ (aR σ) (aB σ))) : IF_open l LI' := if_open hl (fun _ _ h8 => (hq _ _ h8).1.p) hk
theorem K_wish : ∀ τ σ (p0 p1 p2 : Int32), LI τ σ → LI (g_Mwish τ p0 p1 p2 (mR τ) (mB τ) (mg τ)) (g_wish σ p0 p1 p2 (aR σ) (aB σ)) := fun τ σ p0 p1 p2 h9 => ⟨(have h := h9.1; ⟨⟨h.1.1.wish, h.1.2.wish h.1.1.hR.2 h.1.1.hB.2⟩, ⟨h.2.1.1.wish h.2.1.1.hg.2, h.2.1.2.wish h.2.1.1⟩, h.2.2.kept VM.wish VC.wish⟩), h9.2.wish⟩
theorem G_wish {l : Launch} (hl : l.stackTraces = false) {LI' : XS9 → XS9 → Prop} (hq : ∀ τ σ, LI' τ σ → LI τ σ) (hk : ∀ τ σ (p0 p1 p2 : Int32), LI' τ σ → LI' (g_Mwish τ p0 p1 p2 (mR τ) (mB τ) (mg τ)) (g_wish σ p0 p1 p2 (aR σ) (aB σ))) : IF_wish l LI' := if_wish hl (fun _ _ h8 => (hq _ _ h8).1.p) hk
theorem K_waive : ∀ τ σ (p0 : Int32), LI τ σ → LI (g_Mwaive τ p0 (mB τ) (mg τ) (mw τ)) (g_waive σ p0 (aB σ)) := fun τ σ p0 h9 => ⟨(have h := h9.1; ⟨⟨h.1.1.waive, h.1.2.waive⟩, ⟨h.2.1.1.waive h.2.1.1.hw.2, h.2.1.2.waive h.2.1.1⟩, h.2.2.kept VM.waive VC.waive⟩), h9.2.waive⟩
theorem G_waive {l : Launch} (hl : l.stackTraces = false) {LI' : XS9 → XS9 → Prop} (hq : ∀ τ σ, LI' τ σ → LI τ σ) (hk : ∀ τ σ (p0 : Int32), LI' τ σ → LI' (g_Mwaive τ p0 (mB τ) (mg τ) (mw τ)) (g_waive σ p0 (aB σ))) : IF_waive l LI' := if_waive hl (fun _ _ h8 => (hq _ _ h8).1.p) hk
theorem K_offer : ∀ τ σ (p0 p1 p2 : Int32), LI τ σ → LI (g_Moffer τ p0 p1 p2 (mR τ) (mB τ) (mpk τ)) (g_offer σ p0 p1 p2 (aR σ) (aB σ) (agr σ) (acn σ)) := fun τ σ p0 p1 p2 h9 => ⟨(have h := h9.1; ⟨⟨h.1.1.offer h.1.1.hB.2 (fun i hi => (h.1.1.hgr i hi).2) (fun i hi => (h.1.1.hct i hi).2), h.1.2.offer h.1.1.hB.2 (fun i hi => (h.1.1.hgr i hi).2) (fun i hi => (h.1.1.hct i hi).2)⟩, ⟨h.2.1.1.offer h.2.1.1.hR.2 h.2.1.1.hB.2 h.2.1.1.hpk, h.2.1.2.offer h.2.1.1 h.2.1.1.hB.2⟩, h.2.2.kept VM.offer (VC.offer h.1.1.hB.2 (fun i hi => (h.1.1.hgr i hi).2) (fun i hi => (h.1.1.hct i hi).2))⟩), h9.2.offer h9.1.2.1.1.hB.2⟩
theorem G_offer {l : Launch} (hl : l.stackTraces = false) {LI' : XS9 → XS9 → Prop} (hq : ∀ τ σ, LI' τ σ → LI τ σ) (hrel : ∀ τ σ (p0 p1 p2 : Int32), LI' τ σ → ((g_Moffer τ p0 p1 p2 (mR τ) (mB τ) (mpk τ)) 5000 0 = lw_k [eIOB, eIAE, eISE] (o_offer σ p0 p1 p2 (aR σ) (aB σ) (agr σ) (acn σ)) ∧ ∀ w, (o_offer σ p0 p1 p2 (aR σ) (aB σ) (agr σ) (acn σ)) = .inl w → w = (f_Moffer τ p0 p1 p2 (mR τ) (mB τ) (mpk τ)))) (hk : ∀ τ σ (p0 p1 p2 : Int32), LI' τ σ → LI' (g_Moffer τ p0 p1 p2 (mR τ) (mB τ) (mpk τ)) (g_offer σ p0 p1 p2 (aR σ) (aB σ) (agr σ) (acn σ))) : IF_offer l LI' := if_offer hl (fun _ _ h8 => (hq _ _ h8).1.p) hrel hk
theorem K_station : ∀ τ σ (p0 p1 : Int32), LI τ σ → LI (g_Mstation τ p0 p1 (mR τ) (mC τ)) (g_station σ p0 p1 (aR σ) (aC σ)) := fun τ σ p0 p1 h9 => ⟨(have h := h9.1; ⟨⟨h.1.1.station h.1.1.hR.2 h.1.1.hC.2, h.1.2.station⟩, ⟨h.2.1.1.station h.2.1.1.hR.1 h.2.1.1.hR.2 h.2.1.1.hS.1 h.2.1.1.hS.2, h.2.1.2.station h.2.1.1⟩, h.2.2.kept VM.station VC.station⟩), h9.2.station⟩
theorem G_station {l : Launch} (hl : l.stackTraces = false) {LI' : XS9 → XS9 → Prop} (hq : ∀ τ σ, LI' τ σ → LI τ σ) (hk : ∀ τ σ (p0 p1 : Int32), LI' τ σ → LI' (g_Mstation τ p0 p1 (mR τ) (mC τ)) (g_station σ p0 p1 (aR σ) (aC σ))) : IF_station l LI' := if_station hl (fun _ _ h8 => (hq _ _ h8).1.p) hk
theorem K_knock : ∀ τ σ, LI τ σ → LI (g_Mknock τ) (g_knock σ) := fun τ σ h9 => ⟨(have h := h9.1; ⟨⟨h.1.1.knock, h.1.2.knock⟩, ⟨h.2.1.1.knock, h.2.1.2.knock h.2.1.1⟩, h.2.2.kept VM.knock VC.knock⟩), h9.2.knock⟩
theorem G_knock {l : Launch} (hl : l.stackTraces = false) {LI' : XS9 → XS9 → Prop} (hq : ∀ τ σ, LI' τ σ → LI τ σ) (hk : ∀ τ σ, LI' τ σ → LI' (g_Mknock τ) (g_knock σ)) : IF_knock l LI' := if_knock hl  hk
theorem JS.cinit {τ : XS9} {R B : Nat} {pk gr : Nat → Nat} {cd : Nat → Nat → Nat} (h : JS τ) (r : JR τ) : JS (u2 (g_Cinit τ R B pk gr cd) 9000 20 0) := h.hi r fun q hq => by rw [u2_ne (by omega), fr_Cinit (by omega)]
theorem JS.packs {τ : XS9} {R C : Nat} {rg : Nat → Nat} {x y : Int32} (h : JS τ) (r : JR τ) : JS (g_Mpacks τ x y R C rg) := by
  unfold g_Mpacks
  split
  · split
    · rename_i hy
      exact (h.s0 r).hi r.s0 fun q hq => by rw [u2_ne (by omega), fr_Mcp ⟨by omega, cn6 hy⟩, uR_ne (by omega)]
    · exact h.s0 r
  · exact h.s0 r
theorem JS.clear {τ : XS9} {R C : Nat} {rg : Nat → Nat} {x : Int32} (h : JS τ) (r : JR τ) : JS (g_Mclear τ x R C rg) := by
  unfold g_Mclear
  split
  · rename_i hy
    exact (h.s0 r).hi r.s0 fun q hq => fr_MclearNow ⟨by omega, cn6 hy⟩
  · exact h.s00 r
theorem K_packs : ∀ τ σ (p0 p1 : Int32), LI τ σ → LI (g_Mpacks τ p0 p1 (mR τ) (mC τ) (mrg τ)) (g_packs σ p0 p1 (aC σ) (arg σ)) := fun τ σ p0 p1 h9 => ⟨(have h := h9.1; ⟨⟨h.1.1.packs, h.1.2.packs⟩, ⟨h.2.1.1.packs, h.2.1.2.packs h.2.1.1⟩, h.2.2.kept VM.packs VC.packs⟩), h9.2.packs⟩
theorem G_packs {l : Launch} (hl : l.stackTraces = false) {LI' : XS9 → XS9 → Prop} (hq : ∀ τ σ, LI' τ σ → LI τ σ) (hk : ∀ τ σ (p0 p1 : Int32), LI' τ σ → LI' (g_Mpacks τ p0 p1 (mR τ) (mC τ) (mrg τ)) (g_packs σ p0 p1 (aC σ) (arg σ))) : IF_packs l LI' := if_packs hl (fun _ _ h8 => (hq _ _ h8).1.p) hk
theorem K_clear : ∀ τ σ (p0 : Int32), LI τ σ → LI (g_Mclear τ p0 (mR τ) (mC τ) (mrg τ)) (g_clear σ p0 (aC σ) (arg σ)) := fun τ σ p0 h9 => ⟨(have h := h9.1; ⟨⟨h.1.1.clear, h.1.2.clear⟩, ⟨h.2.1.1.clear, h.2.1.2.clear h.2.1.1⟩, h.2.2.kept VM.clear VC.clear⟩), h9.2.clear⟩
theorem G_clear {l : Launch} (hl : l.stackTraces = false) {LI' : XS9 → XS9 → Prop} (hq : ∀ τ σ, LI' τ σ → LI τ σ) (hk : ∀ τ σ (p0 : Int32), LI' τ σ → LI' (g_Mclear τ p0 (mR τ) (mC τ) (mrg τ)) (g_clear σ p0 (aC σ) (arg σ))) : IF_clear l LI' := if_clear hl (fun _ _ h8 => (hq _ _ h8).1.p) hk
theorem K_wins : ∀ τ σ (p0 : Int32), LI τ σ → LI (g_Mwins τ p0 (mR τ) (mB τ) (mpk τ) (mgr τ) (mcd τ)) σ := fun τ σ p0 h9 => ⟨(have h := h9.1; ⟨h.1, ⟨h.2.1.1.wins, by
    unfold g_Mwins
    split
    · exact (h.2.1.2.s0 h.2.1.1).cinit h.2.1.1.s0
    · exact h.2.1.2.s00 h.2.1.1⟩, h.2.2.kept VM.wins VC.rfl'⟩), (by
    unfold g_Mwins
    split
    · exact h9.2.s0.cinit
    · exact h9.2.s00)⟩
theorem G_wins {l : Launch} (hl : l.stackTraces = false) {LI' : XS9 → XS9 → Prop} (hq : ∀ τ σ, LI' τ σ → LI τ σ) (hk : ∀ τ σ (p0 : Int32), LI' τ σ → LI' (g_Mwins τ p0 (mR τ) (mB τ) (mpk τ) (mgr τ) (mcd τ)) σ) : IF_wins l LI' := if_wins hl (fun _ _ h8 => (hq _ _ h8).1.p) hk
theorem K_sale : ∀ τ σ (p0 : Int32), LI τ σ → LI (g_Msale τ p0 (mR τ) (mB τ) (mpk τ) (mgr τ) (mcd τ) (mK τ) (mC τ) (mg τ) (mtn τ) (msp τ)) σ := fun τ σ p0 h9 => ⟨(have h := h9.1; ⟨h.1, ⟨h.2.1.1.sale, by
    unfold g_Msale
    split
    · exact (h.2.1.2.s0 h.2.1.1).cinit h.2.1.1.s0
    · exact h.2.1.2.s00 h.2.1.1⟩, h.2.2.kept VM.sale VC.rfl'⟩), (by
    unfold g_Msale
    split
    · exact h9.2.s0.cinit
    · exact h9.2.s00)⟩
theorem G_sale {l : Launch} (hl : l.stackTraces = false) {LI' : XS9 → XS9 → Prop} (hq : ∀ τ σ, LI' τ σ → LI τ σ) (hk : ∀ τ σ (p0 : Int32), LI' τ σ → LI' (g_Msale τ p0 (mR τ) (mB τ) (mpk τ) (mgr τ) (mcd τ) (mK τ) (mC τ) (mg τ) (mtn τ) (msp τ)) σ) : IF_sale l LI' := if_sale hl (fun _ _ h8 => (hq _ _ h8).1.p) hk
theorem K_worth : ∀ τ σ (p0 : Int32), LI τ σ → LI (g_Mworth τ p0 (mR τ) (mB τ) (mpk τ) (mgr τ) (mcd τ)) σ := fun τ σ p0 h9 => ⟨(have h := h9.1; ⟨h.1, ⟨h.2.1.1.worth, by
    unfold g_Mworth
    split
    · exact (h.2.1.2.s0 h.2.1.1).cinit h.2.1.1.s0
    · exact h.2.1.2.s00 h.2.1.1⟩, h.2.2.kept VM.worth VC.rfl'⟩), (by
    unfold g_Mworth
    split
    · exact h9.2.s0.cinit
    · exact h9.2.s00)⟩
theorem G_worth {l : Launch} (hl : l.stackTraces = false) {LI' : XS9 → XS9 → Prop} (hq : ∀ τ σ, LI' τ σ → LI τ σ) (hk : ∀ τ σ (p0 : Int32), LI' τ σ → LI' (g_Mworth τ p0 (mR τ) (mB τ) (mpk τ) (mgr τ) (mcd τ)) σ) : IF_worth l LI' := if_worth hl (fun _ _ h8 => (hq _ _ h8).1.p) hk
theorem K_ofRegion : ∀ τ σ (p0 p1 : Int32), LI τ σ → LI (g_MofRegion τ p0 p1 (mR τ) (mB τ) (mC τ) (mg τ)) σ := fun τ σ p0 p1 h9 => ⟨(have h := h9.1; ⟨h.1, ⟨h.2.1.1.ofRegion, by
    unfold g_MofRegion
    (repeat' split) <;> first | exact h.2.1.2.s0 h.2.1.1 | exact h.2.1.2.s00 h.2.1.1⟩, h.2.2.kept VM.ofRegion VC.rfl'⟩), (by
    unfold g_MofRegion
    (repeat' split) <;> first | exact h9.2.s0 | exact h9.2.s00)⟩
theorem G_ofRegion {l : Launch} (hl : l.stackTraces = false) {LI' : XS9 → XS9 → Prop} (hq : ∀ τ σ, LI' τ σ → LI τ σ) (hk : ∀ τ σ (p0 p1 : Int32), LI' τ σ → LI' (g_MofRegion τ p0 p1 (mR τ) (mB τ) (mC τ) (mg τ)) σ) : IF_ofRegion l LI' := if_ofRegion hl (fun _ _ h8 => (hq _ _ h8).1.p) hk
theorem K_ofBidder : ∀ τ σ (p0 p1 : Int32), LI τ σ → LI (g_MofBidder τ p0 p1 (mR τ) (mB τ) (mpk τ) (mg τ)) σ := fun τ σ p0 p1 h9 => ⟨(have h := h9.1; ⟨h.1, ⟨h.2.1.1.ofBidder, by
    unfold g_MofBidder
    (repeat' split) <;> first | exact h.2.1.2.s0 h.2.1.1 | exact h.2.1.2.s00 h.2.1.1⟩, h.2.2.kept VM.ofBidder VC.rfl'⟩), (by
    unfold g_MofBidder
    (repeat' split) <;> first | exact h9.2.s0 | exact h9.2.s00)⟩
theorem G_ofBidder {l : Launch} (hl : l.stackTraces = false) {LI' : XS9 → XS9 → Prop} (hq : ∀ τ σ, LI' τ σ → LI τ σ) (hk : ∀ τ σ (p0 p1 : Int32), LI' τ σ → LI' (g_MofBidder τ p0 p1 (mR τ) (mB τ) (mpk τ) (mg τ)) σ) : IF_ofBidder l LI' := if_ofBidder hl (fun _ _ h8 => (hq _ _ h8).1.p) hk
theorem K_wants : ∀ τ σ (p0 p1 p2 : Int32), LI τ σ → LI (g_Mwants τ p0 p1 p2 (mR τ) (mB τ) (mg τ)) σ := fun τ σ p0 p1 p2 h9 => ⟨(have h := h9.1; ⟨h.1, ⟨h.2.1.1.wants, by
    unfold g_Mwants
    (repeat' split) <;> first | exact h.2.1.2.s0 h.2.1.1 | exact h.2.1.2.s00 h.2.1.1⟩, h.2.2.kept VM.wants VC.rfl'⟩), (by
    unfold g_Mwants
    (repeat' split) <;> first | exact h9.2.s0 | exact h9.2.s00)⟩
theorem G_wants {l : Launch} (hl : l.stackTraces = false) {LI' : XS9 → XS9 → Prop} (hq : ∀ τ σ, LI' τ σ → LI τ σ) (hk : ∀ τ σ (p0 p1 p2 : Int32), LI' τ σ → LI' (g_Mwants τ p0 p1 p2 (mR τ) (mB τ) (mg τ)) σ) : IF_wants l LI' := if_wants hl (fun _ _ h8 => (hq _ _ h8).1.p) hk
theorem K_priceIn : ∀ τ σ (p0 p1 : Int32), LI τ σ → LI (g_MpriceIn τ p0 p1 (mR τ) (mK τ)) σ := fun τ σ p0 p1 h9 => ⟨(have h := h9.1; ⟨h.1, ⟨h.2.1.1.priceIn, by
    unfold g_MpriceIn
    (repeat' split) <;> first | exact h.2.1.2.s0 h.2.1.1 | exact h.2.1.2.s00 h.2.1.1⟩, h.2.2.kept VM.priceIn VC.rfl'⟩), (by
    unfold g_MpriceIn
    (repeat' split) <;> first | exact h9.2.s0 | exact h9.2.s00)⟩
theorem G_priceIn {l : Launch} (hl : l.stackTraces = false) {LI' : XS9 → XS9 → Prop} (hq : ∀ τ σ, LI' τ σ → LI τ σ) (hk : ∀ τ σ (p0 p1 : Int32), LI' τ σ → LI' (g_MpriceIn τ p0 p1 (mR τ) (mK τ)) σ) : IF_priceIn l LI' := if_priceIn hl (fun _ _ h8 => (hq _ _ h8).1.p) hk
theorem K_codeIn : ∀ τ σ (p0 p1 p2 : Int32), LI τ σ → LI (g_McodeIn τ p0 p1 p2 (mB τ) (mK τ)) σ := fun τ σ p0 p1 p2 h9 => ⟨(have h := h9.1; ⟨h.1, ⟨h.2.1.1.codeIn, by
    unfold g_McodeIn
    (repeat' split) <;> first | exact h.2.1.2.s0 h.2.1.1 | exact h.2.1.2.s00 h.2.1.1⟩, h.2.2.kept VM.codeIn VC.rfl'⟩), (by
    unfold g_McodeIn
    (repeat' split) <;> first | exact h9.2.s0 | exact h9.2.s00)⟩
theorem G_codeIn {l : Launch} (hl : l.stackTraces = false) {LI' : XS9 → XS9 → Prop} (hq : ∀ τ σ, LI' τ σ → LI τ σ) (hk : ∀ τ σ (p0 p1 p2 : Int32), LI' τ σ → LI' (g_McodeIn τ p0 p1 p2 (mB τ) (mK τ)) σ) : IF_codeIn l LI' := if_codeIn hl (fun _ _ h8 => (hq _ _ h8).1.p) hk
theorem K_ofPackage : ∀ τ σ (p0 p1 p2 : Int32), LI τ σ → LI (g_MofPackage τ p0 p1 p2 (mB τ) (mpk τ)) σ := fun τ σ p0 p1 p2 h9 => ⟨(have h := h9.1; ⟨h.1, ⟨h.2.1.1.ofPackage, by
    unfold g_MofPackage
    (repeat' split) <;> first | exact h.2.1.2.s0 h.2.1.1 | exact h.2.1.2.s00 h.2.1.1⟩, h.2.2.kept VM.ofPackage VC.rfl'⟩), (by
    unfold g_MofPackage
    (repeat' split) <;> first | exact h9.2.s0 | exact h9.2.s00)⟩
theorem G_ofPackage {l : Launch} (hl : l.stackTraces = false) {LI' : XS9 → XS9 → Prop} (hq : ∀ τ σ, LI' τ σ → LI τ σ) (hk : ∀ τ σ (p0 p1 p2 : Int32), LI' τ σ → LI' (g_MofPackage τ p0 p1 p2 (mB τ) (mpk τ)) σ) : IF_ofPackage l LI' := if_ofPackage hl (fun _ _ h8 => (hq _ _ h8).1.p) hk
theorem K_pays : ∀ τ σ (p0 p1 : Int32), LI τ σ → LI (g_Mpays τ p0 p1 (mB τ)) σ := fun τ σ p0 p1 h9 => ⟨(have h := h9.1; ⟨h.1, ⟨h.2.1.1.pays, by
    unfold g_Mpays
    (repeat' split) <;> first | exact h.2.1.2.s0 h.2.1.1 | exact h.2.1.2.s00 h.2.1.1⟩, h.2.2.kept VM.pays VC.rfl'⟩), (by
    unfold g_Mpays
    (repeat' split) <;> first | exact h9.2.s0 | exact h9.2.s00)⟩
theorem G_pays {l : Launch} (hl : l.stackTraces = false) {LI' : XS9 → XS9 → Prop} (hq : ∀ τ σ, LI' τ σ → LI τ σ) (hk : ∀ τ σ (p0 p1 : Int32), LI' τ σ → LI' (g_Mpays τ p0 p1 (mB τ)) σ) : IF_pays l LI' := if_pays hl (fun _ _ h8 => (hq _ _ h8).1.p) hk
theorem K_holder : ∀ τ σ (p0 p1 : Int32), LI τ σ → LI (g_Mholder τ p0 p1 (mR τ) (mB τ) (mtn τ) (msp τ)) σ := fun τ σ p0 p1 h9 => ⟨(have h := h9.1; ⟨h.1, ⟨h.2.1.1.holder, by
    unfold g_Mholder
    (repeat' split) <;> first | exact h.2.1.2.s0 h.2.1.1 | exact h.2.1.2.s00 h.2.1.1⟩, h.2.2.kept VM.holder VC.rfl'⟩), (by
    unfold g_Mholder
    (repeat' split) <;> first | exact h9.2.s0 | exact h9.2.s00)⟩
theorem G_holder {l : Launch} (hl : l.stackTraces = false) {LI' : XS9 → XS9 → Prop} (hq : ∀ τ σ, LI' τ σ → LI τ σ) (hk : ∀ τ σ (p0 p1 : Int32), LI' τ σ → LI' (g_Mholder τ p0 p1 (mR τ) (mB τ) (mtn τ) (msp τ)) σ) : IF_holder l LI' := if_holder hl (fun _ _ h8 => (hq _ _ h8).1.p) hk
theorem K_contradicts : ∀ τ σ (p0 : Int32), LI τ σ → LI (g_Mcontradicts τ p0 (mR τ) (mB τ) (mg τ) (mn τ)) σ := fun τ σ p0 h9 => ⟨(have h := h9.1; ⟨h.1, ⟨h.2.1.1.contradicts, by
    unfold g_Mcontradicts
    (repeat' split) <;> first | exact h.2.1.2.s0 h.2.1.1 | exact h.2.1.2.s00 h.2.1.1⟩, h.2.2.kept VM.contradicts VC.rfl'⟩), (by
    unfold g_Mcontradicts
    (repeat' split) <;> first | exact h9.2.s0 | exact h9.2.s00)⟩
theorem G_contradicts {l : Launch} (hl : l.stackTraces = false) {LI' : XS9 → XS9 → Prop} (hq : ∀ τ σ, LI' τ σ → LI τ σ) (hk : ∀ τ σ (p0 : Int32), LI' τ σ → LI' (g_Mcontradicts τ p0 (mR τ) (mB τ) (mg τ) (mn τ)) σ) : IF_contradicts l LI' := if_contradicts hl (fun _ _ h8 => (hq _ _ h8).1.p) hk
theorem LI2.cb {τ σ : XS9} (h : LI2 τ σ) : cbd (ctl τ) := by
  have e : ∀ q i, cn (ctl τ q i) ≤ cn (τ q i) := fun q i => by
    unfold ctl
    split
    · exact Nat.le_refl _
    · exact Nat.zero_le _
  have r := h.2.1.1
  have h7 := r.1.2.2.2.2.2.2.1
  refine ⟨Nat.le_trans (e _ _) r.hR.2, Nat.le_trans (e _ _) r.hB.2, Nat.le_trans (e _ _) r.hK.2, fun j hj => Nat.le_trans (e _ _) ?_, fun b hb => ⟨Nat.le_trans (e _ _) (h7 b hb).1.2, Nat.le_trans (e _ _) (h7 b hb).2.1.2, Nat.lt_of_le_of_lt (e _ _) (Nat.lt_succ_of_le (h7 b hb).2.2.1.2), Nat.lt_of_le_of_lt (e _ _) (Nat.lt_succ_of_le (h7 b hb).2.2.2.2)⟩⟩
  have := (r.1.2.2.2.2.2.2.2.2.1 j hj).2
  omega
theorem LI2.me {τ σ : XS9} (h : LI2 τ σ) : mem_eq τ τ := h.2.1.1.me
end
section
/-! ===== pure facts: close keeps the class's side of the relation ===== -/
theorem VC.endClock {s : XS9} (hJ : JC s) {R B K : Nat} {gr : Nat → Nat} (hB6 : B ≤ 6) (hg : ∀ i, i < 6 → gr i < 4) : g_endClock s R B K gr 1001 = s 1001 ∧ g_endClock s R B K gr 1000 7 = 2 := by
  have hx : XCT (u2 s 1000 7 2) := fun i hi => by
    rw [u2_ne (by omega)]
    exact hJ.hct i hi
  have H := endClock_loop (σ := s) (R := R) (K := K) hB6 hg (s0 := u2 s 1000 7 2) hx
  unfold g_endClock
  refine ⟨?_, ?_⟩
  · rw [fr_find (by omega), H.2 _ (by omega), u2_ne (by decide)]
  · rw [fr_find (by omega), H.2 _ (by omega), u2_at]
theorem VC.close {σ : XS9} (hJ : JC σ) (hK : KB σ) {x : Int32} {R B : Nat} {gr : Nat → Nat} (hR5 : R ≤ 5) (hB6 : B ≤ 6) (hg : ∀ i, i < 6 → gr i < 4) : VC σ (g_close σ x R B gr) := by
  unfold g_close
  split
  · split
    · rename_i h1
      have go : (JC (x_close_14 σ x R B gr σ) ∧ KB (x_close_14 σ x R B gr σ)) ∧ x_close_14 σ x R B gr σ 1001 = σ 1001 ∧ (x_close_14 σ x R B gr σ 1000 7 = 1 ∨ x_close_14 σ x R B gr σ 1000 7 = 2) := by
        unfold x_close_14
        refine xitB_inv (fun s => (JC s ∧ KB s) ∧ s 1001 = σ 1001 ∧ (s 1000 7 = 1 ∨ s 1000 7 = 2)) (N := cn x) (fun i s hi hP => ?_) (cn x) 0 _ (Nat.zero_add _) ⟨⟨hJ, hK⟩, rfl, .inl h1⟩
        have h60 := hP.1.1.hK.2
        have C1 : JC (g_closeRound s 2000 (s 1000 8) B R (cn (s 2000 9))) ∧ KB (g_closeRound s 2000 (s 1000 8) B R (cn (s 2000 9))) := ⟨hP.1.1.closeRound, hP.1.2.closeRound hP.1.2.2.2.2.2.2 hR5 hB6 h60⟩
        have C2 : g_closeRound s 2000 (s 1000 8) B R (cn (s 2000 9)) 1001 = σ 1001 := (fr_closeRound (by omega)).trans hP.2.1
        have C3 : g_closeRound s 2000 (s 1000 8) B R (cn (s 2000 9)) 1000 = s 1000 := fr_closeRound (by omega)
        refine ⟨fun s' e => ?_, fun s' e => ?_⟩
        · by_cases c1 : s 1000 7 = 1
          · rw [if_pos c1] at e
            by_cases c2 : f_closeRound s 2000 (s 1000 8) B R (cn (s 2000 9)) = 0
            · rw [if_pos c2] at e
              rw [← Sum.inl.inj e]
              exact ⟨C1, C2, by rw [C3]; exact hP.2.2⟩
            · rw [if_neg c2] at e
              rw [← Sum.inl.inj e]
              have E := VC.endClock C1.1 (R := R) (K := min (cn (s 2000 9)) 59) hB6 hg
              exact ⟨JK.endClock C1.1 C1.2 hB6 (by omega) hg, E.1.trans C2, .inr E.2⟩
          · rw [if_neg c1] at e
            exact absurd e (by intro e; cases e)
        · by_cases c1 : s 1000 7 = 1
          · rw [if_pos c1] at e
            by_cases c2 : f_closeRound s 2000 (s 1000 8) B R (cn (s 2000 9)) = 0
            · rw [if_pos c2] at e
              exact absurd e (by intro e; cases e)
            · rw [if_neg c2] at e
              exact absurd e (by intro e; cases e)
          · rw [if_neg c1] at e
            rw [← Sum.inr.inj e]
            exact hP
      refine ⟨by rw [go.2.1], by rw [go.2.1], ?_⟩
      rw [h1]
      rcases go.2.2 with q | q <;> rw [q] <;> exact ⟨fun z => absurd z (by decide), fun z => absurd z (by decide)⟩
    · exact VC.rfl'
  · exact VC.rfl'
end
section
/-! ===== pure facts: what is settled is kept; what would be paid ===== -/
theorem JA.kept {σ σ2 : XS9} (n1 : σ2 5000 1 = 3) (n7 : bd 2 (σ2 5000 7)) (nk : ∀ j, j < cn (σ 5002 900) → σ2 5005 j = -1 ∨ n_lt (σ2 5005 j) (cn (σ (5030 + j) 900) / 2)) (nt : ∀ r, r < 5 → bd 5 (σ2 5007 r)) (h : JA σ) (e : ∀ q i, kr q i → (q ≠ 5000 ∧ q ≠ 5005 ∧ q ≠ 5007) → σ2 q i = σ q i) : JA σ2 := by
  obtain ⟨h1, h2, h3, h4, h5, h6, h7, h8, h9, h10, h11, h12, h13, h14, h15, h16, h17⟩ := h
  refine ⟨?_, ?_, ?_, ?_, ?_, ?_, ?_, ?_, ?_, ?_, ?_, ?_, ?_, nt, ?_, ?_, n7⟩
  · rw [e 5001 900 (by unfold kr; omega) (by omega)]; exact h1
  · rw [e 5002 900 (by unfold kr; omega) (by omega)]; exact h2
  · rw [e 5003 900 (by unfold kr; omega) (by omega)]; exact h3
  · intro hz
    rw [n1] at hz
    exact absurd hz (by decide)
  · rw [e 7000 25 (by unfold kr; omega) (by omega), e 7000 20 (by unfold kr; omega) (by omega)]; exact h5
  · intro hz
    rw [n1] at hz
    exact absurd hz (by decide)
  · intro b hb
    rw [e b 21 (by unfold kr; omega) (by omega), e b 22 (by unfold kr; omega) (by omega), e b 23 (by unfold kr; omega) (by omega), e b 24 (by unfold kr; omega) (by omega)]; exact h7 b hb
  · rw [e 7000 22 (by unfold kr; omega) (by omega), e 7000 21 (by unfold kr; omega) (by omega)]; exact h8
  · intro j hj
    rw [e (5030 + j) 900 (by unfold kr; omega) (by omega)]; exact h9 j hj
  · intro j hj
    rw [e (5020 + j) 3 (by unfold kr; omega) (by omega)]; exact h10 j hj
  · intro j k hj hk
    rw [e (5030 + j) (2 * k) (by unfold kr; omega) (by omega)]; exact h11 j k hj hk
  · rw [e 5004 900 (by unfold kr; omega) (by omega)]; exact h12
  · intro q hq
    rw [e 5004 900 (by unfold kr; omega) (by omega)] at hq
    have hq10 : q < 10 := by have := h12.2; omega
    rw [e 5004 (2 * q) (by unfold kr; omega) (by omega), e 5001 900 (by unfold kr; omega) (by omega)]; exact h13 q hq
  · intro r hr
    rw [e (5010 + r) 0 (by unfold kr; omega) (by omega)]; exact h15 r hr
  · intro _ j hj
    rw [e 5002 900 (by unfold kr; omega) (by omega)] at hj
    have hj6 : j < 6 := by have := h2.2; omega
    rw [e (5030 + j) 900 (by unfold kr; omega) (by omega)]
    exact nk j hj
section
variable {τ σ : XS9} {R B wy : Nat} {pk gr sp : Nat → Nat} {cd : Nat → Nat → Nat}
theorem keep_5005 (hB6 : B ≤ 6) {j : Nat} (hj : j < 6) : g_Mkeep σ R B pk gr cd wy sp 5005 j = g_Cinit σ R B pk gr cd 9001 j := by
  unfold g_Mkeep
  rw [u2_ne (by decide), u2_ne (by decide), fr_x45 (by decide), uR_ne (by decide), fr_Cpay ⟨by decide, hB6⟩, uR_eq, cpy6 hj]
theorem keep_5007 (hB6 : B ≤ 6) (h : ∀ r, r < 5 → bd 5 (σ 5007 r)) : ∀ r, r < 5 → bd 5 (g_Mkeep σ R B pk gr cd wy sp 5007 r) := by
  unfold g_Mkeep
  rw [u2_ne (by decide), u2_ne (by decide)]
  unfold x_Mkeep_45
  refine xit_inv (fun s : XS9 => ∀ r, r < 5 → bd 5 (s 5007 r)) (N := R) (fun i s hi hP => ?_) R 0 _ (Nat.zero_add _) (fun r hr => ?_)
  · intro r hr
    show bd 5 (u2 s 5007 i _ 5007 r)
    by_cases e : r = i
    · subst e
      rw [u2_at]
      refine bd.nat ?_ (by decide)
      exact Nat.le_of_lt_succ (x66_lt (s0 := (0, 999)) (by decide))
    · rw [u2_oi e]
      exact hP r hr
  · rw [uR_ne (by decide), fr_Cpay ⟨by decide, hB6⟩, uR_ne (by decide), fr_Cinit (by omega)]
    exact h r hr
theorem AMs.ofP (p : JP τ) : AMs τ := p.2.2.2.2
theorem AMs.of (h : AMs τ) (e : ∀ j i, j < 6 → i % 2 = 1 → σ (5030 + j) i = τ (5030 + j) i) : AMs σ := fun j k hj hk => by
  rw [e j _ hj (by omega)]
  exact h j k hj hk
theorem JR.pk6 (r : JR τ) : ∀ j, j < mB τ → mpk τ j ≤ 6 := fun j hj => (r.hpk j hj).2
theorem AMs.cho (ha : AMs σ) (r : JR τ) : CHO (mB τ) (mpk τ) (g_Cinit σ R (mB τ) (mpk τ) gr cd) := CHO.init ha r.pk6 r.hB.2
theorem AMs.term (ha : AMs σ) (r : JR τ) {f : Nat → Int32} : ∃ r9, xitR (p2_step 20000 (mB τ)) 20000000 0 (g_Cpay20 (uR (g_Cinit σ R (mB τ) (mpk τ) gr cd) 5005 f) 20000 (mB τ)) = .inr r9 := by
  refine pay_term (pk := mpk τ) (by omega) r.hB.2 ((ha.cho (R := R) (gr := gr) (cd := cd) r).of r.hB.2 fun q hq => uR_ne (by omega)) (fun j k hj hk => ?_) r.pk6
  rw [uR_ne (by omega), fr_Cinit (by omega)]
  exact ha j k hj hk
theorem AMs.term0 (ha : AMs σ) (r : JR τ) : ∃ r9, xitR (p2_step 20000 (mB τ)) 20000000 0 (g_Cpay20 (g_Cinit σ R (mB τ) (mpk τ) gr cd) 20000 (mB τ)) = .inr r9 := by
  refine pay_term (pk := mpk τ) (by omega) r.hB.2 (ha.cho (R := R) (gr := gr) (cd := cd) r) (fun j k hj hk => ?_) r.pk6
  rw [fr_Cinit (by omega)]
  exact ha j k hj hk
/-- what a keeping asks: s is t with another stage, way, deposits, and somebody out -/
def KE (τ σ : XS9) : Prop := ∀ q i, ¬ (q = 5000 ∧ (i = 0 ∨ i = 1 ∨ i = 5 ∨ i = 7)) → ¬ (5020 ≤ q ∧ q < 5026 ∧ i = 4) → σ q i = τ q i
theorem KE.am (e : KE τ σ) (p : JP τ) : AMs σ := (AMs.ofP p).of fun j i hj hi => e _ _ (by omega) (by omega)
theorem keep_all (r : JR τ) (h : JS τ) (p : JP τ) (e : KE τ σ) (n1 : σ 5000 1 = 3) (n7 : bd 2 (σ 5000 7)) : JR (g_Mkeep σ R (mB τ) (mpk τ) gr cd wy sp) ∧ JS (g_Mkeep σ R (mB τ) (mpk τ) gr cd wy sp) ∧ JP (g_Mkeep σ R (mB τ) (mpk τ) gr cd wy sp) := by
  have hB6 := r.hB.2
  have fr : ∀ q, (q < 5005 ∨ (5007 < q ∧ q < 9000)) → g_Mkeep σ R (mB τ) (mpk τ) gr cd wy sp q = σ q := fun q hq => fr_Mkeep ⟨by omega, by omega, by omega, hB6⟩
  have k5 : ∀ j, j < mB τ → g_Mkeep σ R (mB τ) (mpk τ) gr cd wy sp 5005 j = -1 ∨ n_lt (g_Mkeep σ R (mB τ) (mpk τ) gr cd wy sp 5005 j) (cn (τ (5030 + j) 900) / 2) := fun j hj => by
    rw [keep_5005 hB6 (by omega)]
    refine (((e.am p).cho (R := R) (gr := gr) (cd := cd) r).pi j hj).imp id fun ⟨n, hn, en⟩ => ?_
    have h6 := r.pk6 j hj
    rw [en]
    refine ⟨by rw [cn_nI (by omega)], ?_⟩
    rw [cn_nI (by omega)]
    exact hn
  have k7 : ∀ r, r < 5 → bd 5 (g_Mkeep σ R (mB τ) (mpk τ) gr cd wy sp 5007 r) := keep_5007 hB6 fun q hq => by
    rw [e _ _ (by omega) (by omega)]
    have := r.htn q hq
    exact ⟨this.1, by have := this.2; show mtn τ q ≤ 5; omega⟩
  have st : g_Mkeep σ R (mB τ) (mpk τ) gr cd wy sp 5000 1 = 3 := by rw [fr _ (by omega)]; exact n1
  have hf : JF (g_Mkeep σ R (mB τ) (mpk τ) gr cd wy sp) := by
    refine ⟨⟨?_, ?_⟩, fun q a b => ?_⟩
    · unfold g_Mkeep
      rw [u2_ne (by decide), u2_at]
    · rw [fr 8000 (by omega), e 8000 20 (by omega) (by omega)]
      exact r.2.1.2
    · unfold g_Mkeep
      by_cases e0 : q = 20000
      · rw [e0, u2_at]
      · rw [u2_ne e0, u2_ne (by omega), fr_x45 (by omega), uR_ne (by omega), fr_Cpay ⟨e0, hB6⟩, uR_ne (by omega), fr_Cinit (by omega), e q 20 (by omega) (by omega)]
        exact r.2.2 q a b
  have fe : ∀ q i, ¬ (q = 5000 ∧ (i = 0 ∨ i = 1 ∨ i = 5 ∨ i = 7)) → ¬ (5020 ≤ q ∧ q < 5026 ∧ i = 4) → (q < 5005 ∨ (5007 < q ∧ q < 9000)) → g_Mkeep σ R (mB τ) (mpk τ) gr cd wy sp q i = τ q i := fun q i a b c => by
    rw [fr q c]
    exact e q i a b
  generalize g_Mkeep σ R (mB τ) (mpk τ) gr cd wy sp = u at *
  refine ⟨⟨JA.kept st (by rw [fr 5000 (by omega)]; exact n7) k5 k7 r.1 (fun q i hk hn => fe q i (by omega) (by unfold kr at hk; omega) (by unfold kr at hk; omega)), hf⟩, JS.after (by rw [st]; decide) (by rw [st]; decide) (fun i j hi hj => ?_), ?_⟩
  · have e5 : mK u = mK τ := congrArg cn (fe 5003 900 (by omega) (by omega) (by omega))
    rw [e5] at hi
    have := r.hK.2
    rw [fe (6300 + i) j (by omega) (by omega) (by omega), fe (6100 + i) j (by omega) (by omega) (by omega)]
    exact h.2.2 i j hi hj
  · obtain ⟨p1, p2, p3, p4, p5⟩ := p
    refine ⟨fun j hj => ?_, fun j hj => ?_, ?_, fun hz => ?_, fun j k hj hk => ?_⟩
    · rw [fe _ _ (by omega) (by omega) (by omega)]
      exact p1 j hj
    · rw [fe _ _ (by omega) (by omega) (by omega)]
      exact p2 j hj
    · rw [fe _ _ (by omega) (by omega) (by omega)]
      exact p3
    · rw [st] at hz
      exact absurd hz (by decide)
    · rw [fe _ _ (by omega) (by omega) (by omega)]
      exact p5 j k hj hk
theorem settle_ke {x : Int32} : KE τ (u2 (u2 (u2 τ 5000 0 0) 5000 1 3) 5000 7 x) := fun q i a b => by
  rw [u2_o (fun c d => a ⟨c, by omega⟩), u2_o (fun c d => a ⟨c, by omega⟩), u2_o (fun c d => a ⟨c, by omega⟩)]
theorem settle_am (p : JP τ) {x : Int32} : AMs (u2 (u2 (u2 τ 5000 0 0) 5000 1 3) 5000 7 x) := settle_ke.am p
theorem settle_all {x : Int32} (r : JR τ) (h : JS τ) (p : JP τ) : JR (g_Msettle τ x R (mB τ) (mpk τ) gr cd sp) ∧ JS (g_Msettle τ x R (mB τ) (mpk τ) gr cd sp) ∧ JP (g_Msettle τ x R (mB τ) (mpk τ) gr cd sp) := by
  unfold g_Msettle
  split
  · rename_i hx
    split
    · have b2 : bd 2 x := bd.bt hx (by decide) rfl (by decide)
      exact keep_all r h p settle_ke (by rw [u2_oi (by decide), u2_at]) (by rw [u2_at, ← b2.1]; exact b2)
    · exact ⟨r.s00, h.s00 r, p.s00⟩
  · exact ⟨r.s00, h.s00 r, p.s00⟩
theorem fail_am (p : JP τ) {i : Nat} {x : Int32} : AMs (u2 (u2 (u2 τ 5000 0 0) 5000 5 x) (5020 + i) 4 1) := (AMs.ofP p).of fun j k hj hk => by
  rw [u2_o (fun c d => by omega), u2_ne (by omega), u2_ne (by omega)]
theorem fail_all {x : Int32} (r : JR τ) (h : JS τ) (p : JP τ) : JR (g_Mfail τ x R (mB τ) (mpk τ) gr cd wy sp) ∧ JS (g_Mfail τ x R (mB τ) (mpk τ) gr cd wy sp) ∧ JP (g_Mfail τ x R (mB τ) (mpk τ) gr cd wy sp) := by
  unfold g_Mfail
  split
  · rename_i hx
    have hx6 : cn x < 6 := by have := hx.2; have := r.hB.2; omega
    split
    · rename_i hs
      split
      · exact ⟨r.s00, h.s00 r, p.s00⟩
      · refine keep_all r h p (fun q i a b => ?_) ?_ ?_
        · rw [u2_o (fun c d => b (by omega)), u2_o (fun c d => a ⟨c, by omega⟩), u2_o (fun c d => a ⟨c, by omega⟩)]
        · rw [u2_ne (by omega), u2_oi (by decide), u2_oi (by decide)]
          exact hs
        · rw [u2_ne (by omega), u2_oi (by decide), u2_oi (by decide)]
          have := r.hwy
          exact ⟨this.1, by have := this.2; show mwy τ ≤ 2; omega⟩
    · exact ⟨r.s00, h.s00 r, p.s00⟩
  · exact ⟨r.s00, h.s00 r, p.s00⟩
theorem s0_am (p : JP τ) {x : Int32} : AMs (u2 τ 5000 0 x) := (AMs.ofP p).of fun j k hj hk => by rw [u2_ne (by omega)]
theorem pay_js {y : Nat} (r : JR τ) (h : JS τ) (hB6 : B ≤ 6) : JS (u2 (u2 (g_Cpay (g_Cinit τ R B pk gr cd) y 20000 B) 9000 20 0) 20000 20 0) := h.hi r fun q hq => by rw [u2_ne (by omega), u2_ne (by omega), fr_Cpay ⟨by omega, hB6⟩, fr_Cinit (by omega)]
theorem pay_jp {y : Nat} (p : JP τ) (hB6 : B ≤ 6) : JP (u2 (u2 (g_Cpay (g_Cinit τ R B pk gr cd) y 20000 B) 9000 20 0) 20000 20 0) := p.hi fun q hq => by rw [u2_ne (by omega), u2_ne (by omega), fr_Cpay ⟨by omega, hB6⟩, fr_Cinit (by omega)]
end
theorem K_close : ∀ τ σ (p0 : Int32), LI τ σ → LI (g_Mclose τ p0) (g_close σ p0 (aR σ) (aB σ) (agr σ)) := fun τ σ p0 h9 => by
  obtain ⟨⟨a, b, c⟩, d⟩ := Mclose_all (x := p0) h9.1.2.1.1 h9.1.2.1.2 h9.2
  have j := JK.close h9.1.1.1 h9.1.1.2 (x := p0) (R := aR σ) (B := aB σ) (gr := agr σ) h9.1.1.1.hR.2 h9.1.1.1.hB.2 (fun i hi => (h9.1.1.1.hgr i hi).2)
  exact ⟨⟨j, ⟨a, b⟩, h9.1.2.2.kept d (VC.close h9.1.1.1 h9.1.1.2 h9.1.1.1.hR.2 h9.1.1.1.hB.2 (fun i hi => (h9.1.1.1.hgr i hi).2))⟩, c⟩
theorem G_close {l : Launch} (hl : l.stackTraces = false) {LI' : XS9 → XS9 → Prop} (hq : ∀ τ σ, LI' τ σ → LI τ σ) (hk : ∀ τ σ (p0 : Int32), LI' τ σ → LI' (g_Mclose τ p0) (g_close σ p0 (aR σ) (aB σ) (agr σ))) : IF_close l LI' := if_close hl (fun _ _ h8 => (hq _ _ h8).1.p) (fun τ σ p0 h8 m hm e => have h9 := hq τ σ h8; itC_in h9.1.2.1.1.s0 (h9.1.2.1.2.s0 h9.1.2.1.1) h9.2.s0 m e) hk
theorem K_settle : ∀ τ σ (p0 : Int32), LI τ σ → LI (g_Msettle τ p0 (mR τ) (mB τ) (mpk τ) (mgr τ) (mcd τ) (msp τ)) (g_settle σ p0 (aR σ) (asp σ)) := fun τ σ p0 h9 => by
  obtain ⟨a, b, c⟩ := settle_all (x := p0) (R := mR τ) (gr := mgr τ) (cd := mcd τ) (sp := msp τ) h9.1.2.1.1 h9.1.2.1.2 h9.2
  exact ⟨⟨⟨h9.1.1.1.settle h9.1.1.1.hR.2, h9.1.1.2.settle h9.1.1.1.hR.2⟩, ⟨a, b⟩, h9.1.2.2.kept (VM.settle h9.1.2.1.1.hB.2) (VC.settle h9.1.1.1.hR.2)⟩, c⟩
theorem G_settle {l : Launch} (hl : l.stackTraces = false) {LI' : XS9 → XS9 → Prop} (hq : ∀ τ σ, LI' τ σ → LI τ σ) (hk : ∀ τ σ (p0 : Int32), LI' τ σ → LI' (g_Msettle τ p0 (mR τ) (mB τ) (mpk τ) (mgr τ) (mcd τ) (msp τ)) (g_settle σ p0 (aR σ) (asp σ))) : IF_settle l LI' := if_settle hl (fun _ _ h8 => (hq _ _ h8).1.p) (fun τ σ p0 h8 => have h9 := hq τ σ h8; ((settle_am h9.2).cho h9.1.2.1.1).pi) (fun τ σ p0 h8 => have h9 := hq τ σ h8; (settle_am h9.2).term h9.1.2.1.1) hk
theorem K_fail : ∀ τ σ (p0 : Int32), LI τ σ → LI (g_Mfail τ p0 (mR τ) (mB τ) (mpk τ) (mgr τ) (mcd τ) (mwy τ) (msp τ)) (g_fail σ p0 (aR σ) (aB σ) (asp σ)) := fun τ σ p0 h9 => by
  obtain ⟨a, b, c⟩ := fail_all (x := p0) (R := mR τ) (gr := mgr τ) (cd := mcd τ) (wy := mwy τ) (sp := msp τ) h9.1.2.1.1 h9.1.2.1.2 h9.2
  exact ⟨⟨⟨h9.1.1.1.fail h9.1.1.1.hR.2, h9.1.1.2.fail h9.1.1.1.hR.2⟩, ⟨a, b⟩, h9.1.2.2.kept (VM.fail h9.1.2.1.1.hB.2) (VC.fail h9.1.1.1.hR.2)⟩, c⟩
theorem G_fail {l : Launch} (hl : l.stackTraces = false) {LI' : XS9 → XS9 → Prop} (hq : ∀ τ σ, LI' τ σ → LI τ σ) (hk : ∀ τ σ (p0 : Int32), LI' τ σ → LI' (g_Mfail τ p0 (mR τ) (mB τ) (mpk τ) (mgr τ) (mcd τ) (mwy τ) (msp τ)) (g_fail σ p0 (aR σ) (aB σ) (asp σ))) : IF_fail l LI' := if_fail hl (fun _ _ h8 => (hq _ _ h8).1.p) (fun τ σ p0 h8 => have h9 := hq τ σ h8; ((fail_am h9.2).cho h9.1.2.1.1).pi) (fun τ σ p0 h8 => have h9 := hq τ σ h8; (fail_am h9.2).term h9.1.2.1.1) hk
theorem K_wouldPay : ∀ τ σ (p0 p1 : Int32), LI τ σ → LI (g_MwouldPay τ p0 p1 (mR τ) (mB τ) (mpk τ) (mgr τ) (mcd τ)) σ := fun τ σ p0 p1 h9 => by
  have r := h9.1.2.1.1
  have h := h9.1.2.1.2
  refine ⟨⟨h9.1.1, ⟨r.wouldPay r.hB.2, ?_⟩, h9.1.2.2.kept (VM.wouldPay r.hB.2) VC.rfl'⟩, ?_⟩
  · unfold g_MwouldPay
    (repeat' split) <;> first | exact h.s00 r | exact pay_js r.s0 (h.s0 r) r.hB.2
  · unfold g_MwouldPay
    (repeat' split) <;> first | exact h9.2.s00 | exact pay_jp h9.2.s0 r.hB.2
theorem G_wouldPay {l : Launch} (hl : l.stackTraces = false) {LI' : XS9 → XS9 → Prop} (hq : ∀ τ σ, LI' τ σ → LI τ σ) (hk : ∀ τ σ (p0 p1 : Int32), LI' τ σ → LI' (g_MwouldPay τ p0 p1 (mR τ) (mB τ) (mpk τ) (mgr τ) (mcd τ)) σ) : IF_wouldPay l LI' := if_wouldPay hl (fun _ _ h8 => (hq _ _ h8).1.p) (fun τ σ p0 p1 h8 => have h9 := hq τ σ h8; ((s0_am h9.2).cho h9.1.2.1.1).pi) (fun τ σ p0 p1 h8 => have h9 := hq τ σ h8; (s0_am h9.2).term0 h9.1.2.1.1) hk
theorem K_objects : ∀ τ σ (p0 p1 : Int32), LI τ σ → LI (g_Mobjects τ p0 p1 (mR τ) (mB τ) (mpk τ) (mgr τ) (mcd τ)) σ := fun τ σ p0 p1 h9 => by
  have r := h9.1.2.1.1
  have h := h9.1.2.1.2
  refine ⟨⟨h9.1.1, ⟨r.objects r.hB.2, ?_⟩, h9.1.2.2.kept (VM.objects r.hB.2) VC.rfl'⟩, ?_⟩
  · unfold g_Mobjects
    (repeat' split) <;> first | exact h.s00 r | exact pay_js r.s0 (h.s0 r) r.hB.2
  · unfold g_Mobjects
    (repeat' split) <;> first | exact h9.2.s00 | exact pay_jp h9.2.s0 r.hB.2
theorem G_objects {l : Launch} (hl : l.stackTraces = false) {LI' : XS9 → XS9 → Prop} (hq : ∀ τ σ, LI' τ σ → LI τ σ) (hk : ∀ τ σ (p0 p1 : Int32), LI' τ σ → LI' (g_Mobjects τ p0 p1 (mR τ) (mB τ) (mpk τ) (mgr τ) (mcd τ)) σ) : IF_objects l LI' := if_objects hl (fun _ _ h8 => (hq _ _ h8).1.p) (fun τ σ p0 p1 h8 => have h9 := hq τ σ h8; ((s0_am h9.2).cho h9.1.2.1.1).pi) (fun τ σ p0 p1 h8 => have h9 := hq τ σ h8; (s0_am h9.2).term0 h9.1.2.1.1) hk
end
section
/-! ===== pure facts: a station asks; anew; is it sound; the chart; the digest ===== -/
theorem setS_tog {τ : XS9} {k : Nat} {y : Int32} : g_setS τ k y 5004 (100 + k) = if τ 5004 (100 + k) = 0 then 1 else 0 := by
  unfold g_setS
  rw [u2_at]
theorem nmS_tog {τ : XS9} {k : Nat} {y : Int32} : nmS (g_setS τ k y) k ≠ nmS τ k := by
  unfold nmS
  rw [setS_tog]
  by_cases e : τ 5004 (100 + k) = 0
  · rw [if_pos e, if_pos e, if_neg (by decide)]
    omega
  · rw [if_neg e, if_neg e, if_pos rfl]
    omega
theorem nmS_bd {τ : XS9} {k : Nat} : 10200 + 2 * k ≤ nmS τ k ∧ nmS τ k ≤ 10201 + 2 * k := by
  unfold nmS
  split <;> omega
theorem lyQ_box {z : Int64} {C : XS9} {r : Nat} {s : Nat → Int32} (h1 : 10200 ≤ r) (h2 : r < 10300) (hn : r ≠ nmS C ((r - 10200) / 2)) : lyQ z C r s = none := by
  unfold lyQ
  rw [if_neg (by omega), if_neg (by omega), if_neg (by omega), if_neg (by omega), if_neg (by omega), if_neg (by omega), if_neg (by omega), if_neg (by omega), if_neg (by omega), if_neg (by omega), if_neg (by omega), if_neg (by omega), if_neg (by omega), if_neg (by omega), if_neg (by omega), if_neg (by omega), if_neg (by omega), if_pos h2, if_neg (fun a => hn a.2.1)]
theorem ask_old {z : Int64} {τ : XS9} {k : Nat} {y : Int32} (hk : k < 20) : (10200 ≤ nmS τ k ∧ nmS τ k < 10300) ∧ (∀ s, lyQ z (ctl (g_setS τ k y)) (nmS τ k) s = none) ∧ ∀ k2 v, xx_box v (nmS (g_setS τ k y) k2) ≠ nmS τ k := by
  have b := nmS_bd (τ := τ) (k := k)
  refine ⟨by omega, fun s => lyQ_box (by omega) (by omega) ?_, fun k2 v => ?_⟩
  · rw [show (nmS τ k - 10200) / 2 = k by omega]
    have e : nmS (ctl (g_setS τ k y)) k = nmS (g_setS τ k y) k := by
      unfold nmS
      rw [show ctl (g_setS τ k y) 5004 (100 + k) = g_setS τ k y 5004 (100 + k) from ctl_at rfl]
    rw [e]
    exact fun q => nmS_tog q.symm
  · unfold xx_box
    split
    · rename_i hs
      have := (small_nat hs).2
      omega
    · by_cases e : k2 = k
      · rw [e]
        exact nmS_tog
      · have := nmS_bd (τ := g_setS τ k y) (k := k2)
        omega
theorem K_ask : ∀ τ σ (p0 p1 : Int32), LI τ σ → LI (g_Mask τ p0 p1 (mC τ)) (g_ask σ p0 p1 (aC σ)) := fun τ σ p0 p1 h9 => have j := h9.1.1.1; have r := h9.1.2.1.1; have h := h9.1.2.1.2; ⟨⟨⟨j.ask, h9.1.1.2.ask⟩, ⟨r.ask, h9.1.2.1.2.ask r⟩, h9.1.2.2.kept VM.ask VC.ask⟩, h9.2.ask⟩
theorem G_ask {l : Launch} (hl : l.stackTraces = false) {LI' : XS9 → XS9 → Prop} (hq : ∀ τ σ, LI' τ σ → LI τ σ) (hk : ∀ τ σ (p0 p1 : Int32), LI' τ σ → LI' (g_Mask τ p0 p1 (mC τ)) (g_ask σ p0 p1 (aC σ))) : IF_ask l LI' := by
  intro z τ σ p0 p1 h8
  have h9 := hq _ _ h8
  have j := h9.1.1.1
  have r := h9.1.2.1.1
  have hS := r.hS
  refine ⟨o_ask σ p0 p1 (aC σ), g_ask σ p0 p1 (aC σ), f_Mask τ p0 p1 (mC τ), z, g_Mask τ p0 p1 (mC τ), (if n_bt p0 0 ((nI (mC τ)) - 1) then (if n_bt p1 1 9999 then some ((u2 τ 5000 0 0) 5004 (2 * (cn p0) + 1), nmS (u2 τ 5000 0 0) (2 * (cn p0) + 1)) else none) else none), fun h hh => ct_X7_ask hl j.hC.1 j.hC.2, fun E e => ?_, fun h hh => ?_, fun p hp => ?_, hk τ σ p0 p1 h8⟩
  · unfold o_ask at e
    (repeat' split at e) <;> first | (cases e; done) | (rw [← Sum.inr.inj e]; first | exact .inl rfl | exact .inr rfl)
  · have t := ct_X14_ask hl (z := z) (σ := τ) (h := h) hh.bs (fun r h1 _ => hh.no h1) hS.1 hS.2 (x := p0) (y := p1)
    have e : k_Mask h τ p0 p1 (mC τ) = boxO h (if n_bt p0 0 ((nI (mC τ)) - 1) then (if n_bt p1 1 9999 then some ((u2 τ 5000 0 0) 5004 (2 * (cn p0) + 1), nmS (u2 τ 5000 0 0) (2 * (cn p0) + 1)) else none) else none) := by
      unfold k_Mask
      (repeat' split) <;> rfl
    rw [← e]
    exact t
  · by_cases q1 : n_bt p0 0 ((nI (mC τ)) - 1)
    · by_cases q2 : n_bt p1 1 9999
      · rw [if_pos q1, if_pos q2] at hp
        have hc := ((sub1_lt (R := mC τ) (by omega)).mp q1).2
        rw [← Option.some.inj hp]
        have A := ask_old (z := z) (τ := u2 τ 5000 0 0) (k := 2 * cn p0 + 1) (y := p1) (by omega)
        have e : g_Mask τ p0 p1 (mC τ) = g_setS (u2 τ 5000 0 0) (2 * cn p0 + 1) p1 := by
          unfold g_Mask
          rw [if_pos q1, if_pos q2]
        rw [e]
        exact ⟨A.1.1, A.1.2, A.2.1, fun k _ => A.2.2 k _⟩
      · rw [if_pos q1, if_neg q2] at hp
        cases hp
    · rw [if_neg q1] at hp
      cases hp
/-! anew -/
def GAn (σ : XS9) (i : Nat) (s : XS9) : Prop := KW 8000 (2 * i) s ∧ ∀ q, q < 8000 → s q = σ q
section
variable {σ : XS9} {R B K : Nat}
theorem GAn.init : GAn σ 0 (g_Kinit σ 8000 R B) := by
  have e : ∀ q, (q = 8002 ∨ q = 8500) → g_Kinit σ 8000 R B q = fun _ => 0 := fun q hq => by
    unfold g_Kinit x_Kinit_132
    refine (xit_keep (fun s : XS9 => s q) (fun i s => ?_) B 0 _).trans ?_
    · (try dsimp only)
      rw [u2_ne (by omega), u2_ne (by omega)]
    · unfold x_Kinit_95
      refine (xit_keep (fun s : XS9 => s q) (fun i s => ?_) R 0 _).trans ?_
      · (try dsimp only)
        rw [u2_ne (by omega)]
      · unfold g_clk0
        (try dsimp only)
        rw [if_neg (by omega), if_pos (by omega)]
  refine ⟨⟨fun i hi => ?_, fun i hi => ?_⟩, fun q hq => fr_Kinit (by omega)⟩
  · rw [e _ (by omega)]
    exact bd.zero
  · rw [e _ (by omega)]
    exact bd.zero
theorem GAn.ah (hR5 : R ≤ 5) (hB6 : B ≤ 6) (hK60 : K ≤ 60) (hlog : ∀ i j, i < K → j < 6 → zo (σ (6300 + i) j) ∧ bd 7775 (σ (6100 + i) j)) {x u : Int32} {j r : Nat} (hj : j < 6) (hr : r < 5) (hu : bd 5 u) : AH (GAn σ) σ x j r u R B K := by
  have W1 : ∀ i s, i < K → GAn σ i s → ∀ f : Nat → Int32, KW 8000 (2 * i + 1) (u2 (uR (u2 (uR s (8000 + 500 + (2 * i + 1)) (s (6100 + i))) 8000 23 (nI (2 * i + 1))) (8000 + 700 + (2 * i + 1)) f) 8000 24 (nI (2 * i + 1))) := fun i s hi hg f => by
    refine ⟨fun k hk => ?_, fun k hk => ?_⟩
    · rw [u2_ne (by omega), uR_ne (by omega), u2_ne (by omega), uR_ne (by omega)]
      exact hg.1.1 k hk
    · rw [u2_ne (by omega), uR_ne (by omega), u2_ne (by omega), uR_eq, hg.2 _ (by omega)]
      exact (hlog i k hi hk).2
  have W2 : ∀ i s, i < K → GAn σ i s → ∀ f : Nat → Int32, KW 8000 (2 * i + 1) (u2 (u2 (uR (u2 (uR s (8000 + 500 + (2 * i + 1)) (s (6100 + i))) 8000 23 (nI (2 * i + 1))) (8000 + 700 + (2 * i + 1)) f) 8000 24 (nI (2 * i + 1))) (8000 + 500 + (2 * i + 1)) j (f_with ((uR s (8000 + 500 + (2 * i + 1)) (s (6100 + i))) (8000 + 500 + (2 * i + 1)) j) r u)) := fun i s hi hg f => by
    obtain ⟨a, b⟩ := W1 i s hi hg f
    refine ⟨fun k hk => ?_, fun k hk => ?_⟩
    · rw [u2_ne (by omega)]
      exact a k hk
    · by_cases e : k = j
      · rw [e, u2_at, uR_eq, hg.2 _ (by omega)]
        exact ((hlog i j hi hj).2).withd hr hu
      · rw [u2_oi e]
        exact b k hk
  refine ⟨fun i j hi hj => (hlog i j hi hj).1, GAn.init, fun i s s9 hi hg e => ?_, fun i s hi hg => (W1 i s hi hg _).hw0 hR5 hB6 (by omega), fun i s hi hg => (W2 i s hi hg _).hw0 hR5 hB6 (by omega)⟩
  unfold st_anew at e
  split at e
  · split at e
    · rw [← Sum.inl.inj e]
      refine ⟨(W2 i s hi hg _).close hR5 hB6 (by omega) (by omega) (by omega), fun q hq => ?_⟩
      rw [fr_Kclose (by omega) (by omega) (by omega) (by omega), u2_ne (by omega), u2_ne (by omega), uR_ne (by omega), u2_ne (by omega), uR_ne (by omega)]
      exact hg.2 q hq
    · rw [← Sum.inl.inj e]
      refine ⟨(W1 i s hi hg _).close hR5 hB6 (by omega) (by omega) (by omega), fun q hq => ?_⟩
      rw [fr_Kclose (by omega) (by omega) (by omega) (by omega), u2_ne (by omega), uR_ne (by omega), u2_ne (by omega), uR_ne (by omega)]
      exact hg.2 q hq
  · cases e
theorem ah0 {τ : XS9} (r : JR τ) (h : JS τ) {v : Int32} {x u : Int32} {j r9 : Nat} (hj : j < 6) (hr : r9 < 5) (hu : bd 5 u) : AH (GAn (u2 τ 5000 0 v)) (u2 τ 5000 0 v) x j r9 u (mR τ) (mB τ) (mK τ) := GAn.ah r.hR.2 r.hB.2 r.hK.2 (fun i k hi hk => by
  have := r.hK.2
  rw [u2_ne (by omega), u2_ne (by omega)]
  exact h.2.2 i k hi hk) hj hr hu
end
/-! what holders are -/
theorem xitR_res {S R : Type} {step : Nat → S → S ⊕ R} (Q : R → Prop) (h : ∀ i s r, step i s = .inr r → Q r) : ∀ (f i : Nat) (s : S) (r : R), xitR step f i s = .inr r → Q r
  | 0, i, s, r, e => by cases e
  | f + 1, i, s, r, e => by
    unfold xitR at e
    split at e
    · exact xitR_res Q h f _ _ r e
    · rename_i r' e'
      rw [← Sum.inr.inj e]
      exact h i s r' e'
theorem holds_ok {s : XS9} {r : Nat} {y : Int32} {tn B : Nat} : f_Mholds s r y tn B = -1 ∨ n_lt (f_Mholds s r y tn B) 6 := by
  unfold f_Mholds
  split
  · exact .inl rfl
  · rename_i r6 e
    refine .inr ?_
    unfold x_Mholds_6 at e
    refine xitR_res (fun r => n_lt r 6) (fun i s r e => ?_) _ _ _ _ e
    have m : n_lt (nI ((i + tn) % 6)) 6 := ⟨by rw [cn_nI (by omega)], by rw [cn_nI (by omega)]; omega⟩
    revert e
    (try dsimp only)
    (repeat' split) <;> intro e <;> first | (cases e; done) | (rw [← Sum.inr.inj e]; exact m)
theorem holder_ok {s : XS9} {r : Nat} {y : Int32} {B : Nat} {tn : Nat → Nat} : f_MholderNow s r y B tn = -1 ∨ n_lt (f_MholderNow s r y B tn) 6 := by
  unfold f_MholderNow
  split
  · exact holds_ok
  · exact .inl rfl
end
section
/-! ===== pure facts: in a set that can be packed each station finds its channel ===== -/
theorem bset {t m : Nat} (ht : t < 10) (hm : m < 2 ^ t) : (nI m ||| ((1 : Int32) <<< (nI t &&& 31))) = nI (m + 2 ^ t) ∧ (nI (m + 2 ^ t) &&& (((1 : Int32) <<< (nI t &&& 31)) ^^^ (-1))) = nI m := by
  have : ∀ t, t < 10 → ∀ m, m < 2 ^ t → (nI m ||| ((1 : Int32) <<< (nI t &&& 31))) = nI (m + 2 ^ t) ∧ (nI (m + 2 ^ t) &&& (((1 : Int32) <<< (nI t &&& 31)) ^^^ (-1))) = nI m := by decide +kernel
  exact this t ht m hm
theorem u2_back {s : XS9} {q i : Nat} {x y : Int32} (e : y = s q i) : u2 (u2 s q i x) q i y = s := by
  funext r j
  by_cases e1 : r = q
  · by_cases e2 : j = i
    · rw [e1, e2, u2_at, e]
    · rw [e1, u2_oi e2, u2_oi e2]
  · rw [u2_ne e1, u2_ne e1]
def cln (qa ch i : Nat) (s : XS9) : Prop := ∀ c, c < ch → ∃ m, m < 2 ^ i ∧ s qa c = nI m
theorem xitR_pi {S R : Type} {step : Nat → S → S ⊕ R} (P : Nat → S → Prop) (PR : R → Prop) {N : Nat} (h : ∀ i s, i < N → P i s → (∀ s', step i s = .inl s' → P (i + 1) s') ∧ ∀ r, step i s = .inr r → PR r) : ∀ (f i : Nat) (s : S), i + f = N → P i s → (∀ s', xitR step f i s = .inl s' → P N s') ∧ ∀ r, xitR step f i s = .inr r → PR r
  | 0, i, s, e, hP => ⟨fun s' e' => by
      rw [← Sum.inl.inj e', show N = i by omega]
      exact hP, fun r e' => by cases e'⟩
  | f + 1, i, s, e, hP => by
    unfold xitR
    split
    · rename_i s' e'
      exact xitR_pi P PR h f (i + 1) s' (by omega) ((h i s (by omega) hP).1 s' e')
    · rename_i r e'
      refine ⟨fun s' e2 => (by cases e2), fun r2 e2 => ?_⟩
      rw [← Sum.inr.inj e2]
      exact (h i s (by omega) hP).2 r e'
theorem xitB_noi {S : Type} {step : Nat → S → S ⊕ S} (h : ∀ i j s, step i s = step j s) : ∀ (f i j : Nat) (s : S), xitB step f i s = xitB step f j s
  | 0, _, _, _ => rfl
  | f + 1, i, j, s => by
    unfold xitB
    rw [h i j s]
    split
    · exact xitB_noi h f (i + 1) (j + 1) _
    · rfl
section
variable {s : XS9} {x : Int32} {i t fr C qa ch c : Nat} {rg : Nat → Nat}
theorem cln.mono (h : cln qa ch i s) (hij : i ≤ t) : cln qa ch t s := fun c hc => by
  obtain ⟨m, a, b⟩ := h c hc
  exact ⟨m, Nat.lt_of_lt_of_le a (Nat.pow_le_pow_right (by decide) hij), b⟩
theorem cln.put (h : cln qa ch t s) (ht : t < 10) (hc : c < ch) : cln qa ch (t + 1) (u2 s qa c ((s qa c) ||| (1 <<< ((nI t) &&& 31)))) ∧ u2 (u2 s qa c ((s qa c) ||| (1 <<< ((nI t) &&& 31)))) qa c (((u2 s qa c ((s qa c) ||| (1 <<< ((nI t) &&& 31)))) qa c) &&& ((1 <<< ((nI t) &&& 31)) ^^^ (-1))) = s := by
  obtain ⟨m, a, b⟩ := h c hc
  obtain ⟨e1, e2⟩ := bset ht a
  refine ⟨fun k hk => ?_, ?_⟩
  · by_cases e : k = c
    · subst e
      refine ⟨m + 2 ^ t, ?_, ?_⟩
      · rw [Nat.pow_succ]
        omega
      · rw [u2_at, b, e1]
    · rw [u2_oi e]
      exact (h.mono (Nat.le_succ t)) k hk
  · refine u2_back ?_
    rw [u2_at, b, e1, e2]
theorem nI_inj {a b : Nat} (ha : a < 1000) (hb : b < 1000) (h : nI a = nI b) : a = b := by
  have := congrArg cn h
  rwa [cn_nI (by omega), cn_nI (by omega)] at this
theorem x3_rng (hC10 : C ≤ 10) (h : fr ≤ C) : fr ≤ x_MpkStep_3 x fr C fr ∧ x_MpkStep_3 x fr C fr ≤ C := by
  unfold x_MpkStep_3
  refine xitB_fin (fun k s => s = fr + k) (fun s => fr ≤ s ∧ s ≤ C) (N := C - fr) (fun k s hk hs => ?_) (fun s hs => by omega) (C - fr) 0 fr (Nat.zero_add _) rfl
  (try dsimp only)
  (repeat' split) <;> refine ⟨fun s' e => ?_, fun s' e => ?_⟩ <;> first | (cases e; done) | (rw [← Sum.inl.inj e]; omega) | (rw [← Sum.inr.inj e]; omega)
theorem x3_skip (hC10 : C ≤ 10) (hi : i < C) (hb : ((x >>> ((nI i) &&& 31)) &&& 1) = 0) : x_MpkStep_3 x i C i = x_MpkStep_3 x (i + 1) C (i + 1) := by
  unfold x_MpkStep_3
  rw [show C - i = (C - (i + 1)) + 1 by omega]
  conv => lhs; unfold xitB
  have n : ¬ nI C ≤ nI i := fun e => absurd ((nI_leI (a := C) (b := i) (by omega) (by omega)).mp e) (by omega)
  (try dsimp only)
  rw [if_neg n, if_pos hb]
  exact xitB_noi (fun _ _ _ => rfl) _ _ _ _
theorem x3_here (hC10 : C ≤ 10) (hi : i < C) (hb : ¬ ((x >>> ((nI i) &&& 31)) &&& 1) = 0) : x_MpkStep_3 x i C i = i := by
  unfold x_MpkStep_3
  rw [show C - i = (C - (i + 1)) + 1 by omega]
  unfold xitB
  have n : ¬ nI C ≤ nI i := fun e => absurd ((nI_leI (a := C) (b := i) (by omega) (by omega)).mp e) (by omega)
  (try dsimp only)
  rw [if_neg n, if_neg hb]
theorem pstep {f_rec : XS9 → Nat → Int32} {g_rec : XS9 → Nat → XS9} (hC10 : C ≤ 10) (e3 : x_MpkStep_3 x fr C fr = t) (ht : t < C) (hcl : cln qa ch t s) (hg : ∀ s, cln qa ch (t + 1) s → g_rec s (t + 1) = s) :
    (∀ s', x_MpkStep_51 s f_rec g_rec x fr C rg qa ch s = .inl s' → s' = s) ∧ ∀ r, x_MpkStep_51 s f_rec g_rec x fr C rg qa ch s = .inr r → r.1 = s ∧ (r.2 = 0 ∨ ∃ c, c < ch ∧ ¬ f_MisFree s (s qa c) t rg = 0 ∧ ¬ f_rec (u2 s qa c ((s qa c) ||| (1 <<< ((nI t) &&& 31)))) (t + 1) = 0) := by
  unfold x_MpkStep_51
  rw [e3]
  refine xitR_pi (fun _ s' => s' = s) (fun r : XS9 × Int32 => r.1 = s ∧ (r.2 = 0 ∨ ∃ c, c < ch ∧ ¬ f_MisFree s (s qa c) t rg = 0 ∧ ¬ f_rec (u2 s qa c ((s qa c) ||| (1 <<< ((nI t) &&& 31)))) (t + 1) = 0)) (N := ch) (fun k s' hk hs => ?_) ch 0 s (Nat.zero_add _) rfl
  subst hs
  obtain ⟨p1, p2⟩ := hcl.put (by omega) hk
  (try dsimp only)
  rw [hg _ p1, p2]
  (repeat' split)
  · exact ⟨fun s' e => (Sum.inl.inj e).symm, fun r e => (by cases e)⟩
  · exact ⟨fun s' e => (by cases e), fun r e => (by rw [← Sum.inr.inj e]; exact ⟨rfl, .inl rfl⟩)⟩
  · exact ⟨fun s' e => (Sum.inl.inj e).symm, fun r e => (by cases e)⟩
  · rename_i a1 a2
    exact ⟨fun s' e => (by cases e), fun r e => (by rw [← Sum.inr.inj e]; exact ⟨rfl, .inr ⟨k, hk, a1, a2⟩⟩)⟩
theorem gstep_same {f_rec : XS9 → Nat → Int32} {g_rec : XS9 → Nat → XS9} (hC10 : C ≤ 10) (hfr : fr ≤ C) (hcl : cln qa ch fr s) (hg : ∀ t s, fr ≤ t → t < C → cln qa ch (t + 1) s → g_rec s (t + 1) = s) : g_MpkStep s f_rec g_rec x fr C rg qa ch = s := by
  obtain ⟨r1, r2⟩ := x3_rng (x := x) hC10 hfr
  unfold g_MpkStep
  split
  · rfl
  · rename_i hn
    have hlt : x_MpkStep_3 x fr C fr < C := Nat.lt_of_le_of_ne r2 fun q => hn (by rw [q])
    have K := pstep (f_rec := f_rec) (rg := rg) hC10 rfl hlt (hcl.mono r1) (fun s hs => hg _ s r1 hlt hs)
    split
    · rename_i e
      exact K.1 _ e
    · rename_i e
      exact (K.2 _ e).1
theorem pk_same (hC10 : C ≤ 10) : ∀ (f : Nat) (s : XS9) (fr : Nat), fr ≤ C → C - fr ≤ f → cln qa ch fr s → (fg_Mpk x C rg qa ch f).2 s fr = s
  | 0, s, fr, h1, h2, hcl => gstep_same hC10 h1 hcl (fun t s a b => absurd b (by omega))
  | f + 1, s, fr, h1, h2, hcl => gstep_same hC10 h1 hcl (fun t s a b hs => pk_same hC10 f s (t + 1) (by omega) (by omega) hs)
theorem step_cg {F F' : XS9 → Nat → Int32} {G G' : XS9 → Nat → XS9} (hC10 : C ≤ 10) (hfr : fr ≤ C) (h : ∀ t s, fr ≤ t → t < C → F s (t + 1) = F' s (t + 1) ∧ G s (t + 1) = G' s (t + 1)) : f_MpkStep s F G x fr C rg qa ch = f_MpkStep s F' G' x fr C rg qa ch ∧ g_MpkStep s F G x fr C rg qa ch = g_MpkStep s F' G' x fr C rg qa ch := by
  obtain ⟨r1, r2⟩ := x3_rng (x := x) hC10 hfr
  unfold f_MpkStep g_MpkStep
  by_cases e : nI (x_MpkStep_3 x fr C fr) = nI C
  · rw [if_pos e, if_pos e, if_pos e, if_pos e]
    exact ⟨rfl, rfl⟩
  · have hlt : x_MpkStep_3 x fr C fr < C := Nat.lt_of_le_of_ne r2 fun q => e (by rw [q])
    have h1 : ∀ s, F s (x_MpkStep_3 x fr C fr + 1) = F' s (x_MpkStep_3 x fr C fr + 1) := fun s => (h _ s r1 hlt).1
    have h2 : ∀ s, G s (x_MpkStep_3 x fr C fr + 1) = G' s (x_MpkStep_3 x fr C fr + 1) := fun s => (h _ s r1 hlt).2
    have k : x_MpkStep_51 s F G x fr C rg qa ch s = x_MpkStep_51 s F' G' x fr C rg qa ch s := by
      unfold x_MpkStep_51
      simp only [h1, h2]
    rw [if_neg e, if_neg e, if_neg e, if_neg e, k]
    exact ⟨rfl, rfl⟩
theorem pk_fuel (hC10 : C ≤ 10) : ∀ (f f' : Nat) (s : XS9) (fr : Nat), fr ≤ C → C - fr ≤ f → C - fr ≤ f' → (fg_Mpk x C rg qa ch f).1 s fr = (fg_Mpk x C rg qa ch f').1 s fr ∧ (fg_Mpk x C rg qa ch f).2 s fr = (fg_Mpk x C rg qa ch f').2 s fr
  | 0, 0, s, fr, h1, h2, h3 => ⟨rfl, rfl⟩
  | 0, f' + 1, s, fr, h1, h2, h3 => step_cg hC10 h1 (fun t s a b => absurd b (by omega))
  | f + 1, 0, s, fr, h1, h2, h3 => step_cg hC10 h1 (fun t s a b => absurd b (by omega))
  | f + 1, f' + 1, s, fr, h1, h2, h3 => step_cg hC10 h1 (fun t s a b => pk_fuel hC10 f f' s (t + 1) (by omega) (by omega) (by omega))
theorem cp_out (hC10 : C ≤ 10) (hi : i < C) (hb : ((x >>> ((nI i) &&& 31)) &&& 1) = 0) : f_Mcp s x i C rg qa ch = f_Mcp s x (i + 1) C rg qa ch := by
  obtain ⟨C', rfl⟩ : ∃ C', C = C' + 1 := ⟨C - 1, by omega⟩
  show f_MpkStep s (fg_Mpk x (C' + 1) rg qa ch C').1 (fg_Mpk x (C' + 1) rg qa ch C').2 x i (C' + 1) rg qa ch = f_MpkStep s (fg_Mpk x (C' + 1) rg qa ch C').1 (fg_Mpk x (C' + 1) rg qa ch C').2 x (i + 1) (C' + 1) rg qa ch
  unfold f_MpkStep x_MpkStep_51
  rw [x3_skip hC10 hi hb]
theorem fits_same (hC10 : C ≤ 10) (hi : i < C) (hc : c < ch) (hcl : cln qa ch i s) : g_MisFits s x i c C rg qa ch = s := by
  unfold g_MisFits
  split
  · rfl
  · obtain ⟨p1, p2⟩ := hcl.put (by omega) hc
    unfold g_Mcp
    rw [pk_same hC10 C _ (i + 1) (by omega) (by omega) p1]
    exact p2
theorem cp_in (hC10 : C ≤ 10) (hi : i < C) (hb : ¬ ((x >>> ((nI i) &&& 31)) &&& 1) = 0) (hcl : cln qa ch i s) (h : ¬ f_Mcp s x i C rg qa ch = 0) : ∃ c, c < ch ∧ ¬ f_MisFits s x i c C rg qa ch = 0 := by
  obtain ⟨C', rfl⟩ : ∃ C', C = C' + 1 := ⟨C - 1, by omega⟩
  have e3 := x3_here hC10 hi hb
  have h : ¬ f_MpkStep s (fg_Mpk x (C' + 1) rg qa ch C').1 (fg_Mpk x (C' + 1) rg qa ch C').2 x i (C' + 1) rg qa ch = 0 := h
  unfold f_MpkStep at h
  rw [if_neg (by rw [e3]; exact fun q => absurd (nI_inj (by omega) (by omega) q) (by omega))] at h
  have K := pstep (f_rec := (fg_Mpk x (C' + 1) rg qa ch C').1) (g_rec := (fg_Mpk x (C' + 1) rg qa ch C').2) (rg := rg) hC10 e3 hi hcl (fun s hs => pk_same hC10 C' s (i + 1) (by omega) (by omega) hs)
  split at h
  · exact absurd rfl h
  · rename_i r e
    rcases (K.2 _ e).2 with z | ⟨c, c1, c2, c3⟩
    · exact absurd z h
    · refine ⟨c, c1, ?_⟩
      unfold f_MisFits
      rw [if_neg c2]
      unfold f_Mcp
      rw [(pk_fuel hC10 (C' + 1) C' _ (i + 1) (by omega) (by omega) (by omega)).1]
      exact c3
end
section
variable {τ : XS9} {x y v : Int32} {C : Nat} {rg : Nat → Nat}
def PIc (x y v : Int32) (C : Nat) (rg : Nat → Nat) (i : Nat) (s : XS9) : Prop := cn v < C ∧ cln 20000 (cn y) i s ∧ ¬ f_Mcp s (nI (cn x)) i C rg 20000 (cn y) = 0
def PJc (x y : Int32) (C : Nat) (rg : Nat → Nat) (i c : Nat) (s : XS9) : Prop := i < C ∧ ¬ (((nI (cn x)) >>> ((nI i) &&& 31)) &&& 1) = 0 ∧ cln 20000 (cn y) i s ∧ ¬ f_Mcp s (nI (cn x)) i C rg 20000 (cn y) = 0 ∧ ∀ c', c' < c → f_MisFits s (nI (cn x)) i c' C rg 20000 (cn y) = 0
theorem PJc.no (hC10 : C ≤ 10) {i : Nat} {s : XS9} (h : PJc x y C rg i (cn y) s) : False := by
  obtain ⟨h1, h2, h3, h4, h5⟩ := h
  obtain ⟨c, c1, c2⟩ := cp_in hC10 h1 h2 h3 h4
  exact c2 (h5 c c1)
theorem PJc.next (hC10 : C ≤ 10) {i c : Nat} {s : XS9} (h : PJc x y C rg i c s) (hc : c < cn y) (hf : f_MisFits s (nI (cn x)) i c C rg 20000 (cn y) = 0) : PJc x y C rg i (c + 1) (g_MisFits s (nI (cn x)) i c C rg 20000 (cn y)) := by
  obtain ⟨h1, h2, h3, h4, h5⟩ := h
  rw [fits_same hC10 h1 hc h3]
  refine ⟨h1, h2, h3, h4, fun c' hc' => ?_⟩
  rcases Nat.lt_or_ge c' c with q | q
  · exact h5 c' q
  · obtain rfl : c' = c := by omega
    exact hf
theorem PIc.start (hC10 : C ≤ 10) (hy : cn y ≤ 6) (hv : cn v < C) {s : XS9} (h : ¬ f_Mcp (uR s 20000 (rowN (cn y))) (nI (cn x)) 0 C rg 20000 (cn y) = 0) : PIc x y v C rg 0 (g_Mcp (uR s 20000 (rowN (cn y))) (nI (cn x)) 0 C rg 20000 (cn y)) := by
  have c0 : cln 20000 (cn y) 0 (uR s 20000 (rowN (cn y))) := fun c hc => ⟨0, by decide, by
    rw [uR_eq]
    unfold rowN
    rw [if_neg (by omega), if_neg (by omega)]
    rfl⟩
  have e : g_Mcp (uR s 20000 (rowN (cn y))) (nI (cn x)) 0 C rg 20000 (cn y) = uR s 20000 (rowN (cn y)) := pk_same hC10 C _ 0 (by omega) (by omega) c0
  rw [e]
  exact ⟨hv, c0, h⟩
theorem chan_found (hC10 : C ≤ 10) {i : Nat} {s : XS9} (h : PJc x y C rg i 0 s) : (x_Mchannel_104 x y C rg i (s, 0)).1 = s ∧ (x_Mchannel_104 x y C rg i (s, 0)).2 < cn y ∧ ¬ f_MisFits s (nI (cn x)) i (x_Mchannel_104 x y C rg i (s, 0)).2 C rg 20000 (cn y) = 0 := by
  unfold x_Mchannel_104
  refine xitB_fin (fun k t => t = (s, k) ∧ PJc x y C rg i k s) (fun t => t.1 = s ∧ t.2 < cn y ∧ ¬ f_MisFits s (nI (cn x)) i t.2 C rg 20000 (cn y) = 0) (N := cn y) (fun k t hk ht => ?_) (fun t ht => (PJc.no hC10 ht.2).elim) (cn y) 0 (s, 0) (Nat.zero_add _) ⟨rfl, h⟩
  obtain ⟨rfl, hp⟩ := ht
  have e := fits_same (rg := rg) (x := nI (cn x)) hC10 hp.1 hk hp.2.2.1
  (try dsimp only)
  split
  · rename_i hf
    refine ⟨fun s' q => ?_, fun s' q => (by cases q)⟩
    rw [← Sum.inl.inj q, e]
    have := hp.next hC10 hk hf
    rw [e] at this
    exact ⟨rfl, this⟩
  · rename_i hf
    refine ⟨fun s' q => (by cases q), fun s' q => ?_⟩
    rw [← Sum.inr.inj q]
    exact ⟨e, hk, hf⟩
theorem PIc.step (hC10 : C ≤ 10) {i : Nat} {s s' : XS9} (hi : i < cn v + 1) (h : PIc x y v C rg i s) (e : s_Mchan x y v C rg i s = .inl s') : PIc x y v C rg (i + 1) s' := by
  obtain ⟨h1, h2, h3⟩ := h
  unfold s_Mchan at e
  split at e
  · rename_i hb
    rw [← Sum.inl.inj e]
    exact ⟨h1, h2.mono (Nat.le_succ i), by rw [← cp_out hC10 (by omega) hb]; exact h3⟩
  · rename_i hb
    split at e
    · cases e
    · rw [← Sum.inl.inj e]
      obtain ⟨a, b, c⟩ := chan_found hC10 (show PJc x y C rg i 0 s from ⟨by omega, hb, h2, h3, fun c' hc' => absurd hc' (by omega)⟩)
      rw [a]
      refine ⟨h1, (h2.put (by omega) b).1, ?_⟩
      unfold f_MisFits at c
      split at c
      · exact absurd rfl c
      · exact c
theorem chan_mem {R : Nat} : (∃ t, g_Mchannel τ x y v R C rg = u2 (u2 τ 5000 0 0) 5000 0 t) ∨ ((∀ q, q ≠ 20000 → g_Mchannel τ x y v R C rg q = u2 τ 5000 0 0 q) ∧ g_Mchannel τ x y v R C rg 20000 20 = 0) := by
  unfold g_Mchannel
  split
  · split
    · split
      · rename_i hy
        have hc := cn6 hy
        refine .inr ?_
        split
        · exact ⟨fun q hq => by rw [u2_ne hq, uR_ne hq], u2_at⟩
        · split
          · exact ⟨fun q hq => by rw [u2_ne hq, fr_Mcp ⟨hq, hc⟩, uR_ne hq], u2_at⟩
          · have F : ∀ q, q ≠ 20000 → g_Mcp (uR (u2 τ 5000 0 0) 20000 (rowN (cn y))) (nI (cn x)) 0 C rg 20000 (cn y) q = u2 τ 5000 0 0 q := fun q hq => by rw [fr_Mcp ⟨hq, hc⟩, uR_ne hq]
            generalize g_Mcp (uR (u2 τ 5000 0 0) 20000 (rowN (cn y))) (nI (cn x)) 0 C rg 20000 (cn y) = s0 at F ⊢
            have A : ∀ i s, (∀ q, q ≠ 20000 → s q = u2 τ 5000 0 0 q) → ∀ q, q ≠ 20000 → (x_Mchannel_104 x y C rg i (s, 0)).1 q = u2 τ 5000 0 0 q := fun i s hs => by
              unfold x_Mchannel_104
              refine xitB_all (fun t : XS9 × Nat => ∀ q, q ≠ 20000 → t.1 q = u2 τ 5000 0 0 q) (N := cn y) (fun k t t' hk ht => ?_) (cn y) 0 _ (Nat.zero_add _) hs
              (try dsimp only)
              split
              · intro e
                rcases e with e | e
                · rw [← Sum.inl.inj e]
                  exact fun q hq => (fr_MisFits ⟨hq, hc⟩).trans (ht q hq)
                · cases e
              · intro e
                rcases e with e | e
                · cases e
                · rw [← Sum.inr.inj e]
                  exact fun q hq => (fr_MisFits ⟨hq, hc⟩).trans (ht q hq)
            have B := xitR_pi (step := s_Mchan x y v C rg) (fun _ s => ∀ q, q ≠ 20000 → s q = u2 τ 5000 0 0 q) (fun r : XS9 × Int32 => (∀ q, q ≠ 20000 → r.1 q = u2 τ 5000 0 0 q) ∧ r.1 20000 20 = 0) (N := cn v + 1) (fun i s hi hs => by
              unfold s_Mchan
              split
              · exact ⟨fun s' e => (by rw [← Sum.inl.inj e]; exact hs), fun r e => (by cases e)⟩
              · split
                · refine ⟨fun s' e => (by cases e), fun r e => ?_⟩
                  rw [← Sum.inr.inj e]
                  exact ⟨fun q hq => by dsimp only; rw [u2_ne hq, u2_ne hq]; exact A i s hs q hq, by dsimp only; rw [u2_at]⟩
                · refine ⟨fun s' e => ?_, fun r e => (by cases e)⟩
                  rw [← Sum.inl.inj e]
                  exact fun q hq => by rw [u2_ne hq]; exact A i s hs q hq) (cn v + 1) 0 s0 (Nat.zero_add _) F
            have B : (∀ s', x_Mchannel_83 x y v C rg s0 = .inl s' → ∀ q, q ≠ 20000 → s' q = u2 τ 5000 0 0 q) ∧ ∀ r, x_Mchannel_83 x y v C rg s0 = .inr r → (∀ q, q ≠ 20000 → r.1 q = u2 τ 5000 0 0 q) ∧ r.1 20000 20 = 0 := B
            generalize x_Mchannel_83 x y v C rg s0 = w at B ⊢
            cases w with
            | inl s83 => exact ⟨fun q hq => by dsimp only; rw [u2_ne hq]; exact B.1 _ rfl q hq, u2_at⟩
            | inr r83 => exact B.2 _ rfl
      · exact .inl ⟨2, rfl⟩
    · exact .inl ⟨2, rfl⟩
  · exact .inl ⟨1, rfl⟩
theorem chan_all {R : Nat} (r : JR τ) (h : JS τ) (p : JP τ) : (JR (g_Mchannel τ x y v R C rg) ∧ JS (g_Mchannel τ x y v R C rg) ∧ JP (g_Mchannel τ x y v R C rg)) ∧ VM τ (g_Mchannel τ x y v R C rg) := by
  rcases chan_mem (τ := τ) (x := x) (y := y) (v := v) (R := R) (C := C) (rg := rg) with ⟨t, e⟩ | ⟨e1, e2⟩
  · rw [e]
    exact ⟨⟨r.s00, h.s00 r, p.s00⟩, VM.s00⟩
  · generalize g_Mchannel τ x y v R C rg = u at e1 e2 ⊢
    have r0 := r.s0 (x := 0)
    refine ⟨⟨r0.hi (fun q hq => e1 q (by omega)) ⟨⟨?_, ?_⟩, fun q a b => ?_⟩, (h.s0 r).hi r0 fun q hq => e1 q (by omega), p.s0.hi fun q hq => e1 q (by omega)⟩, VM.s0.trans (VM.hi fun q hq => e1 q (by omega))⟩
    · rw [e1 _ (by decide)]
      exact r0.2.1.1
    · rw [e1 _ (by decide)]
      exact r0.2.1.2
    · by_cases e0 : q = 20000
      · rw [e0]
        exact e2
      · rw [e1 _ e0]
        exact r0.2.2 q a b
end
end
section
/-! ===== is it sound, the digest, the chart ===== -/
section
variable {t : XS9}
abbrev vSn (t : XS9) : Int32 := f_MisSound_n t (mR t) (mB t) (mK t) (mC t) (mpk t) (mg t) (mtn t) (msp t)
abbrev vSc (t : XS9) : Int32 := f_MisSound_c t (mR t) (mB t) (mK t) (mC t) (mpk t) (mg t) (mtn t) (msp t)
def vS (t : XS9) : Int32 := if t 7000 25 = nI 0 then vSn t else vSc t
theorem soundNow {l : Launch} (hl : l.stackTraces = false) (r : JR t) (h : JS t) (y : Int64) (h2 : XH) (hh : okM h2) : XEx l m_X14_isSoundNow 12 495 8668 [.ref 5000] (setM y t h2) (some (.int (vS t))) (setM y t h2) := by
  unfold vS
  by_cases e : t 7000 25 = nI 0
  · rw [if_pos e]
    exact ct_MisSound_n hl hh.bs (fun r h1 _ => hh.no h1) r.me r.hR.1 r.hR.2 r.hB.1 r.hB.2 r.hK.1 r.hK.2 r.hS.1 r.hS.2 r.hpk r.hkp r.htn r.hsp (fun s i j _ _ _ => holder_ok) r.hg.1 r.hg.2 r.hw.1 r.hw.2 e
  · rw [if_neg e]
    have f := r.hfl.resolve_left e
    exact ct_MisSound_c hl hh.bs (fun r h1 _ => hh.no h1) r.me r.hR.1 r.hR.2 r.hB.1 r.hB.2 r.hK.1 r.hK.2 r.hS.1 r.hS.2 r.hpk r.hkp r.htn r.hsp (fun s i j _ _ _ => holder_ok) r.hg.1 r.hg.2 r.hw.1 r.hw.2 f.2 f.1 (GA := GAn t) (GAn.ah r.hR.2 r.hB.2 r.hK.2 (fun i k hi hk => h.2.2 i k hi hk) (by decide) (by decide) bd.zero)
theorem sn_26 {R B K C : Nat} {pk : Nat → Nat} {g : Nat} {tn sp : Nat → Nat} {i : Nat} : ∀ r, x_MisSound_n_26 t R B K C pk g tn sp i () = .inr r → r = 0 := fun r e => by
  refine xitR_res (fun r => r = 0) (fun k s r e => ?_) R 0 () r e
  revert e
  (try dsimp only)
  split
  · intro e
    cases e
  · exact fun e => (Sum.inr.inj e).symm
theorem sn_128 {R B K C : Nat} {pk : Nat → Nat} {g : Nat} {tn sp : Nat → Nat} : ∀ r, x_MisSound_n_128 t R B K C pk g tn sp () = .inr r → r = 0 := fun r e => by
  refine xitR_res (fun r => r = 0) (fun k s r e => ?_) R 0 () r e
  revert e
  (try dsimp only)
  split
  · intro e
    cases e
  · exact fun e => (Sum.inr.inj e).symm
theorem sn_2 {R B K C : Nat} {pk : Nat → Nat} {g : Nat} {tn sp : Nat → Nat} : ∀ r, x_MisSound_n_2 t R B K C pk g tn sp () = .inr r → r = 0 := fun r e => by
  refine xitR_res (fun r => r = 0) (fun i s r e => ?_) B 0 () r e
  have H := sn_26 (t := t) (R := R) (B := B) (K := K) (C := C) (pk := pk) (g := g) (tn := tn) (sp := sp) (i := i)
  revert e
  (try dsimp only)
  generalize x_MisSound_n_26 t R B K C pk g tn sp i () = w at H
  split
  · cases w with
    | inl s =>
      (try dsimp only)
      split
      · split
        · intro e
          cases e
        · split
          · intro e
            cases e
          · exact fun e => (Sum.inr.inj e).symm
      · intro e
        cases e
    | inr q =>
      intro e
      rw [← Sum.inr.inj e]
      exact H q rfl
  · exact fun e => (Sum.inr.inj e).symm
theorem sc_26 {R B K C : Nat} {pk : Nat → Nat} {g : Nat} {tn sp : Nat → Nat} {i : Nat} : ∀ r, x_MisSound_c_26 t R B K C pk g tn sp i () = .inr r → r = 0 := fun r e => by
  refine xitR_res (fun r => r = 0) (fun k s r e => ?_) R 0 () r e
  revert e
  (try dsimp only)
  split
  · intro e
    cases e
  · exact fun e => (Sum.inr.inj e).symm
theorem sc_128 {R B K C : Nat} {pk : Nat → Nat} {g : Nat} {tn sp : Nat → Nat} : ∀ r, x_MisSound_c_128 t R B K C pk g tn sp () = .inr r → r = 0 := fun r e => by
  refine xitR_res (fun r => r = 0) (fun k s r e => ?_) R 0 () r e
  revert e
  (try dsimp only)
  split
  · intro e
    cases e
  · exact fun e => (Sum.inr.inj e).symm
theorem sc_2 {R B K C : Nat} {pk : Nat → Nat} {g : Nat} {tn sp : Nat → Nat} : ∀ r, x_MisSound_c_2 t R B K C pk g tn sp () = .inr r → r = 0 := fun r e => by
  refine xitR_res (fun r => r = 0) (fun i s r e => ?_) B 0 () r e
  have H := sc_26 (t := t) (R := R) (B := B) (K := K) (C := C) (pk := pk) (g := g) (tn := tn) (sp := sp) (i := i)
  revert e
  (try dsimp only)
  generalize x_MisSound_c_26 t R B K C pk g tn sp i () = w at H
  split
  · cases w with
    | inl s =>
      (try dsimp only)
      split
      · split
        · intro e
          cases e
        · split
          · intro e
            cases e
          · exact fun e => (Sum.inr.inj e).symm
      · intro e
        cases e
    | inr q =>
      intro e
      rw [← Sum.inr.inj e]
      exact H q rfl
  · exact fun e => (Sum.inr.inj e).symm
theorem sn_01 {R B K C : Nat} {pk : Nat → Nat} {g : Nat} {tn sp : Nat → Nat} : f_MisSound_n t R B K C pk g tn sp = 0 ∨ f_MisSound_n t R B K C pk g tn sp = 1 := by
  have H1 := sn_2 (t := t) (R := R) (B := B) (K := K) (C := C) (pk := pk) (g := g) (tn := tn) (sp := sp)
  have H2 := sn_128 (t := t) (R := R) (B := B) (K := K) (C := C) (pk := pk) (g := g) (tn := tn) (sp := sp)
  unfold f_MisSound_n
  generalize x_MisSound_n_2 t R B K C pk g tn sp () = w1 at H1 ⊢
  generalize x_MisSound_n_128 t R B K C pk g tn sp () = w2 at H2 ⊢
  generalize f_MareNamed t R B sp tn pk = n1
  skip
  cases w1 with
  | inl s =>
    cases w2 with
    | inl s =>
      (try dsimp only)
      split
      · split
        · exact .inl rfl
        · exact .inr rfl
      · exact .inr rfl
    | inr q => exact .inl (H2 q rfl)
  | inr q => exact .inl (H1 q rfl)
theorem sc_01 {R B K C : Nat} {pk : Nat → Nat} {g : Nat} {tn sp : Nat → Nat} : f_MisSound_c t R B K C pk g tn sp = 0 ∨ f_MisSound_c t R B K C pk g tn sp = 1 := by
  have H1 := sc_2 (t := t) (R := R) (B := B) (K := K) (C := C) (pk := pk) (g := g) (tn := tn) (sp := sp)
  have H2 := sc_128 (t := t) (R := R) (B := B) (K := K) (C := C) (pk := pk) (g := g) (tn := tn) (sp := sp)
  unfold f_MisSound_c
  generalize x_MisSound_c_2 t R B K C pk g tn sp () = w1 at H1 ⊢
  generalize x_MisSound_c_128 t R B K C pk g tn sp () = w2 at H2 ⊢
  generalize f_MareNamed t R B sp tn pk = n1
  generalize f_MisLogged t R B K = n2
  cases w1 with
  | inl s =>
    cases w2 with
    | inl s =>
      (try dsimp only)
      split
      · split
        · exact .inl rfl
        · split
          · exact .inl rfl
          · exact .inr rfl
      · split
        · exact .inl rfl
        · exact .inr rfl
    | inr q => exact .inl (H2 q rfl)
  | inr q => exact .inl (H1 q rfl)
theorem vS_01 : vS t = 0 ∨ vS t = 1 := by
  unfold vS
  split
  · exact sn_01
  · exact sc_01
end
theorem K_isSound : ∀ τ σ, LI τ σ → LI (u2 τ 5000 0 0) (g_isSound σ (aR σ) (aB σ) (aw σ) (aK σ)) := fun τ σ h9 => have j := h9.1.1.1; have r := h9.1.2.1.1; have h := h9.1.2.1.2; ⟨⟨⟨j.isSound j.hK.2, h9.1.1.2.isSound j.hK.2⟩, ⟨r.s0, h.s0 r⟩, h9.1.2.2.kept VM.s0 (VC.isSound j.hK.2)⟩, h9.2.s0⟩
theorem G_isSound {l : Launch} (hl : l.stackTraces = false) {LI' : XS9 → XS9 → Prop} (hq : ∀ τ σ, LI' τ σ → LI τ σ) (hk : ∀ τ σ, LI' τ σ → LI' (u2 τ 5000 0 0) (g_isSound σ (aR σ) (aB σ) (aw σ) (aK σ))) : IF_isSound l LI' := by
  intro z τ σ h8
  have h9 := hq _ _ h8
  have j := h9.1.1.1
  have r := h9.1.2.1.1
  have h := h9.1.2.1.2
  exact ⟨f_isSound σ (aR σ) (aB σ) (aw σ) (aK σ), g_isSound σ (aR σ) (aB σ) (aw σ) (aK σ), f_MisSound τ (vS (u2 τ 5000 0 0)), z, g_MisSound τ (vS (u2 τ 5000 0 0)), fun h hh => ct_X7_isSound hl j.hR.1 j.hR.2 j.hB.1 j.hB.2 j.hw.1 j.hw.2 j.hK.1 j.hK.2, fun h2 hh => ct_X14_isSound hl hh.bs vS_01 (soundNow hl r.s0 (h.s0 r) z h2 hh), hk τ σ h8⟩
theorem JC.hho {σ : XS9} (j : JC σ) : ∀ r, r < aR σ → ∀ k, k < asp σ r → σ (1141 + r) k = -1 ∨ ∃ x, x < 10 ∧ σ (1141 + r) k = nI x := fun r hr k hk => by
  have h1 := j.hR.2
  have h2 := (j.hsp r (by omega)).2
  rcases j.2.2.2.2.2.2.2.2.2.2.2 r k (by omega) (by omega) with e | e
  · exact .inl e
  · exact .inr ⟨_, Nat.lt_succ_of_le e.2, e.1⟩
theorem K_digest : ∀ τ σ, LI τ σ → LI (u2 τ 5000 0 0) (g_digest σ (aK σ) (aB σ) (aR σ) (aC σ) (aw σ) (arg σ)) := fun τ σ h9 => have j := h9.1.1.1; have r := h9.1.2.1.1; have h := h9.1.2.1.2; ⟨⟨⟨j.digest j.hK.2, h9.1.1.2.digest j.hK.2⟩, ⟨r.s0, h.s0 r⟩, h9.1.2.2.kept VM.s0 (VC.digest j.hK.2)⟩, h9.2.s0⟩
theorem G_digest {l : Launch} (hl : l.stackTraces = false) {LI' : XS9 → XS9 → Prop} (hq : ∀ τ σ, LI' τ σ → LI τ σ) (hk : ∀ τ σ, LI' τ σ → LI' (u2 τ 5000 0 0) (g_digest σ (aK σ) (aB σ) (aR σ) (aC σ) (aw σ) (arg σ))) : IF_digest l LI' := by
  intro z τ σ h8
  have h9 := hq _ _ h8
  have j := h9.1.1.1
  have r := h9.1.2.1.1
  have h := h9.1.2.1.2
  have ha := s0_am (x := 0) h9.2
  have hc := ha.cho (R := mR τ) (gr := mgr τ) (cd := mcd τ) r
  have hB6 := r.hB.2
  refine ⟨f_digest σ (aK σ) (aB σ) (aR σ) (aC σ) (aw σ) (acn σ) (asp σ) (arg σ), g_digest σ (aK σ) (aB σ) (aR σ) (aC σ) (aw σ) (arg σ), f_Mdigest τ (mR τ) (mB τ) (mpk τ) (mgr τ) (mcd τ) (mK τ) (mC τ) (mg τ) (mtn τ) (msp τ) (mrg τ) (vS (u2 τ 5000 0 0)), f_Mdigest τ (mR τ) (mB τ) (mpk τ) (mgr τ) (mcd τ) (mK τ) (mC τ) (mg τ) (mtn τ) (msp τ) (mrg τ) (vS (u2 τ 5000 0 0)), u2 τ 5000 0 0, fun h hh => ct_X7_digest hl j.hK.1 j.hK.2 j.hB.1 j.hB.2 j.hR.1 j.hR.2 j.hC.1 j.hC.2 j.hw.1 j.hw.2 j.hct j.ham j.hsp j.hho j.hrg hh.dig (hh.no (by decide) (by decide)) (hh.no (by decide) (by decide)), fun h2 hh => ct_X14_digest hl hh.bs hh.tl (fun q h1 _ => hh.no (by omega)) (fun r h1 _ => hh.no h1) r.me r.hR.1 r.hR.2 r.hB.1 r.hB.2 (pk := mpk τ) r.hpk (gr := mgr τ) r.hgr (cd := mcd τ) r.hcd r.hK.1 r.hK.2 r.hS.1 r.hS.2 r.hfl r.hg.1 r.hg.2 r.hw.1 r.hw.2 r.hkp (tn := mtn τ) r.htn (sp := msp τ) r.hsp (rg := mrg τ) r.hrg (fun i s _ _ => holder_ok) hc.pi ?_ (fun y => soundNow hl r.s0 (h.s0 r) y h2 hh), hk τ σ h8⟩
  refine pay_term (pk := mpk τ) (by omega) hB6 (hc.of hB6 fun q hq => fr_Cpay ⟨by omega, hB6⟩) (fun a k ha9 hk => ?_) r.pk6
  rw [fr_Cpay ⟨by omega, hB6⟩, fr_Cinit (by omega)]
  exact ha a k ha9 hk
theorem K_chart : ∀ τ σ (t : Int32), LI τ σ → LI (u2 τ 5000 0 t) σ := fun τ σ t h9 => have j := h9.1.1.1; have r := h9.1.2.1.1; have h := h9.1.2.1.2; ⟨⟨h9.1.1, ⟨r.s0, h.s0 r⟩, h9.1.2.2.kept VM.s0 VC.rfl'⟩, h9.2.s0⟩
theorem G_chart {l : Launch} (hl : l.stackTraces = false) {LI' : XS9 → XS9 → Prop} (hq : ∀ τ σ, LI' τ σ → LI τ σ) (hk : ∀ τ σ (t : Int32), LI' τ σ → LI' (u2 τ 5000 0 t) σ) : IF_chart l LI' := by
  intro z τ σ p0 h8
  have h9 := hq _ _ h8
  have j := h9.1.1.1
  have r := h9.1.2.1.1
  have h := h9.1.2.1.2
  refine ⟨(if n_lt p0 (aR σ) then some (2 * asp σ (cn p0) - 1, gD (σ (1141 + cn p0)) (fun _ => .int 0) (asp σ (cn p0))) else none), (if n_lt p0 (mR τ) then 0 else 1), (if n_lt p0 (mR τ) then some (2 * msp τ (cn p0) - 1, gD (fun s => f_MholderNow (u2 τ 5000 0 0) (cn p0) (nI s) (mB τ) (mtn τ)) (fun _ => Value.int 0) (msp τ (cn p0))) else none), fun h2 hh => ?_, fun p hp i hi => ?_, fun h2 hh => ?_, hk τ σ _ h8⟩
  · have t := ct_X7_chart hl (h := h2) j.hR.1 j.hR.2 j.hsp j.hho hh.dig (hh.no (by decide) (by decide)) (hh.no (by decide) (by decide)) (hh.no (by decide) (by decide)) (hh.no (by decide) (by decide)) (x := p0)
    unfold o_chart g_chart at t
    by_cases q : n_lt p0 (aR σ)
    · rw [if_pos q, if_pos q] at t
      rw [if_pos q]
      exact t
    · rw [if_neg q, if_neg q] at t
      rw [if_neg q]
      exact t
  · by_cases q : n_lt p0 (aR σ)
    · rw [if_pos q] at hp
      rw [← Option.some.inj hp]
      exact gD_I i
    · rw [if_neg q] at hp
      cases hp
  · have t := ct_X14_chart hl (z := z) (h := h2) hh.bs hh.tl (fun q h1 _ => hh.no (by omega)) r.hR.1 r.hR.2 r.hB.1 r.hB.2 (pk := mpk τ) r.hpk r.hkp (tn := mtn τ) r.htn (sp := msp τ) r.hsp (x := p0) (fun i s _ _ => holder_ok)
    by_cases q : n_lt p0 (mR τ)
    · rw [if_pos q, if_pos q] at t
      rw [if_pos q, if_pos q]
      exact t
    · rw [if_neg q, if_neg q] at t
      rw [if_neg q, if_neg q]
      exact t
end
section
/-! ===== the last three interfaces ===== -/
theorem K_most : ∀ τ σ (p0 p1 : Int32), LI τ σ → LI (g_Mmost τ p0 p1 (mR τ) (mB τ) (mg τ)) σ := fun τ σ p0 p1 h9 => by
  have r := h9.1.2.1.1
  have h := h9.1.2.1.2
  refine ⟨⟨h9.1.1, ⟨r.most, ?_⟩, h9.1.2.2.kept VM.most VC.rfl'⟩, ?_⟩
  · unfold g_Mmost
    (repeat' split) <;> first | exact h.s0 r | exact h.s00 r
  · unfold g_Mmost
    (repeat' split) <;> first | exact h9.2.s0 | exact h9.2.s00
theorem G_most {l : Launch} (hl : l.stackTraces = false) {LI' : XS9 → XS9 → Prop} (hq : ∀ τ σ, LI' τ σ → LI τ σ) (hk : ∀ τ σ (p0 p1 : Int32), LI' τ σ → LI' (g_Mmost τ p0 p1 (mR τ) (mB τ) (mg τ)) σ) : IF_most l LI' := if_most hl (fun _ _ h8 => (hq _ _ h8).1.p) (fun τ σ p0 p1 h8 a b hs => have h9 := hq τ σ h8; (h9.1.2.1.2.1 hs).1.hm0 (by have := a.2; have := h9.1.2.1.1.hB.2; omega) (by have := b.2; have := h9.1.2.1.1.hR.2; omega)) hk
theorem K_anew : ∀ τ σ (p0 p1 p2 p3 : Int32), LI τ σ → LI (u2 (u2 τ 5000 0 0) 5000 0 (t_anew p0 p1 p2 p3 (mR τ) (mB τ) (mK τ))) (g_anew σ p0 p1 p2 p3 (aR σ) (aB σ) (aK σ)) := fun τ σ p0 p1 p2 p3 h9 => have j := h9.1.1.1; have r := h9.1.2.1.1; have h := h9.1.2.1.2; ⟨⟨⟨j.anew j.hK.2, h9.1.1.2.anew j.hK.2⟩, ⟨r.s00, h.s00 r⟩, h9.1.2.2.kept VM.s00 (VC.anew j.hK.2)⟩, h9.2.s00⟩
theorem G_anew {l : Launch} (hl : l.stackTraces = false) {LI' : XS9 → XS9 → Prop} (hq : ∀ τ σ, LI' τ σ → LI τ σ) (hk : ∀ τ σ (p0 p1 p2 p3 : Int32), LI' τ σ → LI' (u2 (u2 τ 5000 0 0) 5000 0 (t_anew p0 p1 p2 p3 (mR τ) (mB τ) (mK τ))) (g_anew σ p0 p1 p2 p3 (aR σ) (aB σ) (aK σ))) : IF_anew l LI' := by
  intro z τ σ p0 p1 p2 p3 h8
  have h9 := hq _ _ h8
  have j := h9.1.1.1
  have r := h9.1.2.1.1
  have h := h9.1.2.1.2
  refine ⟨o_anew σ p0 p1 p2 p3 (aR σ) (aB σ) (aK σ), g_anew σ p0 p1 p2 p3 (aR σ) (aB σ) (aK σ), f_Manew τ p0 p1 p2 p3 (mR τ) (mB τ) (mK τ), z, u2 (u2 τ 5000 0 0) 5000 0 (t_anew p0 p1 p2 p3 (mR τ) (mB τ) (mK τ)), fun h hh => ct_X7_anew hl j.hR.1 j.hR.2 j.hB.1 j.hB.2 j.hK.1 j.hK.2, fun E e => ?_, fun h2 hh => ct_anew hl hh.bs (fun r h1 _ => hh.no h1) r.me r.hR.1 r.hR.2 r.hB.1 r.hB.2 r.hK.1 r.hK.2 (GA := GAn (u2 τ 5000 0 0)) (fun a1 a2 a3 a4 => ah0 r h (by have := a2.2; have := r.hB.2; omega) (by have := a3.2; have := r.hR.2; omega) (bd.bt a4 (by decide) rfl (by decide))), hk τ σ p0 p1 p2 p3 h8⟩
  unfold o_anew at e
  (repeat' split at e) <;> first | (cases e; done) | (rw [← Sum.inr.inj e]; first | exact .inl rfl | exact .inr rfl)
theorem K_channel : ∀ τ σ (p0 p1 p2 : Int32), LI τ σ → LI (g_Mchannel τ p0 p1 p2 (mR τ) (mC τ) (mrg τ)) (g_channel σ p0 p1 p2 (aC σ) (arg σ)) := fun τ σ p0 p1 p2 h9 => have j := h9.1.1.1; have r := h9.1.2.1.1; have h := h9.1.2.1.2; have ca := chan_all (x := p0) (y := p1) (v := p2) (R := mR τ) (C := mC τ) (rg := mrg τ) r h9.1.2.1.2 h9.2; ⟨⟨⟨j.channel, h9.1.1.2.channel⟩, ⟨ca.1.1, ca.1.2.1⟩, h9.1.2.2.kept ca.2 VC.channel⟩, ca.1.2.2⟩
theorem G_channel {l : Launch} (hl : l.stackTraces = false) {LI' : XS9 → XS9 → Prop} (hq : ∀ τ σ, LI' τ σ → LI τ σ) (hk : ∀ τ σ (p0 p1 p2 : Int32), LI' τ σ → LI' (g_Mchannel τ p0 p1 p2 (mR τ) (mC τ) (mrg τ)) (g_channel σ p0 p1 p2 (aC σ) (arg σ))) : IF_channel l LI' := by
  intro z τ σ p0 p1 p2 h8
  have h9 := hq _ _ h8
  have j := h9.1.1.1
  have r := h9.1.2.1.1
  have hS := r.hS
  obtain ⟨⟨a, b, c⟩, d⟩ := chan_all (x := p0) (y := p1) (v := p2) (R := mR τ) (C := mC τ) (rg := mrg τ) r h9.1.2.1.2 h9.2
  refine ⟨o_channel σ p0 p1 p2 (aC σ) (arg σ), g_channel σ p0 p1 p2 (aC σ) (arg σ), f_Mchannel τ p0 p1 p2 (mR τ) (mC τ) (mrg τ), z, g_Mchannel τ p0 p1 p2 (mR τ) (mC τ) (mrg τ), fun h hh => ct_X7_channel hl j.hC.1 j.hC.2 j.hrg, fun E e => ?_, fun h hh => ct_X14_channel hl hh.bs (fun r h1 _ => hh.no h1) r.me r.hR.1 r.hR.2 hS.1 hS.2 r.hrg (PI := PIc p0 p1 p2 (mC τ) (mrg τ)) (PJ := PJc p0 p1 (mC τ) (mrg τ)) (fun q1 q2 q3 q4 _ => PIc.start hS.2 (cn6 q3) ((sub1_lt (R := mC τ) (by omega)).mp q1).2 q4) (fun i s s' hi hP e => PIc.step hS.2 hi hP e) (fun i s hi hP hb => ⟨by have := hP.1; omega, hb, hP.2.1, hP.2.2, fun c' hc' => absurd hc' (by omega)⟩) (fun i c s hP hc hf => PJc.next hS.2 hP hc hf) (fun i s hP => PJc.no hS.2 hP), hk τ σ p0 p1 p2 h8⟩
  unfold o_channel at e
  (repeat' split at e) <;> first | (cases e; done) | (rw [← Sum.inr.inj e]; first | exact .inl rfl | exact .inr rfl)
end
