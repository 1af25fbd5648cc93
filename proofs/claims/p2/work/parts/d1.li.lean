/-! ===== LI, and the interfaces that are whole with it ===== -/
def LI2 (τ σ : XS9) : Prop := (JC σ ∧ KB σ) ∧ (JR τ ∧ JS τ) ∧ R2 τ σ
theorem LI2.p {τ σ : XS9} (h : LI2 τ σ) : JC σ ∧ JR τ := ⟨h.1.1, h.2.1.1⟩
theorem LI2.init : LI2 s0M s0C := ⟨⟨JC.init, KB.init⟩, ⟨JR.init, JS.init⟩, R2.init⟩
theorem LI2.eqR {τ σ : XS9} (h : LI2 τ σ) : aR σ = mR τ := congrArg cn h.2.2.1
theorem LI2.eqB {τ σ : XS9} (h : LI2 τ σ) : aB σ = mB τ := congrArg cn h.2.2.2.1
theorem L_region {l : Launch} (hl : l.stackTraces = false) : IF_region l LI2 := if_region hl (fun _ _ => LI2.p) (fun τ σ p0 p1 p2 h => by
    rw [h.eqR]
    exact h.2.2.says h.2.1.1.hR.2) (fun τ σ p0 p1 p2 h => ⟨⟨h.1.1.region h.1.1.hR.2, h.1.2.region⟩, ⟨h.2.1.1.region h.2.1.1.hR.1 h.2.1.1.hR.2, h.2.1.2.region h.2.1.1 h.2.1.1.hR.2⟩, by
    rw [h.eqR]
    exact h.2.2.region h.2.1.1.hR.2⟩)
theorem L_bidder {l : Launch} (hl : l.stackTraces = false) : IF_bidder l LI2 := if_bidder hl (fun _ _ => LI2.p) (fun τ σ p0 p1 p2 p3 h => ⟨⟨h.1.1.bidder h.1.1.hB.2, h.1.2.bidder⟩, ⟨h.2.1.1.bidder h.2.1.1.hB.2, h.2.1.2.bidder h.2.1.1 h.2.1.1.hB.2⟩, by
    rw [h.eqB]
    exact h.2.2.bidder h.2.1.1.hB.2⟩)
theorem L_border {l : Launch} (hl : l.stackTraces = false) : IF_border l LI2 := if_border hl (fun _ _ => LI2.p) (fun τ σ p0 p1 h => ⟨⟨h.1.1.border, h.1.2.border⟩, ⟨h.2.1.1.border h.2.1.1.hR.2, h.2.1.2.border h.2.1.1 h.2.1.1.hR.2⟩, h.2.2.kept (VM.border h.2.1.1.hR.2) VC.border⟩)
theorem L_rules {l : Launch} (hl : l.stackTraces = false) : IF_rules l LI2 := if_rules hl (fun _ _ => LI2.p) (fun τ σ p0 p1 h => ⟨⟨h.1.1.rules, h.1.2.rules⟩, ⟨h.2.1.1.rules, h.2.1.2.rules h.2.1.1⟩, h.2.2.kept VM.rules VC.rules⟩)
theorem L_step {l : Launch} (hl : l.stackTraces = false) : IF_step l LI2 := if_step hl (fun _ _ => LI2.p) (fun τ σ p0 h => ⟨⟨h.1.1.step, h.1.2.step⟩, ⟨h.2.1.1.step, h.2.1.2.step h.2.1.1⟩, h.2.2.kept VM.step VC.step⟩)
theorem L_opn {l : Launch} (hl : l.stackTraces = false) : IF_open l LI2 := if_open hl (fun _ _ => LI2.p) (fun τ σ h => ⟨⟨h.1.1.opn, h.1.2.opn⟩, ⟨h.2.1.1.opn, h.2.1.2.opn h.2.1.1⟩, by
    rw [h.eqR, h.eqB]
    exact h.2.2.opn h.2.1.1.hR.2 h.2.1.1.hB.2⟩)
theorem L_wish {l : Launch} (hl : l.stackTraces = false) : IF_wish l LI2 := if_wish hl (fun _ _ => LI2.p) (fun τ σ p0 p1 p2 h => ⟨⟨h.1.1.wish, h.1.2.wish h.1.1.hR.2 h.1.1.hB.2⟩, ⟨h.2.1.1.wish h.2.1.1.hg.2, h.2.1.2.wish h.2.1.1⟩, h.2.2.kept VM.wish VC.wish⟩)
theorem L_waive {l : Launch} (hl : l.stackTraces = false) : IF_waive l LI2 := if_waive hl (fun _ _ => LI2.p) (fun τ σ p0 h => ⟨⟨h.1.1.waive, h.1.2.waive⟩, ⟨h.2.1.1.waive h.2.1.1.hw.2, h.2.1.2.waive h.2.1.1⟩, h.2.2.kept VM.waive VC.waive⟩)
theorem L_offer {l : Launch} (hl : l.stackTraces = false) : IF_offer l LI2 := if_offer hl (fun _ _ => LI2.p) (fun τ σ p0 p1 p2 h => ⟨⟨h.1.1.offer h.1.1.hB.2 (fun i hi => (h.1.1.hgr i hi).2) (fun i hi => (h.1.1.hct i hi).2), h.1.2.offer h.1.1.hB.2 (fun i hi => (h.1.1.hgr i hi).2) (fun i hi => (h.1.1.hct i hi).2)⟩, ⟨h.2.1.1.offer h.2.1.1.hR.2 h.2.1.1.hB.2 h.2.1.1.hpk, h.2.1.2.offer h.2.1.1 h.2.1.1.hB.2⟩, h.2.2.kept VM.offer (VC.offer h.1.1.hB.2 (fun i hi => (h.1.1.hgr i hi).2) (fun i hi => (h.1.1.hct i hi).2))⟩)
theorem L_station {l : Launch} (hl : l.stackTraces = false) : IF_station l LI2 := if_station hl (fun _ _ => LI2.p) (fun τ σ p0 p1 h => ⟨⟨h.1.1.station h.1.1.hR.2 h.1.1.hC.2, h.1.2.station⟩, ⟨h.2.1.1.station h.2.1.1.hR.1 h.2.1.1.hR.2 h.2.1.1.hS.1 h.2.1.1.hS.2, h.2.1.2.station h.2.1.1⟩, h.2.2.kept VM.station VC.station⟩)
theorem L_knock {l : Launch} (hl : l.stackTraces = false) : IF_knock l LI2 := if_knock hl (fun τ σ h => ⟨⟨h.1.1.knock, h.1.2.knock⟩, ⟨h.2.1.1.knock, h.2.1.2.knock h.2.1.1⟩, h.2.2.kept VM.knock VC.knock⟩)
theorem L_ofRegion {l : Launch} (hl : l.stackTraces = false) : IF_ofRegion l LI2 := if_ofRegion hl (fun _ _ => LI2.p) (fun τ σ p0 p1 h => ⟨h.1, ⟨h.2.1.1.ofRegion, by
    unfold g_MofRegion
    (repeat' split) <;> first | exact h.2.1.2.s0 h.2.1.1 | exact h.2.1.2.s00 h.2.1.1⟩, h.2.2.kept VM.ofRegion VC.rfl'⟩)
theorem L_ofBidder {l : Launch} (hl : l.stackTraces = false) : IF_ofBidder l LI2 := if_ofBidder hl (fun _ _ => LI2.p) (fun τ σ p0 p1 h => ⟨h.1, ⟨h.2.1.1.ofBidder, by
    unfold g_MofBidder
    (repeat' split) <;> first | exact h.2.1.2.s0 h.2.1.1 | exact h.2.1.2.s00 h.2.1.1⟩, h.2.2.kept VM.ofBidder VC.rfl'⟩)
theorem L_wants {l : Launch} (hl : l.stackTraces = false) : IF_wants l LI2 := if_wants hl (fun _ _ => LI2.p) (fun τ σ p0 p1 p2 h => ⟨h.1, ⟨h.2.1.1.wants, by
    unfold g_Mwants
    (repeat' split) <;> first | exact h.2.1.2.s0 h.2.1.1 | exact h.2.1.2.s00 h.2.1.1⟩, h.2.2.kept VM.wants VC.rfl'⟩)
theorem L_priceIn {l : Launch} (hl : l.stackTraces = false) : IF_priceIn l LI2 := if_priceIn hl (fun _ _ => LI2.p) (fun τ σ p0 p1 h => ⟨h.1, ⟨h.2.1.1.priceIn, by
    unfold g_MpriceIn
    (repeat' split) <;> first | exact h.2.1.2.s0 h.2.1.1 | exact h.2.1.2.s00 h.2.1.1⟩, h.2.2.kept VM.priceIn VC.rfl'⟩)
theorem L_codeIn {l : Launch} (hl : l.stackTraces = false) : IF_codeIn l LI2 := if_codeIn hl (fun _ _ => LI2.p) (fun τ σ p0 p1 p2 h => ⟨h.1, ⟨h.2.1.1.codeIn, by
    unfold g_McodeIn
    (repeat' split) <;> first | exact h.2.1.2.s0 h.2.1.1 | exact h.2.1.2.s00 h.2.1.1⟩, h.2.2.kept VM.codeIn VC.rfl'⟩)
theorem L_ofPackage {l : Launch} (hl : l.stackTraces = false) : IF_ofPackage l LI2 := if_ofPackage hl (fun _ _ => LI2.p) (fun τ σ p0 p1 p2 h => ⟨h.1, ⟨h.2.1.1.ofPackage, by
    unfold g_MofPackage
    (repeat' split) <;> first | exact h.2.1.2.s0 h.2.1.1 | exact h.2.1.2.s00 h.2.1.1⟩, h.2.2.kept VM.ofPackage VC.rfl'⟩)
theorem L_pays {l : Launch} (hl : l.stackTraces = false) : IF_pays l LI2 := if_pays hl (fun _ _ => LI2.p) (fun τ σ p0 p1 h => ⟨h.1, ⟨h.2.1.1.pays, by
    unfold g_Mpays
    (repeat' split) <;> first | exact h.2.1.2.s0 h.2.1.1 | exact h.2.1.2.s00 h.2.1.1⟩, h.2.2.kept VM.pays VC.rfl'⟩)
theorem L_holder {l : Launch} (hl : l.stackTraces = false) : IF_holder l LI2 := if_holder hl (fun _ _ => LI2.p) (fun τ σ p0 p1 h => ⟨h.1, ⟨h.2.1.1.holder, by
    unfold g_Mholder
    (repeat' split) <;> first | exact h.2.1.2.s0 h.2.1.1 | exact h.2.1.2.s00 h.2.1.1⟩, h.2.2.kept VM.holder VC.rfl'⟩)
theorem L_contradicts {l : Launch} (hl : l.stackTraces = false) : IF_contradicts l LI2 := if_contradicts hl (fun _ _ => LI2.p) (fun τ σ p0 h => ⟨h.1, ⟨h.2.1.1.contradicts, by
    unfold g_Mcontradicts
    (repeat' split) <;> first | exact h.2.1.2.s0 h.2.1.1 | exact h.2.1.2.s00 h.2.1.1⟩, h.2.2.kept VM.contradicts VC.rfl'⟩)
