/-! ===== LI, and the interfaces that are whole with it ===== -/
def LI2 (τ σ : XS9) : Prop := (JC σ ∧ KB σ) ∧ (JR τ ∧ JS τ) ∧ R2 τ σ
theorem LI2.p {τ σ : XS9} (h : LI2 τ σ) : JC σ ∧ JR τ := ⟨h.1.1, h.2.1.1⟩
theorem LI2.init : LI2 s0M s0C := ⟨⟨JC.init, KB.init⟩, ⟨JR.init, JS.init⟩, R2.init⟩
theorem LI2.eqR {τ σ : XS9} (h : LI2 τ σ) : aR σ = mR τ := congrArg cn h.2.2.1
theorem LI2.eqB {τ σ : XS9} (h : LI2 τ σ) : aB σ = mB τ := congrArg cn h.2.2.2.1
def LI (τ σ : XS9) : Prop := LI2 τ σ ∧ JP τ
theorem LI.init : LI s0M s0C := ⟨LI2.init, JP.init⟩
theorem K_region : ∀ τ σ (p0 p1 p2 : Int32), LI τ σ → LI (g_Mregion τ p0 p1 p2 (mR τ)) (g_region σ p0 p1 p2 (aR σ)) := fun τ σ p0 p1 p2 h9 => ⟨(have h := h9.1; ⟨⟨h.1.1.region h.1.1.hR.2, h.1.2.region⟩, ⟨h.2.1.1.region h.2.1.1.hR.1 h.2.1.1.hR.2, h.2.1.2.region h.2.1.1 h.2.1.1.hR.2⟩, by
    rw [h.eqR]
    exact h.2.2.region h.2.1.1.hR.2⟩), h9.2.region h9.1.2.1.1.hR.2⟩
theorem G_region {l : Launch} (hl : l.stackTraces = false) {LI' : XS9 → XS9 → Prop} (hq : ∀ τ σ, LI' τ σ → LI τ σ) (hrel : ∀ τ σ (p0 p1 p2 : Int32), LI' τ σ → ((g_Mregion τ p0 p1 p2 (mR τ)) 5000 0 = lw_k [eIAE, eISE] (o_region σ p0 p1 p2 (aR σ)) ∧ ∀ w, (o_region σ p0 p1 p2 (aR σ)) = .inl w → w = (f_Mregion τ p0 p1 p2 (mR τ)))) (hk : ∀ τ σ (p0 p1 p2 : Int32), LI' τ σ → LI' (g_Mregion τ p0 p1 p2 (mR τ)) (g_region σ p0 p1 p2 (aR σ))) : IF_region l LI' := if_region hl (fun _ _ h8 => (hq _ _ h8).1.p) hrel hk
theorem K_bidder : ∀ τ σ (p0 p1 p2 p3 : Int32), LI τ σ → LI (g_Mbidder τ p0 p1 p2 p3 (mB τ)) (g_bidder σ p0 p1 p2 p3 (aB σ)) := fun τ σ p0 p1 p2 p3 h9 => ⟨(have h := h9.1; ⟨⟨h.1.1.bidder h.1.1.hB.2, h.1.2.bidder⟩, ⟨h.2.1.1.bidder h.2.1.1.hB.2, h.2.1.2.bidder h.2.1.1 h.2.1.1.hB.2⟩, by
    rw [h.eqB]
    exact h.2.2.bidder h.2.1.1.hB.2⟩), h9.2.bidder h9.1.2.1.1.hB.2⟩
theorem G_bidder {l : Launch} (hl : l.stackTraces = false) {LI' : XS9 → XS9 → Prop} (hq : ∀ τ σ, LI' τ σ → LI τ σ) (hrel : ∀ τ σ (p0 p1 p2 p3 : Int32), LI' τ σ → ((g_Mbidder τ p0 p1 p2 p3 (mB τ)) 5000 0 = lw_k [eIAE, eISE] (o_bidder σ p0 p1 p2 p3 (aB σ)) ∧ ∀ w, (o_bidder σ p0 p1 p2 p3 (aB σ)) = .inl w → w = (f_Mbidder τ p0 p1 p2 p3 (mB τ)))) (hk : ∀ τ σ (p0 p1 p2 p3 : Int32), LI' τ σ → LI' (g_Mbidder τ p0 p1 p2 p3 (mB τ)) (g_bidder σ p0 p1 p2 p3 (aB σ))) : IF_bidder l LI' := if_bidder hl (fun _ _ h8 => (hq _ _ h8).1.p) hrel hk
theorem K_border : ∀ τ σ (p0 p1 : Int32), LI τ σ → LI (g_Mborder τ p0 p1 (mR τ)) (g_border σ p0 p1 (aR σ)) := fun τ σ p0 p1 h9 => ⟨(have h := h9.1; ⟨⟨h.1.1.border, h.1.2.border⟩, ⟨h.2.1.1.border h.2.1.1.hR.2, h.2.1.2.border h.2.1.1 h.2.1.1.hR.2⟩, h.2.2.kept (VM.border h.2.1.1.hR.2) VC.border⟩), h9.2.border h9.1.2.1.1.hR.2⟩
theorem G_border {l : Launch} (hl : l.stackTraces = false) {LI' : XS9 → XS9 → Prop} (hq : ∀ τ σ, LI' τ σ → LI τ σ) (hrel : ∀ τ σ (p0 p1 : Int32), LI' τ σ → ((g_Mborder τ p0 p1 (mR τ)) 5000 0 = lw_k [eIOB, eIAE, eISE] (o_border σ p0 p1 (aR σ)) ∧ ∀ w, (o_border σ p0 p1 (aR σ)) = .inl w → w = (f_Mborder τ p0 p1 (mR τ)))) (hk : ∀ τ σ (p0 p1 : Int32), LI' τ σ → LI' (g_Mborder τ p0 p1 (mR τ)) (g_border σ p0 p1 (aR σ))) : IF_border l LI' := if_border hl (fun _ _ h8 => (hq _ _ h8).1.p) hrel hk
theorem K_rules : ∀ τ σ (p0 p1 : Int32), LI τ σ → LI (g_Mrules τ p0 p1) (g_rules σ p0 p1) := fun τ σ p0 p1 h9 => ⟨(have h := h9.1; ⟨⟨h.1.1.rules, h.1.2.rules⟩, ⟨h.2.1.1.rules, h.2.1.2.rules h.2.1.1⟩, h.2.2.kept VM.rules VC.rules⟩), h9.2.rules⟩
theorem G_rules {l : Launch} (hl : l.stackTraces = false) {LI' : XS9 → XS9 → Prop} (hq : ∀ τ σ, LI' τ σ → LI τ σ) (hrel : ∀ τ σ (p0 p1 : Int32), LI' τ σ → (p1 = 0 ∨ p1 = 1) → ((g_Mrules τ p0 p1) 5000 0 = lw_k [eIAE, eISE] (o_rules σ p0 p1) ∧ ∀ w, (o_rules σ p0 p1) = .inl w → w = (f_Mrules τ p0 p1))) (hk : ∀ τ σ (p0 p1 : Int32), LI' τ σ → LI' (g_Mrules τ p0 p1) (g_rules σ p0 p1)) : IF_rules l LI' := if_rules hl (fun _ _ h8 => (hq _ _ h8).1.p) hrel hk
theorem K_step : ∀ τ σ (p0 : Int32), LI τ σ → LI (g_Mstep τ p0) (g_step σ p0) := fun τ σ p0 h9 => ⟨(have h := h9.1; ⟨⟨h.1.1.step, h.1.2.step⟩, ⟨h.2.1.1.step, h.2.1.2.step h.2.1.1⟩, h.2.2.kept VM.step VC.step⟩), h9.2.step⟩
theorem G_step {l : Launch} (hl : l.stackTraces = false) {LI' : XS9 → XS9 → Prop} (hq : ∀ τ σ, LI' τ σ → LI τ σ) (hrel : ∀ τ σ (p0 : Int32), LI' τ σ → ((g_Mstep τ p0) 5000 0 = lw_k [eIAE, eISE] (o_step σ p0) ∧ ∀ w, (o_step σ p0) = .inl w → w = (f_Mstep τ p0))) (hk : ∀ τ σ (p0 : Int32), LI' τ σ → LI' (g_Mstep τ p0) (g_step σ p0)) : IF_step l LI' := if_step hl (fun _ _ h8 => (hq _ _ h8).1.p) hrel hk
theorem K_opn : ∀ τ σ, LI τ σ → LI (g_Mopen τ (mR τ) (mB τ)) (g_open σ (aR σ) (aB σ)) := fun τ σ h9 => ⟨(have h := h9.1; ⟨⟨h.1.1.opn, h.1.2.opn⟩, ⟨h.2.1.1.opn, h.2.1.2.opn h.2.1.1⟩, by
    rw [h.eqR, h.eqB]
    exact h.2.2.opn h.2.1.1.hR.2 h.2.1.1.hB.2⟩), h9.2.opn h9.1.2.1.1.hR.2 h9.1.2.1.1.hB.2⟩
theorem G_opn {l : Launch} (hl : l.stackTraces = false) {LI' : XS9 → XS9 → Prop} (hq : ∀ τ σ, LI' τ σ → LI τ σ) (hrel : ∀ τ σ, LI' τ σ → (g_Mopen τ (mR τ) (mB τ) 5000 0 = lw_k [eISE] (o_open σ (aR σ) (aB σ)) ∧ ∀ w, o_open σ (aR σ) (aB σ) = .inl w → w = f_Mopen τ (mR τ) (mB τ))) (hk : ∀ τ σ, LI' τ σ → LI' (g_Mopen τ (mR τ) (mB τ)) (g_open σ (aR σ) (aB σ))) : IF_open l LI' := if_open hl (fun _ _ h8 => (hq _ _ h8).1.p) hrel hk
theorem K_wish : ∀ τ σ (p0 p1 p2 : Int32), LI τ σ → LI (g_Mwish τ p0 p1 p2 (mR τ) (mB τ) (mg τ)) (g_wish σ p0 p1 p2 (aR σ) (aB σ)) := fun τ σ p0 p1 p2 h9 => ⟨(have h := h9.1; ⟨⟨h.1.1.wish, h.1.2.wish h.1.1.hR.2 h.1.1.hB.2⟩, ⟨h.2.1.1.wish h.2.1.1.hg.2, h.2.1.2.wish h.2.1.1⟩, h.2.2.kept VM.wish VC.wish⟩), h9.2.wish⟩
theorem G_wish {l : Launch} (hl : l.stackTraces = false) {LI' : XS9 → XS9 → Prop} (hq : ∀ τ σ, LI' τ σ → LI τ σ) (hrel : ∀ τ σ (p0 p1 p2 : Int32), LI' τ σ → ((g_Mwish τ p0 p1 p2 (mR τ) (mB τ) (mg τ)) 5000 0 = lw_k [eIOB, eIAE, eISE] (o_wish σ p0 p1 p2 (aR σ) (aB σ)) ∧ ∀ w, (o_wish σ p0 p1 p2 (aR σ) (aB σ)) = .inl w → w = (f_Mwish τ p0 p1 p2 (mR τ) (mB τ) (mg τ)))) (hk : ∀ τ σ (p0 p1 p2 : Int32), LI' τ σ → LI' (g_Mwish τ p0 p1 p2 (mR τ) (mB τ) (mg τ)) (g_wish σ p0 p1 p2 (aR σ) (aB σ))) : IF_wish l LI' := if_wish hl (fun _ _ h8 => (hq _ _ h8).1.p) hrel hk
theorem K_waive : ∀ τ σ (p0 : Int32), LI τ σ → LI (g_Mwaive τ p0 (mB τ) (mg τ) (mw τ)) (g_waive σ p0 (aB σ)) := fun τ σ p0 h9 => ⟨(have h := h9.1; ⟨⟨h.1.1.waive, h.1.2.waive⟩, ⟨h.2.1.1.waive h.2.1.1.hw.2, h.2.1.2.waive h.2.1.1⟩, h.2.2.kept VM.waive VC.waive⟩), h9.2.waive⟩
theorem G_waive {l : Launch} (hl : l.stackTraces = false) {LI' : XS9 → XS9 → Prop} (hq : ∀ τ σ, LI' τ σ → LI τ σ) (hrel : ∀ τ σ (p0 : Int32), LI' τ σ → ((g_Mwaive τ p0 (mB τ) (mg τ) (mw τ)) 5000 0 = lw_k [eIOB, eISE] (o_waive σ p0 (aB σ)) ∧ ∀ w, (o_waive σ p0 (aB σ)) = .inl w → w = (f_Mwaive τ p0 (mB τ) (mg τ) (mw τ)))) (hk : ∀ τ σ (p0 : Int32), LI' τ σ → LI' (g_Mwaive τ p0 (mB τ) (mg τ) (mw τ)) (g_waive σ p0 (aB σ))) : IF_waive l LI' := if_waive hl (fun _ _ h8 => (hq _ _ h8).1.p) hrel hk
theorem K_offer : ∀ τ σ (p0 p1 p2 : Int32), LI τ σ → LI (g_Moffer τ p0 p1 p2 (mR τ) (mB τ) (mpk τ)) (g_offer σ p0 p1 p2 (aR σ) (aB σ) (agr σ) (acn σ)) := fun τ σ p0 p1 p2 h9 => ⟨(have h := h9.1; ⟨⟨h.1.1.offer h.1.1.hB.2 (fun i hi => (h.1.1.hgr i hi).2) (fun i hi => (h.1.1.hct i hi).2), h.1.2.offer h.1.1.hB.2 (fun i hi => (h.1.1.hgr i hi).2) (fun i hi => (h.1.1.hct i hi).2)⟩, ⟨h.2.1.1.offer h.2.1.1.hR.2 h.2.1.1.hB.2 h.2.1.1.hpk, h.2.1.2.offer h.2.1.1 h.2.1.1.hB.2⟩, h.2.2.kept VM.offer (VC.offer h.1.1.hB.2 (fun i hi => (h.1.1.hgr i hi).2) (fun i hi => (h.1.1.hct i hi).2))⟩), h9.2.offer h9.1.2.1.1.hB.2⟩
theorem G_offer {l : Launch} (hl : l.stackTraces = false) {LI' : XS9 → XS9 → Prop} (hq : ∀ τ σ, LI' τ σ → LI τ σ) (hrel : ∀ τ σ (p0 p1 p2 : Int32), LI' τ σ → ((g_Moffer τ p0 p1 p2 (mR τ) (mB τ) (mpk τ)) 5000 0 = lw_k [eIOB, eIAE, eISE] (o_offer σ p0 p1 p2 (aR σ) (aB σ) (agr σ) (acn σ)) ∧ ∀ w, (o_offer σ p0 p1 p2 (aR σ) (aB σ) (agr σ) (acn σ)) = .inl w → w = (f_Moffer τ p0 p1 p2 (mR τ) (mB τ) (mpk τ)))) (hk : ∀ τ σ (p0 p1 p2 : Int32), LI' τ σ → LI' (g_Moffer τ p0 p1 p2 (mR τ) (mB τ) (mpk τ)) (g_offer σ p0 p1 p2 (aR σ) (aB σ) (agr σ) (acn σ))) : IF_offer l LI' := if_offer hl (fun _ _ h8 => (hq _ _ h8).1.p) hrel hk
theorem K_station : ∀ τ σ (p0 p1 : Int32), LI τ σ → LI (g_Mstation τ p0 p1 (mR τ) (mC τ)) (g_station σ p0 p1 (aR σ) (aC σ)) := fun τ σ p0 p1 h9 => ⟨(have h := h9.1; ⟨⟨h.1.1.station h.1.1.hR.2 h.1.1.hC.2, h.1.2.station⟩, ⟨h.2.1.1.station h.2.1.1.hR.1 h.2.1.1.hR.2 h.2.1.1.hS.1 h.2.1.1.hS.2, h.2.1.2.station h.2.1.1⟩, h.2.2.kept VM.station VC.station⟩), h9.2.station⟩
theorem G_station {l : Launch} (hl : l.stackTraces = false) {LI' : XS9 → XS9 → Prop} (hq : ∀ τ σ, LI' τ σ → LI τ σ) (hrel : ∀ τ σ (p0 p1 : Int32), LI' τ σ → ((g_Mstation τ p0 p1 (mR τ) (mC τ)) 5000 0 = lw_k [eIOB, eIAE, eISE] (o_station σ p0 p1 (aR σ) (aC σ)) ∧ ∀ w, (o_station σ p0 p1 (aR σ) (aC σ)) = .inl w → w = (f_Mstation τ p0 p1 (mR τ) (mC τ)))) (hk : ∀ τ σ (p0 p1 : Int32), LI' τ σ → LI' (g_Mstation τ p0 p1 (mR τ) (mC τ)) (g_station σ p0 p1 (aR σ) (aC σ))) : IF_station l LI' := if_station hl (fun _ _ h8 => (hq _ _ h8).1.p) hrel hk
theorem K_knock : ∀ τ σ, LI τ σ → LI (g_Mknock τ) (g_knock σ) := fun τ σ h9 => ⟨(have h := h9.1; ⟨⟨h.1.1.knock, h.1.2.knock⟩, ⟨h.2.1.1.knock, h.2.1.2.knock h.2.1.1⟩, h.2.2.kept VM.knock VC.knock⟩), h9.2.knock⟩
theorem G_knock {l : Launch} (hl : l.stackTraces = false) {LI' : XS9 → XS9 → Prop} (hq : ∀ τ σ, LI' τ σ → LI τ σ) (hrel : ∀ τ σ, LI' τ σ → f_knock σ = f_Mknock τ) (hk : ∀ τ σ, LI' τ σ → LI' (g_Mknock τ) (g_knock σ)) : IF_knock l LI' := if_knock hl  hrel hk
theorem JS.cinit {τ : XS9} {R B : Nat} {pk gr : Nat → Nat} {cd : Nat → Nat → Nat} (h : JS τ) (r : JR τ) : JS (u2 (g_Cinit τ R B pk gr cd) 9000 20 0) := h.hi r fun q hq => by rw [u2_ne (by omega), fr_Cinit (by omega)]
theorem JS.packs {τ : XS9} {R C : Nat} {rg : Nat → Nat} {x y : Int32} (h : JS τ) (r : JR τ) : JS (g_Mpacks τ x y R C rg) := by
  unfold g_Mpacks
  split
  · split
    · rename_i hy
      exact (h.s0 r).hi r.s0 fun q hq => by rw [u2_ne (by omega), fr_Mcp ⟨by omega, cn6 hy⟩, uR_ne (by omega)]
    · exact h.s0 r
  · exact h.s0 r
theorem JS.clear {τ : XS9} {R C : Nat} {rg : Nat → Nat} {x : Int32} (h : JS τ) (r : JR τ) : JS (g_Mclear τ x R C rg) := by
  unfold g_Mclear
  split
  · rename_i hy
    exact (h.s0 r).hi r.s0 fun q hq => fr_MclearNow ⟨by omega, cn6 hy⟩
  · exact h.s00 r
theorem K_packs : ∀ τ σ (p0 p1 : Int32), LI τ σ → LI (g_Mpacks τ p0 p1 (mR τ) (mC τ) (mrg τ)) (g_packs σ p0 p1 (aC σ) (arg σ)) := fun τ σ p0 p1 h9 => ⟨(have h := h9.1; ⟨⟨h.1.1.packs, h.1.2.packs⟩, ⟨h.2.1.1.packs, h.2.1.2.packs h.2.1.1⟩, h.2.2.kept VM.packs VC.packs⟩), h9.2.packs⟩
theorem G_packs {l : Launch} (hl : l.stackTraces = false) {LI' : XS9 → XS9 → Prop} (hq : ∀ τ σ, LI' τ σ → LI τ σ) (hrel : ∀ τ σ (p0 p1 : Int32), LI' τ σ → ((g_Mpacks τ p0 p1 (mR τ) (mC τ) (mrg τ)) 5000 0 = lw_k [eIAE] (o_packs σ p0 p1 (aC σ) (arg σ)) ∧ ∀ w, (o_packs σ p0 p1 (aC σ) (arg σ)) = .inl w → w = (f_Mpacks τ p0 p1 (mR τ) (mC τ) (mrg τ)))) (hk : ∀ τ σ (p0 p1 : Int32), LI' τ σ → LI' (g_Mpacks τ p0 p1 (mR τ) (mC τ) (mrg τ)) (g_packs σ p0 p1 (aC σ) (arg σ))) : IF_packs l LI' := if_packs hl (fun _ _ h8 => (hq _ _ h8).1.p) hrel hk
theorem K_clear : ∀ τ σ (p0 : Int32), LI τ σ → LI (g_Mclear τ p0 (mR τ) (mC τ) (mrg τ)) (g_clear σ p0 (aC σ) (arg σ)) := fun τ σ p0 h9 => ⟨(have h := h9.1; ⟨⟨h.1.1.clear, h.1.2.clear⟩, ⟨h.2.1.1.clear, h.2.1.2.clear h.2.1.1⟩, h.2.2.kept VM.clear VC.clear⟩), h9.2.clear⟩
theorem G_clear {l : Launch} (hl : l.stackTraces = false) {LI' : XS9 → XS9 → Prop} (hq : ∀ τ σ, LI' τ σ → LI τ σ) (hrel : ∀ τ σ (p0 : Int32), LI' τ σ → ((g_Mclear τ p0 (mR τ) (mC τ) (mrg τ)) 5000 0 = lw_k [eIAE] (o_clear σ p0 (aC σ) (arg σ)) ∧ ∀ w, (o_clear σ p0 (aC σ) (arg σ)) = .inl w → w = (f_Mclear τ p0 (mR τ) (mC τ) (mrg τ)))) (hk : ∀ τ σ (p0 : Int32), LI' τ σ → LI' (g_Mclear τ p0 (mR τ) (mC τ) (mrg τ)) (g_clear σ p0 (aC σ) (arg σ))) : IF_clear l LI' := if_clear hl (fun _ _ h8 => (hq _ _ h8).1.p) hrel hk
theorem K_wins : ∀ τ σ (p0 : Int32), LI τ σ → LI (g_Mwins τ p0 (mR τ) (mB τ) (mpk τ) (mgr τ) (mcd τ)) σ := fun τ σ p0 h9 => ⟨(have h := h9.1; ⟨h.1, ⟨h.2.1.1.wins, by
    unfold g_Mwins
    split
    · exact (h.2.1.2.s0 h.2.1.1).cinit h.2.1.1.s0
    · exact h.2.1.2.s00 h.2.1.1⟩, h.2.2.kept VM.wins VC.rfl'⟩), (by
    unfold g_Mwins
    split
    · exact h9.2.s0.cinit
    · exact h9.2.s00)⟩
theorem G_wins {l : Launch} (hl : l.stackTraces = false) {LI' : XS9 → XS9 → Prop} (hq : ∀ τ σ, LI' τ σ → LI τ σ) (hrel : ∀ τ σ (p0 : Int32), LI' τ σ → ((g_Mwins τ p0 (mR τ) (mB τ) (mpk τ) (mgr τ) (mcd τ)) 5000 0 = lw_k [eIOB] (o_wins σ p0 (aB σ)) ∧ ∀ w, (o_wins σ p0 (aB σ)) = .inl w → w = (f_Mwins τ p0 (mR τ) (mB τ) (mpk τ) (mgr τ) (mcd τ)))) (hk : ∀ τ σ (p0 : Int32), LI' τ σ → LI' (g_Mwins τ p0 (mR τ) (mB τ) (mpk τ) (mgr τ) (mcd τ)) σ) : IF_wins l LI' := if_wins hl (fun _ _ h8 => (hq _ _ h8).1.p) hrel hk
theorem K_sale : ∀ τ σ (p0 : Int32), LI τ σ → LI (g_Msale τ p0 (mR τ) (mB τ) (mpk τ) (mgr τ) (mcd τ) (mK τ) (mC τ) (mg τ) (mtn τ) (msp τ)) σ := fun τ σ p0 h9 => ⟨(have h := h9.1; ⟨h.1, ⟨h.2.1.1.sale, by
    unfold g_Msale
    split
    · exact (h.2.1.2.s0 h.2.1.1).cinit h.2.1.1.s0
    · exact h.2.1.2.s00 h.2.1.1⟩, h.2.2.kept VM.sale VC.rfl'⟩), (by
    unfold g_Msale
    split
    · exact h9.2.s0.cinit
    · exact h9.2.s00)⟩
theorem G_sale {l : Launch} (hl : l.stackTraces = false) {LI' : XS9 → XS9 → Prop} (hq : ∀ τ σ, LI' τ σ → LI τ σ) (hrel : ∀ τ σ (p0 : Int32), LI' τ σ → ((g_Msale τ p0 (mR τ) (mB τ) (mpk τ) (mgr τ) (mcd τ) (mK τ) (mC τ) (mg τ) (mtn τ) (msp τ)) 5000 0 = lw_k [eIAE] (o_sale σ p0 (aK σ) (aB σ) (aR σ) (aC σ) (aw σ) (acn σ)) ∧ ∀ w, (o_sale σ p0 (aK σ) (aB σ) (aR σ) (aC σ) (aw σ) (acn σ)) = .inl w → w = (f_Msale τ p0 (mR τ) (mB τ) (mpk τ) (mgr τ) (mcd τ) (mK τ) (mC τ) (mg τ) (mtn τ) (msp τ)))) (hk : ∀ τ σ (p0 : Int32), LI' τ σ → LI' (g_Msale τ p0 (mR τ) (mB τ) (mpk τ) (mgr τ) (mcd τ) (mK τ) (mC τ) (mg τ) (mtn τ) (msp τ)) σ) : IF_sale l LI' := if_sale hl (fun _ _ h8 => (hq _ _ h8).1.p) hrel hk
theorem K_worth : ∀ τ σ (p0 : Int32), LI τ σ → LI (g_Mworth τ p0 (mR τ) (mB τ) (mpk τ) (mgr τ) (mcd τ)) σ := fun τ σ p0 h9 => ⟨(have h := h9.1; ⟨h.1, ⟨h.2.1.1.worth, by
    unfold g_Mworth
    split
    · exact (h.2.1.2.s0 h.2.1.1).cinit h.2.1.1.s0
    · exact h.2.1.2.s00 h.2.1.1⟩, h.2.2.kept VM.worth VC.rfl'⟩), (by
    unfold g_Mworth
    split
    · exact h9.2.s0.cinit
    · exact h9.2.s00)⟩
theorem G_worth {l : Launch} (hl : l.stackTraces = false) {LI' : XS9 → XS9 → Prop} (hq : ∀ τ σ, LI' τ σ → LI τ σ) (hrel : ∀ τ σ (p0 : Int32), LI' τ σ → ((g_Mworth τ p0 (mR τ) (mB τ) (mpk τ) (mgr τ) (mcd τ)) 5000 0 = lw_k [eIAE] (o_worth σ p0 (aB σ)) ∧ ∀ w, (o_worth σ p0 (aB σ)) = .inl w → w = (f_Mworth τ p0 (mR τ) (mB τ) (mpk τ) (mgr τ) (mcd τ)))) (hk : ∀ τ σ (p0 : Int32), LI' τ σ → LI' (g_Mworth τ p0 (mR τ) (mB τ) (mpk τ) (mgr τ) (mcd τ)) σ) : IF_worth l LI' := if_worth hl (fun _ _ h8 => (hq _ _ h8).1.p) hrel hk
theorem K_ofRegion : ∀ τ σ (p0 p1 : Int32), LI τ σ → LI (g_MofRegion τ p0 p1 (mR τ) (mB τ) (mC τ) (mg τ)) σ := fun τ σ p0 p1 h9 => ⟨(have h := h9.1; ⟨h.1, ⟨h.2.1.1.ofRegion, by
    unfold g_MofRegion
    (repeat' split) <;> first | exact h.2.1.2.s0 h.2.1.1 | exact h.2.1.2.s00 h.2.1.1⟩, h.2.2.kept VM.ofRegion VC.rfl'⟩), (by
    unfold g_MofRegion
    (repeat' split) <;> first | exact h9.2.s0 | exact h9.2.s00)⟩
theorem G_ofRegion {l : Launch} (hl : l.stackTraces = false) {LI' : XS9 → XS9 → Prop} (hq : ∀ τ σ, LI' τ σ → LI τ σ) (hrel : ∀ τ σ (p0 p1 : Int32), LI' τ σ → ((g_MofRegion τ p0 p1 (mR τ) (mB τ) (mC τ) (mg τ)) 5000 0 = lw_k [eIOB, eIAE] (o_ofRegion σ p0 p1 (aR σ) (aC σ)) ∧ ∀ w, (o_ofRegion σ p0 p1 (aR σ) (aC σ)) = .inl w → w = (f_MofRegion τ p0 p1 (mR τ) (mB τ) (mC τ) (mg τ)))) (hk : ∀ τ σ (p0 p1 : Int32), LI' τ σ → LI' (g_MofRegion τ p0 p1 (mR τ) (mB τ) (mC τ) (mg τ)) σ) : IF_ofRegion l LI' := if_ofRegion hl (fun _ _ h8 => (hq _ _ h8).1.p) hrel hk
theorem K_ofBidder : ∀ τ σ (p0 p1 : Int32), LI τ σ → LI (g_MofBidder τ p0 p1 (mR τ) (mB τ) (mpk τ) (mg τ)) σ := fun τ σ p0 p1 h9 => ⟨(have h := h9.1; ⟨h.1, ⟨h.2.1.1.ofBidder, by
    unfold g_MofBidder
    (repeat' split) <;> first | exact h.2.1.2.s0 h.2.1.1 | exact h.2.1.2.s00 h.2.1.1⟩, h.2.2.kept VM.ofBidder VC.rfl'⟩), (by
    unfold g_MofBidder
    (repeat' split) <;> first | exact h9.2.s0 | exact h9.2.s00)⟩
theorem G_ofBidder {l : Launch} (hl : l.stackTraces = false) {LI' : XS9 → XS9 → Prop} (hq : ∀ τ σ, LI' τ σ → LI τ σ) (hrel : ∀ τ σ (p0 p1 : Int32), LI' τ σ → ((g_MofBidder τ p0 p1 (mR τ) (mB τ) (mpk τ) (mg τ)) 5000 0 = lw_k [eIOB, eIAE] (o_ofBidder σ p0 p1 (aB σ)) ∧ ∀ w, (o_ofBidder σ p0 p1 (aB σ)) = .inl w → w = (f_MofBidder τ p0 p1 (mR τ) (mB τ) (mpk τ) (mg τ)))) (hk : ∀ τ σ (p0 p1 : Int32), LI' τ σ → LI' (g_MofBidder τ p0 p1 (mR τ) (mB τ) (mpk τ) (mg τ)) σ) : IF_ofBidder l LI' := if_ofBidder hl (fun _ _ h8 => (hq _ _ h8).1.p) hrel hk
theorem K_wants : ∀ τ σ (p0 p1 p2 : Int32), LI τ σ → LI (g_Mwants τ p0 p1 p2 (mR τ) (mB τ) (mg τ)) σ := fun τ σ p0 p1 p2 h9 => ⟨(have h := h9.1; ⟨h.1, ⟨h.2.1.1.wants, by
    unfold g_Mwants
    (repeat' split) <;> first | exact h.2.1.2.s0 h.2.1.1 | exact h.2.1.2.s00 h.2.1.1⟩, h.2.2.kept VM.wants VC.rfl'⟩), (by
    unfold g_Mwants
    (repeat' split) <;> first | exact h9.2.s0 | exact h9.2.s00)⟩
theorem G_wants {l : Launch} (hl : l.stackTraces = false) {LI' : XS9 → XS9 → Prop} (hq : ∀ τ σ, LI' τ σ → LI τ σ) (hrel : ∀ τ σ (p0 p1 p2 : Int32), LI' τ σ → (p2 = 0 ∨ p2 = 1) → ((g_Mwants τ p0 p1 p2 (mR τ) (mB τ) (mg τ)) 5000 0 = lw_k [eIOB] (o_wants σ p0 p1 p2 (aR σ) (aB σ)) ∧ ∀ w, (o_wants σ p0 p1 p2 (aR σ) (aB σ)) = .inl w → w = (f_Mwants τ p0 p1 p2 (mR τ) (mB τ) (mg τ)))) (hk : ∀ τ σ (p0 p1 p2 : Int32), LI' τ σ → LI' (g_Mwants τ p0 p1 p2 (mR τ) (mB τ) (mg τ)) σ) : IF_wants l LI' := if_wants hl (fun _ _ h8 => (hq _ _ h8).1.p) hrel hk
theorem K_priceIn : ∀ τ σ (p0 p1 : Int32), LI τ σ → LI (g_MpriceIn τ p0 p1 (mR τ) (mK τ)) σ := fun τ σ p0 p1 h9 => ⟨(have h := h9.1; ⟨h.1, ⟨h.2.1.1.priceIn, by
    unfold g_MpriceIn
    (repeat' split) <;> first | exact h.2.1.2.s0 h.2.1.1 | exact h.2.1.2.s00 h.2.1.1⟩, h.2.2.kept VM.priceIn VC.rfl'⟩), (by
    unfold g_MpriceIn
    (repeat' split) <;> first | exact h9.2.s0 | exact h9.2.s00)⟩
theorem G_priceIn {l : Launch} (hl : l.stackTraces = false) {LI' : XS9 → XS9 → Prop} (hq : ∀ τ σ, LI' τ σ → LI τ σ) (hrel : ∀ τ σ (p0 p1 : Int32), LI' τ σ → ((g_MpriceIn τ p0 p1 (mR τ) (mK τ)) 5000 0 = lw_k [eIOB] (o_priceIn σ p0 p1 (aR σ) (aK σ)) ∧ ∀ w, (o_priceIn σ p0 p1 (aR σ) (aK σ)) = .inl w → w = (f_MpriceIn τ p0 p1 (mR τ) (mK τ)))) (hk : ∀ τ σ (p0 p1 : Int32), LI' τ σ → LI' (g_MpriceIn τ p0 p1 (mR τ) (mK τ)) σ) : IF_priceIn l LI' := if_priceIn hl (fun _ _ h8 => (hq _ _ h8).1.p) hrel hk
theorem K_codeIn : ∀ τ σ (p0 p1 p2 : Int32), LI τ σ → LI (g_McodeIn τ p0 p1 p2 (mB τ) (mK τ)) σ := fun τ σ p0 p1 p2 h9 => ⟨(have h := h9.1; ⟨h.1, ⟨h.2.1.1.codeIn, by
    unfold g_McodeIn
    (repeat' split) <;> first | exact h.2.1.2.s0 h.2.1.1 | exact h.2.1.2.s00 h.2.1.1⟩, h.2.2.kept VM.codeIn VC.rfl'⟩), (by
    unfold g_McodeIn
    (repeat' split) <;> first | exact h9.2.s0 | exact h9.2.s00)⟩
theorem G_codeIn {l : Launch} (hl : l.stackTraces = false) {LI' : XS9 → XS9 → Prop} (hq : ∀ τ σ, LI' τ σ → LI τ σ) (hrel : ∀ τ σ (p0 p1 p2 : Int32), LI' τ σ → (p2 = 0 ∨ p2 = 1) → ((g_McodeIn τ p0 p1 p2 (mB τ) (mK τ)) 5000 0 = lw_k [eIOB] (o_codeIn σ p0 p1 p2 (aB σ) (aK σ)) ∧ ∀ w, (o_codeIn σ p0 p1 p2 (aB σ) (aK σ)) = .inl w → w = (f_McodeIn τ p0 p1 p2 (mB τ) (mK τ)))) (hk : ∀ τ σ (p0 p1 p2 : Int32), LI' τ σ → LI' (g_McodeIn τ p0 p1 p2 (mB τ) (mK τ)) σ) : IF_codeIn l LI' := if_codeIn hl (fun _ _ h8 => (hq _ _ h8).1.p) hrel hk
theorem K_ofPackage : ∀ τ σ (p0 p1 p2 : Int32), LI τ σ → LI (g_MofPackage τ p0 p1 p2 (mB τ) (mpk τ)) σ := fun τ σ p0 p1 p2 h9 => ⟨(have h := h9.1; ⟨h.1, ⟨h.2.1.1.ofPackage, by
    unfold g_MofPackage
    (repeat' split) <;> first | exact h.2.1.2.s0 h.2.1.1 | exact h.2.1.2.s00 h.2.1.1⟩, h.2.2.kept VM.ofPackage VC.rfl'⟩), (by
    unfold g_MofPackage
    (repeat' split) <;> first | exact h9.2.s0 | exact h9.2.s00)⟩
theorem G_ofPackage {l : Launch} (hl : l.stackTraces = false) {LI' : XS9 → XS9 → Prop} (hq : ∀ τ σ, LI' τ σ → LI τ σ) (hrel : ∀ τ σ (p0 p1 p2 : Int32), LI' τ σ → (p2 = 0 ∨ p2 = 1) → ((g_MofPackage τ p0 p1 p2 (mB τ) (mpk τ)) 5000 0 = lw_k [eIOB] (o_ofPackage σ p0 p1 p2 (aB σ) (acn σ)) ∧ ∀ w, (o_ofPackage σ p0 p1 p2 (aB σ) (acn σ)) = .inl w → w = (f_MofPackage τ p0 p1 p2 (mB τ) (mpk τ)))) (hk : ∀ τ σ (p0 p1 p2 : Int32), LI' τ σ → LI' (g_MofPackage τ p0 p1 p2 (mB τ) (mpk τ)) σ) : IF_ofPackage l LI' := if_ofPackage hl (fun _ _ h8 => (hq _ _ h8).1.p) hrel hk
theorem K_pays : ∀ τ σ (p0 p1 : Int32), LI τ σ → LI (g_Mpays τ p0 p1 (mB τ)) σ := fun τ σ p0 p1 h9 => ⟨(have h := h9.1; ⟨h.1, ⟨h.2.1.1.pays, by
    unfold g_Mpays
    (repeat' split) <;> first | exact h.2.1.2.s0 h.2.1.1 | exact h.2.1.2.s00 h.2.1.1⟩, h.2.2.kept VM.pays VC.rfl'⟩), (by
    unfold g_Mpays
    (repeat' split) <;> first | exact h9.2.s0 | exact h9.2.s00)⟩
theorem G_pays {l : Launch} (hl : l.stackTraces = false) {LI' : XS9 → XS9 → Prop} (hq : ∀ τ σ, LI' τ σ → LI τ σ) (hrel : ∀ τ σ (p0 p1 : Int32), LI' τ σ → (p1 = 0 ∨ p1 = 1) → ((g_Mpays τ p0 p1 (mB τ)) 5000 0 = lw_k [eIOB] (o_pays σ p0 p1 (aB σ) (aw σ)) ∧ ∀ w, (o_pays σ p0 p1 (aB σ) (aw σ)) = .inl w → w = (f_Mpays τ p0 p1 (mB τ)))) (hk : ∀ τ σ (p0 p1 : Int32), LI' τ σ → LI' (g_Mpays τ p0 p1 (mB τ)) σ) : IF_pays l LI' := if_pays hl (fun _ _ h8 => (hq _ _ h8).1.p) hrel hk
theorem K_holder : ∀ τ σ (p0 p1 : Int32), LI τ σ → LI (g_Mholder τ p0 p1 (mR τ) (mB τ) (mtn τ) (msp τ)) σ := fun τ σ p0 p1 h9 => ⟨(have h := h9.1; ⟨h.1, ⟨h.2.1.1.holder, by
    unfold g_Mholder
    (repeat' split) <;> first | exact h.2.1.2.s0 h.2.1.1 | exact h.2.1.2.s00 h.2.1.1⟩, h.2.2.kept VM.holder VC.rfl'⟩), (by
    unfold g_Mholder
    (repeat' split) <;> first | exact h9.2.s0 | exact h9.2.s00)⟩
theorem G_holder {l : Launch} (hl : l.stackTraces = false) {LI' : XS9 → XS9 → Prop} (hq : ∀ τ σ, LI' τ σ → LI τ σ) (hrel : ∀ τ σ (p0 p1 : Int32), LI' τ σ → ((g_Mholder τ p0 p1 (mR τ) (mB τ) (mtn τ) (msp τ)) 5000 0 = lw_k [eIOB] (o_holder σ p0 p1 (aR σ) (asp σ)) ∧ ∀ w, (o_holder σ p0 p1 (aR σ) (asp σ)) = .inl w → w = (f_Mholder τ p0 p1 (mR τ) (mB τ) (mtn τ) (msp τ)))) (hk : ∀ τ σ (p0 p1 : Int32), LI' τ σ → LI' (g_Mholder τ p0 p1 (mR τ) (mB τ) (mtn τ) (msp τ)) σ) : IF_holder l LI' := if_holder hl (fun _ _ h8 => (hq _ _ h8).1.p) hrel hk
theorem K_contradicts : ∀ τ σ (p0 : Int32), LI τ σ → LI (g_Mcontradicts τ p0 (mR τ) (mB τ) (mg τ) (mn τ)) σ := fun τ σ p0 h9 => ⟨(have h := h9.1; ⟨h.1, ⟨h.2.1.1.contradicts, by
    unfold g_Mcontradicts
    (repeat' split) <;> first | exact h.2.1.2.s0 h.2.1.1 | exact h.2.1.2.s00 h.2.1.1⟩, h.2.2.kept VM.contradicts VC.rfl'⟩), (by
    unfold g_Mcontradicts
    (repeat' split) <;> first | exact h9.2.s0 | exact h9.2.s00)⟩
theorem G_contradicts {l : Launch} (hl : l.stackTraces = false) {LI' : XS9 → XS9 → Prop} (hq : ∀ τ σ, LI' τ σ → LI τ σ) (hrel : ∀ τ σ (p0 : Int32), LI' τ σ → ((g_Mcontradicts τ p0 (mR τ) (mB τ) (mg τ) (mn τ)) 5000 0 = lw_k [eIOB] (o_contradicts σ p0 (aB σ) (aK σ)) ∧ ∀ w, (o_contradicts σ p0 (aB σ) (aK σ)) = .inl w → w = (f_Mcontradicts τ p0 (mR τ) (mB τ) (mg τ) (mn τ)))) (hk : ∀ τ σ (p0 : Int32), LI' τ σ → LI' (g_Mcontradicts τ p0 (mR τ) (mB τ) (mg τ) (mn τ)) σ) : IF_contradicts l LI' := if_contradicts hl (fun _ _ h8 => (hq _ _ h8).1.p) hrel hk
theorem LI2.cb {τ σ : XS9} (h : LI2 τ σ) : cbd (ctl τ) := by
  have e : ∀ q i, cn (ctl τ q i) ≤ cn (τ q i) := fun q i => by
    unfold ctl
    split
    · exact Nat.le_refl _
    · exact Nat.zero_le _
  have r := h.2.1.1
  have h7 := r.1.2.2.2.2.2.2.1
  refine ⟨Nat.le_trans (e _ _) r.hR.2, Nat.le_trans (e _ _) r.hB.2, Nat.le_trans (e _ _) r.hK.2, fun j hj => Nat.le_trans (e _ _) ?_, fun b hb => ⟨Nat.le_trans (e _ _) (h7 b hb).1.2, Nat.le_trans (e _ _) (h7 b hb).2.1.2, Nat.lt_of_le_of_lt (e _ _) (Nat.lt_succ_of_le (h7 b hb).2.2.1.2), Nat.lt_of_le_of_lt (e _ _) (Nat.lt_succ_of_le (h7 b hb).2.2.2.2)⟩⟩
  have := (r.1.2.2.2.2.2.2.2.2.1 j hj).2
  omega
theorem LI2.me {τ σ : XS9} (h : LI2 τ σ) : mem_eq τ τ := h.2.1.1.me
