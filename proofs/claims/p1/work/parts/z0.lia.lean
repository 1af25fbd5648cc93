/-! ===== the relation and its interfaces ===== -/
def LIA (τ σ : XS9) : Prop := LI τ σ ∧ RA τ σ
theorem LIA.q {τ σ : XS9} (h : LIA τ σ) : LI τ σ := h.1
theorem LIA.st {τ σ : XS9} (h : LIA τ σ) : σ 1000 7 = 0 ↔ τ 5000 1 = 0 := h.1.1.2.2.2.2
theorem LIA.r {τ σ : XS9} (h : LIA τ σ) : JR τ := h.1.1.2.1.1
theorem LIA.j {τ σ : XS9} (h : LIA τ σ) : JC σ := h.1.1.1.1
theorem LIA.eR {τ σ : XS9} (h : LIA τ σ) : aR σ = mR τ := h.1.1.eqR
theorem LIA.eB {τ σ : XS9} (h : LIA τ σ) : aB σ = mB τ := h.1.1.eqB
theorem LIA.eC {τ σ : XS9} (h : LIA τ σ) : aC σ = mC τ := h.2.eC h.r.hS.2
/-! the relation of this law -/
def LIX (τ σ : XS9) : Prop := LIA τ σ ∧ RZ τ ∧ RC τ σ ∧ RB τ ∧ RS τ ∧ RM τ σ ∧ HZ τ ∧ RD τ ∧ OZ σ ∧ HY τ
theorem LIX.l {τ σ : XS9} (h : LIX τ σ) : LIA τ σ := h.1
theorem LIX.a {τ σ : XS9} (h : LIX τ σ) : RA τ σ := h.l.2
theorem LIX.r {τ σ : XS9} (h : LIX τ σ) : JR τ := h.l.r
theorem LIX.j {τ σ : XS9} (h : LIX τ σ) : JC σ := h.l.j
theorem LIX.kb {τ σ : XS9} (h : LIX τ σ) : KB σ := h.l.1.1.1.2
theorem LIX.js {τ σ : XS9} (h : LIX τ σ) : JS τ := h.l.1.1.2.1.2
theorem LIX.jp {τ σ : XS9} (h : LIX τ σ) : JP τ := h.l.1.2
theorem LIX.eR {τ σ : XS9} (h : LIX τ σ) : aR σ = mR τ := h.l.eR
theorem LIX.eB {τ σ : XS9} (h : LIX τ σ) : aB σ = mB τ := h.l.eB
theorem LIX.eC {τ σ : XS9} (h : LIX τ σ) : aC σ = mC τ := h.l.eC
theorem LIX.z {τ σ : XS9} (h : LIX τ σ) : RZ τ := h.2.1
theorem LIX.c {τ σ : XS9} (h : LIX τ σ) : RC τ σ := h.2.2.1
theorem LIX.b {τ σ : XS9} (h : LIX τ σ) : RB τ := h.2.2.2.1
theorem LIX.s {τ σ : XS9} (h : LIX τ σ) : RS τ := h.2.2.2.2.1
theorem LIX.m {τ σ : XS9} (h : LIX τ σ) : RM τ σ := h.2.2.2.2.2.1
theorem LIX.hz {τ σ : XS9} (h : LIX τ σ) : HZ τ := h.2.2.2.2.2.2.1
theorem LIX.d {τ σ : XS9} (h : LIX τ σ) : RD τ := h.2.2.2.2.2.2.2.1
theorem LIX.o {τ σ : XS9} (h : LIX τ σ) : OZ σ := h.2.2.2.2.2.2.2.2.1
theorem LIX.y {τ σ : XS9} (h : LIX τ σ) : HY τ := h.2.2.2.2.2.2.2.2.2
theorem LIX.P {τ σ : XS9} (h : LIX τ σ) : PCl (mR τ) (mB τ) τ σ := ⟨⟨h.c, h.a, h.z⟩, ⟨h.j, h.kb⟩, ⟨h.r, h.js, h.jp⟩, rfl, rfl⟩
theorem KA_region : ∀ τ σ (p0 p1 p2 : Int32), LIA τ σ → LIA (g_Mregion τ p0 p1 p2 (mR τ)) (g_region σ p0 p1 p2 (aR σ)) := fun τ σ p0 p1 p2 h => ⟨K_region τ σ p0 p1 p2 h.1, (by
    rw [h.eR]
    exact h.2.region h.st h.r.hR.2 rfl)⟩
theorem N_region {l : Launch} (hl : l.stackTraces = false) : IF_region l LIX := G_region hl (fun _ _ h => h.l.1) (fun τ σ p0 p1 p2 h => by
    rw [h.eR]
    exact h.l.1.1.2.2.says h.r.hR.2) (fun τ σ p0 p1 p2 h => ⟨KA_region τ σ p0 p1 p2 h.l, (h.z.region h.r.hR.2 rfl), (by
    rw [h.eR]
    exact h.c.region h.r h.r.hR.2), (h.b.region h.a h.r.hR.2 rfl), (h.s.region h.r.hR.2), (by
    rw [h.eR]
    exact h.m.region h.r h.c.st h.r.hR.2), (h.hz.region h.r), (h.d.region h.r.hR.2), h.o.region, (h.y.region h.r.hR.2)⟩)
theorem KA_border : ∀ τ σ (p0 p1 : Int32), LIA τ σ → LIA (g_Mborder τ p0 p1 (mR τ)) (g_border σ p0 p1 (aR σ)) := fun τ σ p0 p1 h => ⟨K_border τ σ p0 p1 h.1, (by
    rw [h.eR]
    exact h.2.border h.st h.r.hR.2 rfl)⟩
theorem N_border {l : Launch} (hl : l.stackTraces = false) : IF_border l LIX := G_border hl (fun _ _ h => h.l.1) (fun τ σ p0 p1 h => by
    rw [h.eR]
    exact says_border h.a h.l.st h.r.hR.2) (fun τ σ p0 p1 h => ⟨KA_border τ σ p0 p1 h.l, (h.z.border h.r.hR.2), (h.c.kept h.r (MK.border h.r.hR.2) VK.border), (h.b.border h.r.hR.2), (h.s.border h.r.hR.2), (by
    rw [h.eR]
    exact h.m.border h.r h.r.hR.2), (h.hz.kept h.r (MK.border h.r.hR.2)), (h.d.border h.r.hR.2), (h.o.row VC.border VK.border), (h.y.kept (MK.border h.r.hR.2))⟩)
theorem KA_bidder : ∀ τ σ (p0 p1 p2 p3 : Int32), LIA τ σ → LIA (g_Mbidder τ p0 p1 p2 p3 (mB τ)) (g_bidder σ p0 p1 p2 p3 (aB σ)) := fun τ σ p0 p1 p2 p3 h => ⟨K_bidder τ σ p0 p1 p2 p3 h.1, (by
    rw [h.eB]
    exact h.2.bidder h.st h.r.hB.2)⟩
theorem N_bidder {l : Launch} (hl : l.stackTraces = false) : IF_bidder l LIX := G_bidder hl (fun _ _ h => h.l.1) (fun τ σ p0 p1 p2 p3 h => by
    rw [h.eB]
    exact says_bidder h.l.st h.r.hB.2) (fun τ σ p0 p1 p2 p3 h => ⟨KA_bidder τ σ p0 p1 p2 p3 h.l, (h.z.bidder h.r.hB.2), (by
    rw [h.eB]
    exact h.c.bidder h.r h.r.hB.2), (h.b.bidder h.r.hB.2), (h.s.bidder h.r.hB.2), (by
    rw [h.eB]
    exact h.m.bidder h.r h.r.hB.2 rfl), (h.hz.bidder h.r), (h.d.bidder h.r.hB.2), h.o.bidder, (h.y.bidder h.r.hB.2)⟩)
theorem KA_rules : ∀ τ σ (p0 p1 : Int32), LIA τ σ → LIA (g_Mrules τ p0 p1) (g_rules σ p0 p1) := fun τ σ p0 p1 h => ⟨K_rules τ σ p0 p1 h.1, (h.2.rules h.st)⟩
theorem N_rules {l : Launch} (hl : l.stackTraces = false) : IF_rules l LIX := G_rules hl (fun _ _ h => h.l.1) (fun τ σ p0 p1 h _ => says_rules h.a h.l.st) (fun τ σ p0 p1 h => ⟨KA_rules τ σ p0 p1 h.l, h.z.rules, (h.c.kept h.r MK.rules VK.rules), h.b.rules, h.s.rules, (h.m.rules h.r), (h.hz.kept h.r MK.rules), h.d.rules, (h.o.row VC.rules VK.rules), (h.y.kept MK.rules)⟩)
theorem KA_step : ∀ τ σ (p0 : Int32), LIA τ σ → LIA (g_Mstep τ p0) (g_step σ p0) := fun τ σ p0 h => ⟨K_step τ σ p0 h.1, (h.2.kept MA.step VA.step)⟩
theorem N_step {l : Launch} (hl : l.stackTraces = false) : IF_step l LIX := G_step hl (fun _ _ h => h.l.1) (fun τ σ p0 h => says_step h.c h.r) (fun τ σ p0 h => ⟨KA_step τ σ p0 h.l, (h.z.kept MA.step), (h.c.step h.r), (h.b.ma MA.step), (h.s.kept MA.step), (h.m.kept h.r MX.step VX.step), (h.hz.step h.r), (h.d.kept MA.step), h.o.step, h.y.step⟩)
theorem KA_opn : ∀ τ σ, LIA τ σ → LIA (g_Mopen τ (mR τ) (mB τ)) (g_open σ (aR σ) (aB σ)) := fun τ σ h => ⟨K_opn τ σ h.1, (h.2.kept MA.opn VA.opn)⟩
theorem N_opn {l : Launch} (hl : l.stackTraces = false) : IF_open l LIX := G_opn hl (fun _ _ h => h.l.1) (fun τ σ h => by
    rw [h.eR, h.eB]
    exact says_open h.c h.r h.a h.z) (fun τ σ h => ⟨KA_opn τ σ h.l, (h.z.kept MA.opn), (by
    rw [h.eR, h.eB]
    exact h.c.opn h.r h.a h.z rfl rfl), (h.b.ma MA.opn), (h.s.kept MA.opn), (by
    rw [h.eR, h.eB]
    exact h.m.opn h.r h.r.hR.2 h.r.hB.2), (h.hz.opn h.r), (h.d.kept MA.opn), h.o.opn, h.y.opn⟩)
theorem KA_wish : ∀ τ σ (p0 p1 p2 : Int32), LIA τ σ → LIA (g_Mwish τ p0 p1 p2 (mR τ) (mB τ) (mg τ)) (g_wish σ p0 p1 p2 (aR σ) (aB σ)) := fun τ σ p0 p1 p2 h => ⟨K_wish τ σ p0 p1 p2 h.1, (h.2.kept MA.wish VA.wish)⟩
theorem N_wish {l : Launch} (hl : l.stackTraces = false) : IF_wish l LIX := G_wish hl (fun _ _ h => h.l.1) (fun τ σ p0 p1 p2 h => by
    rw [h.eR, h.eB]
    exact says_wish h.c h.r h.a h.z h.j) (fun τ σ p0 p1 p2 h => ⟨KA_wish τ σ p0 p1 p2 h.l, (h.z.kept MA.wish), (by
    rw [h.eR, h.eB]
    exact h.c.wish h.r h.a h.z h.j rfl rfl rfl), (h.b.ma MA.wish), (h.s.kept MA.wish), (h.m.kept h.r MX.wish VX.wish), (h.hz.wish h.r h.js), (h.d.kept MA.wish), h.o.wish, (h.y.wish h.r.hg.2)⟩)
theorem KA_waive : ∀ τ σ (p0 : Int32), LIA τ σ → LIA (g_Mwaive τ p0 (mB τ) (mg τ) (mw τ)) (g_waive σ p0 (aB σ)) := fun τ σ p0 h => ⟨K_waive τ σ p0 h.1, (h.2.kept MA.waive VA.waive)⟩
theorem N_waive {l : Launch} (hl : l.stackTraces = false) : IF_waive l LIX := G_waive hl (fun _ _ h => h.l.1) (fun τ σ p0 h => by
    rw [h.eB]
    exact says_waive h.c h.r) (fun τ σ p0 h => ⟨KA_waive τ σ p0 h.l, (h.z.kept MA.waive), (by
    rw [h.eB]
    exact h.c.waive h.r rfl rfl rfl), (h.b.ma MA.waive), (h.s.kept MA.waive), (h.m.kept h.r MX.waive VX.waive), (h.hz.waive h.r), (h.d.kept MA.waive), h.o.waive, (h.y.waive h.r.hw.2)⟩)
theorem KA_close : ∀ τ σ (p0 : Int32), LIA τ σ → LIA (g_Mclose τ p0) (g_close σ p0 (aR σ) (aB σ) (agr σ)) := fun τ σ p0 h => ⟨K_close τ σ p0 h.1, (h.2.kept (MA.close h.r h.1.1.2.1.2 h.1.2) (VA.close h.j h.1.1.1.2 h.j.hR.2 h.j.hB.2 (fun i hi => (h.j.hgr i hi).2)))⟩
theorem N_close {l : Launch} (hl : l.stackTraces = false) : IF_close l LIX := G_close hl (fun _ _ h => h.l.1) (fun τ σ p0 h => by
    rw [h.eR, h.eB]
    exact says_close h.P (fun i hi => (h.j.hgr i hi).2)) (fun τ σ p0 h => ⟨KA_close τ σ p0 h.l, (h.z.kept (MA.close h.r h.js h.jp)), (by
    rw [h.eR, h.eB]
    exact h.P.close (fun i hi => (h.j.hgr i hi).2)), (h.b.ma (MA.close h.r h.js h.jp)), (h.s.kept (MA.close h.r h.js h.jp)), (by
    rw [h.eR, h.eB]
    exact (h.m.close h.P h.hz (gr_eq h.a h.j)).1), (h.m.close h.P h.hz (gr_eq h.a h.j)).2, (h.d.kept (MA.close h.r h.js h.jp)), (h.o.close h.j h.kb h.j.hR.2 (fun i hi => (h.j.hgr i hi).2)), (h.y.close h.r h.js h.jp)⟩)
theorem KA_offer : ∀ τ σ (p0 p1 p2 : Int32), LIA τ σ → LIA (g_Moffer τ p0 p1 p2 (mR τ) (mB τ) (mpk τ)) (g_offer σ p0 p1 p2 (aR σ) (aB σ) (agr σ) (acn σ)) := fun τ σ p0 p1 p2 h => ⟨K_offer τ σ p0 p1 p2 h.1, (h.2.kept MA.offer (VA.offer h.j.hB.2 (fun i hi => (h.j.hgr i hi).2) (fun i hi => (h.j.hct i hi).2)))⟩
theorem N_offer {l : Launch} (hl : l.stackTraces = false) : IF_offer l LIX := G_offer hl (fun _ _ h => h.l.1) (fun τ σ p0 p1 p2 h => by
    rw [h.eR, h.eB]
    exact says_offer h.m h.r h.jp h.a h.z h.c.st (ct_eq h.m h.r)) (fun τ σ p0 p1 p2 h => ⟨KA_offer τ σ p0 p1 p2 h.l, (h.z.kept MA.offer), (h.c.kept h.r (MK.offer h.r.hB.2) (VK.offer h.j.hB.2 (fun i hi => (h.j.hgr i hi).2) (fun i hi => (h.j.hct i hi).2))), (h.b.ma MA.offer), (h.s.kept MA.offer), (by
    rw [h.eR, h.eB]
    exact h.m.offer h.r h.jp h.a h.z h.c.st (gr_eq h.a h.j) (ct_eq h.m h.r)), (h.hz.kept h.r (MK.offer h.r.hB.2)), (h.d.kept MA.offer), (h.o.row (VC.offer h.j.hB.2 (fun i hi => (h.j.hgr i hi).2) (fun i hi => (h.j.hct i hi).2)) (VK.offer h.j.hB.2 (fun i hi => (h.j.hgr i hi).2) (fun i hi => (h.j.hct i hi).2))), (h.y.kept (MK.offer h.r.hB.2))⟩)
theorem KA_settle : ∀ τ σ (p0 : Int32), LIA τ σ → LIA (g_Msettle τ p0 (mR τ) (mB τ) (mpk τ) (mgr τ) (mcd τ) (msp τ)) (g_settle σ p0 (aR σ) (asp σ)) := fun τ σ p0 h => ⟨K_settle τ σ p0 h.1, (h.2.kept (MA.settle h.r.hB.2) (VA.settle h.j.hR.2))⟩
theorem N_settle {l : Launch} (hl : l.stackTraces = false) : IF_settle l LIX := G_settle hl (fun _ _ h => h.l.1) (fun τ σ p0 h => by
    rw [h.eR]
    exact says_settle h.m h.r h.jp h.a h.c.st) (fun τ σ p0 h => ⟨KA_settle τ σ p0 h.l, (h.z.kept (MA.settle h.r.hB.2)), (by
    rw [h.eR]
    exact h.c.settle h.r h.r.hR.2 h.r.hB.2), (h.b.ma (MA.settle h.r.hB.2)), (h.s.kept (MA.settle h.r.hB.2)), (by
    rw [h.eR]
    exact h.m.settle h.r h.jp h.a h.c.st), (h.hz.settle h.r h.r.hB.2), (h.d.kept (MA.settle h.r.hB.2)), (h.o.settle h.j.hR.2), (h.y.settle h.r.hB.2)⟩)
theorem KA_fail : ∀ τ σ (p0 : Int32), LIA τ σ → LIA (g_Mfail τ p0 (mR τ) (mB τ) (mpk τ) (mgr τ) (mcd τ) (mwy τ) (msp τ)) (g_fail σ p0 (aR σ) (aB σ) (asp σ)) := fun τ σ p0 h => ⟨K_fail τ σ p0 h.1, (h.2.kept (MA.fail h.r.hB.2) (VA.fail h.j.hR.2))⟩
theorem N_fail {l : Launch} (hl : l.stackTraces = false) : IF_fail l LIX := G_fail hl (fun _ _ h => h.l.1) (fun τ σ p0 h => by
    rw [h.eR, h.eB]
    exact says_fail h.m h.r h.jp h.a h.c.st) (fun τ σ p0 h => ⟨KA_fail τ σ p0 h.l, (h.z.kept (MA.fail h.r.hB.2)), (h.c.kept h.r (MK.fail h.r.hB.2) (VK.fail h.j.hR.2)), (h.b.ma (MA.fail h.r.hB.2)), (h.s.kept (MA.fail h.r.hB.2)), (by
    rw [h.eR, h.eB]
    exact h.m.fail h.r h.jp h.a h.c.st), (h.hz.kept h.r (MK.fail h.r.hB.2)), (h.d.kept (MA.fail h.r.hB.2)), (h.o.row (VC.fail h.j.hR.2) (VK.fail h.j.hR.2)), (h.y.kept (MK.fail h.r.hB.2))⟩)
theorem KA_station : ∀ τ σ (p0 p1 : Int32), LIA τ σ → LIA (g_Mstation τ p0 p1 (mR τ) (mC τ)) (g_station σ p0 p1 (aR σ) (aC σ)) := fun τ σ p0 p1 h => ⟨K_station τ σ p0 p1 h.1, (by
    rw [h.eR, h.eC]
    exact h.2.station h.r.hS.2 rfl)⟩
theorem N_station {l : Launch} (hl : l.stackTraces = false) : IF_station l LIX := G_station hl (fun _ _ h => h.l.1) (fun τ σ p0 p1 h => by
    rw [h.eR, h.eC]
    exact says_station h.r.hS.2) (fun τ σ p0 p1 h => ⟨KA_station τ σ p0 p1 h.l, h.z.station, (h.c.kept h.r MK.station VK.station), h.b.station, (h.s.station h.r.hS.1 h.r.hS.2), (h.m.kept h.r MX.station VX.station), (h.hz.kept h.r MK.station), h.d.station, (h.o.row VC.station VK.station), (h.y.kept MK.station)⟩)
theorem KA_ask : ∀ τ σ (p0 p1 : Int32), LIA τ σ → LIA (g_Mask τ p0 p1 (mC τ)) (g_ask σ p0 p1 (aC σ)) := fun τ σ p0 p1 h => ⟨K_ask τ σ p0 p1 h.1, (by
    rw [h.eC]
    exact h.2.ask h.r.hS.2)⟩
theorem N_ask {l : Launch} (hl : l.stackTraces = false) : IF_ask l LIX := G_ask hl (fun _ _ h => h.l.1) (fun τ σ p0 p1 h => by
    rw [h.eC]
    exact says_ask h.a h.r.hS.2) (fun τ σ p0 p1 h => ⟨KA_ask τ σ p0 p1 h.l, h.z.ask, (h.c.kept h.r MK.ask VK.ask), h.b.ask, (h.s.ask h.r.hS.2), (h.m.kept h.r MX.ask VX.ask), (h.hz.kept h.r MK.ask), h.d.ask, (h.o.row VC.ask VK.ask), (h.y.kept MK.ask)⟩)
theorem KA_packs : ∀ τ σ (p0 p1 : Int32), LIA τ σ → LIA (g_Mpacks τ p0 p1 (mR τ) (mC τ) (mrg τ)) (g_packs σ p0 p1 (aC σ) (arg σ)) := fun τ σ p0 p1 h => ⟨K_packs τ σ p0 p1 h.1, (h.2.kept MA.packs VA.packs)⟩
theorem N_packs {l : Launch} (hl : l.stackTraces = false) : IF_packs l LIX := G_packs hl (fun _ _ h => h.l.1) (fun τ σ p0 p1 h => says_packs h.a h.b h.r h.eC) (fun τ σ p0 p1 h => ⟨KA_packs τ σ p0 p1 h.l, (h.z.kept MA.packs), (h.c.kept h.r MK.packs VK.packs), (h.b.ma MA.packs), (h.s.kept MA.packs), (h.m.kept h.r MX.packs VX.packs), (h.hz.kept h.r MK.packs), (h.d.kept MA.packs), (h.o.row VC.packs VK.packs), (h.y.kept MK.packs)⟩)
theorem KA_channel : ∀ τ σ (p0 p1 p2 : Int32), LIA τ σ → LIA (g_Mchannel τ p0 p1 p2 (mR τ) (mC τ) (mrg τ)) (g_channel σ p0 p1 p2 (aC σ) (arg σ)) := fun τ σ p0 p1 p2 h => ⟨K_channel τ σ p0 p1 p2 h.1, (h.2.kept MA.channel VA.channel)⟩
theorem N_channel {l : Launch} (hl : l.stackTraces = false) : IF_channel l LIX := G_channel hl (fun _ _ h => h.l.1) (fun τ σ p0 p1 p2 h => says_channel h.a h.b h.r h.eC) (fun τ σ p0 p1 p2 h => ⟨KA_channel τ σ p0 p1 p2 h.l, (h.z.kept MA.channel), (h.c.kept h.r MK.channel VK.channel), (h.b.ma MA.channel), (h.s.kept MA.channel), (h.m.kept h.r MX.channel VX.channel), (h.hz.kept h.r MK.channel), (h.d.kept MA.channel), (h.o.row VC.channel VK.channel), (h.y.kept MK.channel)⟩)
theorem KA_clear : ∀ τ σ (p0 : Int32), LIA τ σ → LIA (g_Mclear τ p0 (mR τ) (mC τ) (mrg τ)) (g_clear σ p0 (aC σ) (arg σ)) := fun τ σ p0 h => ⟨K_clear τ σ p0 h.1, (h.2.kept MA.clear VA.clear)⟩
theorem N_clear {l : Launch} (hl : l.stackTraces = false) : IF_clear l LIX := G_clear hl (fun _ _ h => h.l.1) (fun τ σ p0 h => says_clear h.a h.b h.r h.s h.eC) (fun τ σ p0 h => ⟨KA_clear τ σ p0 h.l, (h.z.kept MA.clear), (h.c.kept h.r MK.clear VK.clear), (h.b.ma MA.clear), (h.s.kept MA.clear), (h.m.kept h.r MX.clear VX.clear), (h.hz.kept h.r MK.clear), (h.d.kept MA.clear), (h.o.row VC.clear VK.clear), (h.y.kept MK.clear)⟩)
theorem KA_ofRegion : ∀ τ σ (p0 p1 : Int32), LIA τ σ → LIA (g_MofRegion τ p0 p1 (mR τ) (mB τ) (mC τ) (mg τ)) σ := fun τ σ p0 p1 h => ⟨K_ofRegion τ σ p0 p1 h.1, (h.2.kept (by
    unfold g_MofRegion
    (repeat' split) <;> first | with_reducible exact MA.s0 | with_reducible exact MA.s00 | exact MA.s0 | exact MA.s00) VA.rfl')⟩
theorem N_ofRegion {l : Launch} (hl : l.stackTraces = false) : IF_ofRegion l LIX := G_ofRegion hl (fun _ _ h => h.l.1) (fun τ σ p0 p1 h => by
    rw [h.eR, h.eC]
    exact says_ofRegion h.c h.r h.a) (fun τ σ p0 p1 h => ⟨KA_ofRegion τ σ p0 p1 h.l, (h.z.kept (by
    unfold g_MofRegion
    (repeat' split) <;> first | with_reducible exact MA.s0 | with_reducible exact MA.s00 | exact MA.s0 | exact MA.s00)), (h.c.kept h.r (by
    unfold g_MofRegion
    (repeat' split) <;> first | with_reducible exact MK.s0 | with_reducible exact MK.s00 | exact MK.s0 | exact MK.s00) VK.rfl'), (h.b.ma (by
    unfold g_MofRegion
    (repeat' split) <;> first | with_reducible exact MA.s0 | with_reducible exact MA.s00 | exact MA.s0 | exact MA.s00)), (h.s.kept (by
    unfold g_MofRegion
    (repeat' split) <;> first | with_reducible exact MA.s0 | with_reducible exact MA.s00 | exact MA.s0 | exact MA.s00)), (h.m.kept h.r (by
    unfold g_MofRegion
    (repeat' split) <;> first | with_reducible exact MX.s0 | with_reducible exact MX.s00 | exact MX.s0 | exact MX.s00) VX.rfl'), (h.hz.kept h.r (by
    unfold g_MofRegion
    (repeat' split) <;> first | with_reducible exact MK.s0 | with_reducible exact MK.s00 | exact MK.s0 | exact MK.s00)), (h.d.kept (by
    unfold g_MofRegion
    (repeat' split) <;> first | with_reducible exact MA.s0 | with_reducible exact MA.s00 | exact MA.s0 | exact MA.s00)), h.o, (h.y.kept (by
    unfold g_MofRegion
    (repeat' split) <;> first | with_reducible exact MK.s0 | with_reducible exact MK.s00 | exact MK.s0 | exact MK.s00))⟩)
theorem KA_ofBidder : ∀ τ σ (p0 p1 : Int32), LIA τ σ → LIA (g_MofBidder τ p0 p1 (mR τ) (mB τ) (mpk τ) (mg τ)) σ := fun τ σ p0 p1 h => ⟨K_ofBidder τ σ p0 p1 h.1, (h.2.kept (by
    unfold g_MofBidder
    (repeat' split) <;> first | with_reducible exact MA.s0 | with_reducible exact MA.s00 | exact MA.s0 | exact MA.s00) VA.rfl')⟩
theorem N_ofBidder {l : Launch} (hl : l.stackTraces = false) : IF_ofBidder l LIX := G_ofBidder hl (fun _ _ h => h.l.1) (fun τ σ p0 p1 h => by
    rw [h.eB]
    exact says_ofBidder h.c h.r h.a h.z h.m h.jp) (fun τ σ p0 p1 h => ⟨KA_ofBidder τ σ p0 p1 h.l, (h.z.kept (by
    unfold g_MofBidder
    (repeat' split) <;> first | with_reducible exact MA.s0 | with_reducible exact MA.s00 | exact MA.s0 | exact MA.s00)), (h.c.kept h.r (by
    unfold g_MofBidder
    (repeat' split) <;> first | with_reducible exact MK.s0 | with_reducible exact MK.s00 | exact MK.s0 | exact MK.s00) VK.rfl'), (h.b.ma (by
    unfold g_MofBidder
    (repeat' split) <;> first | with_reducible exact MA.s0 | with_reducible exact MA.s00 | exact MA.s0 | exact MA.s00)), (h.s.kept (by
    unfold g_MofBidder
    (repeat' split) <;> first | with_reducible exact MA.s0 | with_reducible exact MA.s00 | exact MA.s0 | exact MA.s00)), (h.m.kept h.r (by
    unfold g_MofBidder
    (repeat' split) <;> first | with_reducible exact MX.s0 | with_reducible exact MX.s00 | exact MX.s0 | exact MX.s00) VX.rfl'), (h.hz.kept h.r (by
    unfold g_MofBidder
    (repeat' split) <;> first | with_reducible exact MK.s0 | with_reducible exact MK.s00 | exact MK.s0 | exact MK.s00)), (h.d.kept (by
    unfold g_MofBidder
    (repeat' split) <;> first | with_reducible exact MA.s0 | with_reducible exact MA.s00 | exact MA.s0 | exact MA.s00)), h.o, (h.y.kept (by
    unfold g_MofBidder
    (repeat' split) <;> first | with_reducible exact MK.s0 | with_reducible exact MK.s00 | exact MK.s0 | exact MK.s00))⟩)
theorem KA_wants : ∀ τ σ (p0 p1 p2 : Int32), LIA τ σ → LIA (g_Mwants τ p0 p1 p2 (mR τ) (mB τ) (mg τ)) σ := fun τ σ p0 p1 p2 h => ⟨K_wants τ σ p0 p1 p2 h.1, (h.2.kept (by
    unfold g_Mwants
    (repeat' split) <;> first | with_reducible exact MA.s0 | with_reducible exact MA.s00 | exact MA.s0 | exact MA.s00) VA.rfl')⟩
theorem N_wants {l : Launch} (hl : l.stackTraces = false) : IF_wants l LIX := G_wants hl (fun _ _ h => h.l.1) (fun τ σ p0 p1 p2 h _ => by
    rw [h.eR, h.eB]
    exact says_wants h.c h.r) (fun τ σ p0 p1 p2 h => ⟨KA_wants τ σ p0 p1 p2 h.l, (h.z.kept (by
    unfold g_Mwants
    (repeat' split) <;> first | with_reducible exact MA.s0 | with_reducible exact MA.s00 | exact MA.s0 | exact MA.s00)), (h.c.kept h.r (by
    unfold g_Mwants
    (repeat' split) <;> first | with_reducible exact MK.s0 | with_reducible exact MK.s00 | exact MK.s0 | exact MK.s00) VK.rfl'), (h.b.ma (by
    unfold g_Mwants
    (repeat' split) <;> first | with_reducible exact MA.s0 | with_reducible exact MA.s00 | exact MA.s0 | exact MA.s00)), (h.s.kept (by
    unfold g_Mwants
    (repeat' split) <;> first | with_reducible exact MA.s0 | with_reducible exact MA.s00 | exact MA.s0 | exact MA.s00)), (h.m.kept h.r (by
    unfold g_Mwants
    (repeat' split) <;> first | with_reducible exact MX.s0 | with_reducible exact MX.s00 | exact MX.s0 | exact MX.s00) VX.rfl'), (h.hz.kept h.r (by
    unfold g_Mwants
    (repeat' split) <;> first | with_reducible exact MK.s0 | with_reducible exact MK.s00 | exact MK.s0 | exact MK.s00)), (h.d.kept (by
    unfold g_Mwants
    (repeat' split) <;> first | with_reducible exact MA.s0 | with_reducible exact MA.s00 | exact MA.s0 | exact MA.s00)), h.o, (h.y.kept (by
    unfold g_Mwants
    (repeat' split) <;> first | with_reducible exact MK.s0 | with_reducible exact MK.s00 | exact MK.s0 | exact MK.s00))⟩)
theorem KA_priceIn : ∀ τ σ (p0 p1 : Int32), LIA τ σ → LIA (g_MpriceIn τ p0 p1 (mR τ) (mK τ)) σ := fun τ σ p0 p1 h => ⟨K_priceIn τ σ p0 p1 h.1, (h.2.kept (by
    unfold g_MpriceIn
    (repeat' split) <;> first | with_reducible exact MA.s0 | with_reducible exact MA.s00 | exact MA.s0 | exact MA.s00) VA.rfl')⟩
theorem N_priceIn {l : Launch} (hl : l.stackTraces = false) : IF_priceIn l LIX := G_priceIn hl (fun _ _ h => h.l.1) (fun τ σ p0 p1 h => by
    rw [h.eR, h.c.eK]
    exact says_priceIn h.c) (fun τ σ p0 p1 h => ⟨KA_priceIn τ σ p0 p1 h.l, (h.z.kept (by
    unfold g_MpriceIn
    (repeat' split) <;> first | with_reducible exact MA.s0 | with_reducible exact MA.s00 | exact MA.s0 | exact MA.s00)), (h.c.kept h.r (by
    unfold g_MpriceIn
    (repeat' split) <;> first | with_reducible exact MK.s0 | with_reducible exact MK.s00 | exact MK.s0 | exact MK.s00) VK.rfl'), (h.b.ma (by
    unfold g_MpriceIn
    (repeat' split) <;> first | with_reducible exact MA.s0 | with_reducible exact MA.s00 | exact MA.s0 | exact MA.s00)), (h.s.kept (by
    unfold g_MpriceIn
    (repeat' split) <;> first | with_reducible exact MA.s0 | with_reducible exact MA.s00 | exact MA.s0 | exact MA.s00)), (h.m.kept h.r (by
    unfold g_MpriceIn
    (repeat' split) <;> first | with_reducible exact MX.s0 | with_reducible exact MX.s00 | exact MX.s0 | exact MX.s00) VX.rfl'), (h.hz.kept h.r (by
    unfold g_MpriceIn
    (repeat' split) <;> first | with_reducible exact MK.s0 | with_reducible exact MK.s00 | exact MK.s0 | exact MK.s00)), (h.d.kept (by
    unfold g_MpriceIn
    (repeat' split) <;> first | with_reducible exact MA.s0 | with_reducible exact MA.s00 | exact MA.s0 | exact MA.s00)), h.o, (h.y.kept (by
    unfold g_MpriceIn
    (repeat' split) <;> first | with_reducible exact MK.s0 | with_reducible exact MK.s00 | exact MK.s0 | exact MK.s00))⟩)
theorem KA_codeIn : ∀ τ σ (p0 p1 p2 : Int32), LIA τ σ → LIA (g_McodeIn τ p0 p1 p2 (mB τ) (mK τ)) σ := fun τ σ p0 p1 p2 h => ⟨K_codeIn τ σ p0 p1 p2 h.1, (h.2.kept (by
    unfold g_McodeIn
    (repeat' split) <;> first | with_reducible exact MA.s0 | with_reducible exact MA.s00 | exact MA.s0 | exact MA.s00) VA.rfl')⟩
theorem N_codeIn {l : Launch} (hl : l.stackTraces = false) : IF_codeIn l LIX := G_codeIn hl (fun _ _ h => h.l.1) (fun τ σ p0 p1 p2 h _ => by
    rw [h.eB, h.c.eK]
    exact says_codeIn h.c) (fun τ σ p0 p1 p2 h => ⟨KA_codeIn τ σ p0 p1 p2 h.l, (h.z.kept (by
    unfold g_McodeIn
    (repeat' split) <;> first | with_reducible exact MA.s0 | with_reducible exact MA.s00 | exact MA.s0 | exact MA.s00)), (h.c.kept h.r (by
    unfold g_McodeIn
    (repeat' split) <;> first | with_reducible exact MK.s0 | with_reducible exact MK.s00 | exact MK.s0 | exact MK.s00) VK.rfl'), (h.b.ma (by
    unfold g_McodeIn
    (repeat' split) <;> first | with_reducible exact MA.s0 | with_reducible exact MA.s00 | exact MA.s0 | exact MA.s00)), (h.s.kept (by
    unfold g_McodeIn
    (repeat' split) <;> first | with_reducible exact MA.s0 | with_reducible exact MA.s00 | exact MA.s0 | exact MA.s00)), (h.m.kept h.r (by
    unfold g_McodeIn
    (repeat' split) <;> first | with_reducible exact MX.s0 | with_reducible exact MX.s00 | exact MX.s0 | exact MX.s00) VX.rfl'), (h.hz.kept h.r (by
    unfold g_McodeIn
    (repeat' split) <;> first | with_reducible exact MK.s0 | with_reducible exact MK.s00 | exact MK.s0 | exact MK.s00)), (h.d.kept (by
    unfold g_McodeIn
    (repeat' split) <;> first | with_reducible exact MA.s0 | with_reducible exact MA.s00 | exact MA.s0 | exact MA.s00)), h.o, (h.y.kept (by
    unfold g_McodeIn
    (repeat' split) <;> first | with_reducible exact MK.s0 | with_reducible exact MK.s00 | exact MK.s0 | exact MK.s00))⟩)
theorem KA_ofPackage : ∀ τ σ (p0 p1 p2 : Int32), LIA τ σ → LIA (g_MofPackage τ p0 p1 p2 (mB τ) (mpk τ)) σ := fun τ σ p0 p1 p2 h => ⟨K_ofPackage τ σ p0 p1 p2 h.1, (h.2.kept (by
    unfold g_MofPackage
    (repeat' split) <;> first | with_reducible exact MA.s0 | with_reducible exact MA.s00 | exact MA.s0 | exact MA.s00) VA.rfl')⟩
theorem N_ofPackage {l : Launch} (hl : l.stackTraces = false) : IF_ofPackage l LIX := G_ofPackage hl (fun _ _ h => h.l.1) (fun τ σ p0 p1 p2 h _ => by
    rw [h.eB]
    exact says_ofPackage h.m h.r (ct_eq h.m h.r)) (fun τ σ p0 p1 p2 h => ⟨KA_ofPackage τ σ p0 p1 p2 h.l, (h.z.kept (by
    unfold g_MofPackage
    (repeat' split) <;> first | with_reducible exact MA.s0 | with_reducible exact MA.s00 | exact MA.s0 | exact MA.s00)), (h.c.kept h.r (by
    unfold g_MofPackage
    (repeat' split) <;> first | with_reducible exact MK.s0 | with_reducible exact MK.s00 | exact MK.s0 | exact MK.s00) VK.rfl'), (h.b.ma (by
    unfold g_MofPackage
    (repeat' split) <;> first | with_reducible exact MA.s0 | with_reducible exact MA.s00 | exact MA.s0 | exact MA.s00)), (h.s.kept (by
    unfold g_MofPackage
    (repeat' split) <;> first | with_reducible exact MA.s0 | with_reducible exact MA.s00 | exact MA.s0 | exact MA.s00)), (h.m.kept h.r (by
    unfold g_MofPackage
    (repeat' split) <;> first | with_reducible exact MX.s0 | with_reducible exact MX.s00 | exact MX.s0 | exact MX.s00) VX.rfl'), (h.hz.kept h.r (by
    unfold g_MofPackage
    (repeat' split) <;> first | with_reducible exact MK.s0 | with_reducible exact MK.s00 | exact MK.s0 | exact MK.s00)), (h.d.kept (by
    unfold g_MofPackage
    (repeat' split) <;> first | with_reducible exact MA.s0 | with_reducible exact MA.s00 | exact MA.s0 | exact MA.s00)), h.o, (h.y.kept (by
    unfold g_MofPackage
    (repeat' split) <;> first | with_reducible exact MK.s0 | with_reducible exact MK.s00 | exact MK.s0 | exact MK.s00))⟩)
theorem KA_wins : ∀ τ σ (p0 : Int32), LIA τ σ → LIA (g_Mwins τ p0 (mR τ) (mB τ) (mpk τ) (mgr τ) (mcd τ)) σ := fun τ σ p0 h => ⟨K_wins τ σ p0 h.1, (h.2.kept (by
    unfold g_Mwins
    (repeat' split) <;> first | with_reducible exact MA.s00 | exact MA.s0.trans MA.cinit | exact MA.s00) VA.rfl')⟩
theorem N_wins {l : Launch} (hl : l.stackTraces = false) : IF_wins l LIX := G_wins hl (fun _ _ h => h.l.1) (fun τ σ p0 h => by
    rw [h.eB]
    exact says_wins h.m h.r h.jp) (fun τ σ p0 h => ⟨KA_wins τ σ p0 h.l, (h.z.kept (by
    unfold g_Mwins
    (repeat' split) <;> first | with_reducible exact MA.s00 | exact MA.s0.trans MA.cinit | exact MA.s00)), (h.c.kept h.r (by
    unfold g_Mwins
    (repeat' split) <;> first | with_reducible exact MK.s00 | exact MK.s0.trans MK.cinit | exact MK.s00) VK.rfl'), (h.b.ma (by
    unfold g_Mwins
    (repeat' split) <;> first | with_reducible exact MA.s00 | exact MA.s0.trans MA.cinit | exact MA.s00)), (h.s.kept (by
    unfold g_Mwins
    (repeat' split) <;> first | with_reducible exact MA.s00 | exact MA.s0.trans MA.cinit | exact MA.s00)), (h.m.kept h.r (by
    unfold g_Mwins
    (repeat' split) <;> first | with_reducible exact MX.s00 | exact MX.s0.trans MX.cinit | exact MX.s00) VX.rfl'), (h.hz.kept h.r (by
    unfold g_Mwins
    (repeat' split) <;> first | with_reducible exact MK.s00 | exact MK.s0.trans MK.cinit | exact MK.s00)), (h.d.kept (by
    unfold g_Mwins
    (repeat' split) <;> first | with_reducible exact MA.s00 | exact MA.s0.trans MA.cinit | exact MA.s00)), h.o, (h.y.kept (by
    unfold g_Mwins
    (repeat' split) <;> first | with_reducible exact MK.s00 | exact MK.s0.trans MK.cinit | exact MK.s00))⟩)
theorem KA_pays : ∀ τ σ (p0 p1 : Int32), LIA τ σ → LIA (g_Mpays τ p0 p1 (mB τ)) σ := fun τ σ p0 p1 h => ⟨K_pays τ σ p0 p1 h.1, (h.2.kept (by
    unfold g_Mpays
    (repeat' split) <;> first | with_reducible exact MA.s0 | with_reducible exact MA.s00 | exact MA.s0 | exact MA.s00) VA.rfl')⟩
theorem N_pays {l : Launch} (hl : l.stackTraces = false) : IF_pays l LIX := G_pays hl (fun _ _ h => h.l.1) (fun τ σ p0 p1 h _ => by
    rw [h.eB]
    exact says_pays h.m h.r h.jp h.a h.c.st h.d) (fun τ σ p0 p1 h => ⟨KA_pays τ σ p0 p1 h.l, (h.z.kept (by
    unfold g_Mpays
    (repeat' split) <;> first | with_reducible exact MA.s0 | with_reducible exact MA.s00 | exact MA.s0 | exact MA.s00)), (h.c.kept h.r (by
    unfold g_Mpays
    (repeat' split) <;> first | with_reducible exact MK.s0 | with_reducible exact MK.s00 | exact MK.s0 | exact MK.s00) VK.rfl'), (h.b.ma (by
    unfold g_Mpays
    (repeat' split) <;> first | with_reducible exact MA.s0 | with_reducible exact MA.s00 | exact MA.s0 | exact MA.s00)), (h.s.kept (by
    unfold g_Mpays
    (repeat' split) <;> first | with_reducible exact MA.s0 | with_reducible exact MA.s00 | exact MA.s0 | exact MA.s00)), (h.m.kept h.r (by
    unfold g_Mpays
    (repeat' split) <;> first | with_reducible exact MX.s0 | with_reducible exact MX.s00 | exact MX.s0 | exact MX.s00) VX.rfl'), (h.hz.kept h.r (by
    unfold g_Mpays
    (repeat' split) <;> first | with_reducible exact MK.s0 | with_reducible exact MK.s00 | exact MK.s0 | exact MK.s00)), (h.d.kept (by
    unfold g_Mpays
    (repeat' split) <;> first | with_reducible exact MA.s0 | with_reducible exact MA.s00 | exact MA.s0 | exact MA.s00)), h.o, (h.y.kept (by
    unfold g_Mpays
    (repeat' split) <;> first | with_reducible exact MK.s0 | with_reducible exact MK.s00 | exact MK.s0 | exact MK.s00))⟩)
theorem KA_holder : ∀ τ σ (p0 p1 : Int32), LIA τ σ → LIA (g_Mholder τ p0 p1 (mR τ) (mB τ) (mtn τ) (msp τ)) σ := fun τ σ p0 p1 h => ⟨K_holder τ σ p0 p1 h.1, (h.2.kept (by
    unfold g_Mholder
    (repeat' split) <;> first | with_reducible exact MA.s0 | with_reducible exact MA.s00 | exact MA.s0 | exact MA.s00) VA.rfl')⟩
theorem N_holder {l : Launch} (hl : l.stackTraces = false) : IF_holder l LIX := G_holder hl (fun _ _ h => h.l.1) (fun τ σ p0 p1 h => by
    rw [h.eR]
    exact says_holder h.m h.r h.jp h.a (sp_eq h.a h.r)) (fun τ σ p0 p1 h => ⟨KA_holder τ σ p0 p1 h.l, (h.z.kept (by
    unfold g_Mholder
    (repeat' split) <;> first | with_reducible exact MA.s0 | with_reducible exact MA.s00 | exact MA.s0 | exact MA.s00)), (h.c.kept h.r (by
    unfold g_Mholder
    (repeat' split) <;> first | with_reducible exact MK.s0 | with_reducible exact MK.s00 | exact MK.s0 | exact MK.s00) VK.rfl'), (h.b.ma (by
    unfold g_Mholder
    (repeat' split) <;> first | with_reducible exact MA.s0 | with_reducible exact MA.s00 | exact MA.s0 | exact MA.s00)), (h.s.kept (by
    unfold g_Mholder
    (repeat' split) <;> first | with_reducible exact MA.s0 | with_reducible exact MA.s00 | exact MA.s0 | exact MA.s00)), (h.m.kept h.r (by
    unfold g_Mholder
    (repeat' split) <;> first | with_reducible exact MX.s0 | with_reducible exact MX.s00 | exact MX.s0 | exact MX.s00) VX.rfl'), (h.hz.kept h.r (by
    unfold g_Mholder
    (repeat' split) <;> first | with_reducible exact MK.s0 | with_reducible exact MK.s00 | exact MK.s0 | exact MK.s00)), (h.d.kept (by
    unfold g_Mholder
    (repeat' split) <;> first | with_reducible exact MA.s0 | with_reducible exact MA.s00 | exact MA.s0 | exact MA.s00)), h.o, (h.y.kept (by
    unfold g_Mholder
    (repeat' split) <;> first | with_reducible exact MK.s0 | with_reducible exact MK.s00 | exact MK.s0 | exact MK.s00))⟩)
theorem KA_chart : ∀ τ σ (t : Int32), LIA τ σ → LIA (u2 τ 5000 0 t) σ := fun τ σ t h => ⟨K_chart τ σ t h.1, (h.2.kept MA.s0 VA.rfl')⟩
theorem N_chart {l : Launch} (hl : l.stackTraces = false) : IF_chart l LIX := G_chart hl (fun _ _ h => h.l.1) (fun τ σ p0 h => by
    rw [h.eR]
    exact says_chart h.m h.r h.jp h.j h.eR (sp_eq h.a h.r)) (fun τ σ t h => ⟨KA_chart τ σ t h.l, (h.z.kept MA.s0), (h.c.kept h.r MK.s0 VK.rfl'), (h.b.ma MA.s0), (h.s.kept MA.s0), (h.m.kept h.r MX.s0 VX.rfl'), (h.hz.kept h.r MK.s0), (h.d.kept MA.s0), h.o, (h.y.kept MK.s0)⟩)
theorem KA_sale : ∀ τ σ (p0 : Int32), LIA τ σ → LIA (g_Msale τ p0 (mR τ) (mB τ) (mpk τ) (mgr τ) (mcd τ) (mK τ) (mC τ) (mg τ) (mtn τ) (msp τ)) σ := fun τ σ p0 h => ⟨K_sale τ σ p0 h.1, (h.2.kept (by
    unfold g_Msale
    (repeat' split) <;> first | with_reducible exact MA.s00 | exact MA.s0.trans MA.cinit | exact MA.s00) VA.rfl')⟩
theorem N_sale {l : Launch} (hl : l.stackTraces = false) : IF_sale l LIX := G_sale hl (fun _ _ h => h.l.1) (fun τ σ p0 h => by
    rw [h.eR, h.eB, h.eC, h.c.eK]
    exact says_sale h.c h.r h.a h.z h.m h.jp h.o h.d h.eB (ct_eq h.m h.r)) (fun τ σ p0 h => ⟨KA_sale τ σ p0 h.l, (h.z.kept (by
    unfold g_Msale
    (repeat' split) <;> first | with_reducible exact MA.s00 | exact MA.s0.trans MA.cinit | exact MA.s00)), (h.c.kept h.r (by
    unfold g_Msale
    (repeat' split) <;> first | with_reducible exact MK.s00 | exact MK.s0.trans MK.cinit | exact MK.s00) VK.rfl'), (h.b.ma (by
    unfold g_Msale
    (repeat' split) <;> first | with_reducible exact MA.s00 | exact MA.s0.trans MA.cinit | exact MA.s00)), (h.s.kept (by
    unfold g_Msale
    (repeat' split) <;> first | with_reducible exact MA.s00 | exact MA.s0.trans MA.cinit | exact MA.s00)), (h.m.kept h.r (by
    unfold g_Msale
    (repeat' split) <;> first | with_reducible exact MX.s00 | exact MX.s0.trans MX.cinit | exact MX.s00) VX.rfl'), (h.hz.kept h.r (by
    unfold g_Msale
    (repeat' split) <;> first | with_reducible exact MK.s00 | exact MK.s0.trans MK.cinit | exact MK.s00)), (h.d.kept (by
    unfold g_Msale
    (repeat' split) <;> first | with_reducible exact MA.s00 | exact MA.s0.trans MA.cinit | exact MA.s00)), h.o, (h.y.kept (by
    unfold g_Msale
    (repeat' split) <;> first | with_reducible exact MK.s00 | exact MK.s0.trans MK.cinit | exact MK.s00))⟩)
theorem KA_worth : ∀ τ σ (p0 : Int32), LIA τ σ → LIA (g_Mworth τ p0 (mR τ) (mB τ) (mpk τ) (mgr τ) (mcd τ)) σ := fun τ σ p0 h => ⟨K_worth τ σ p0 h.1, (h.2.kept (by
    unfold g_Mworth
    (repeat' split) <;> first | with_reducible exact MA.s00 | exact MA.s0.trans MA.cinit | exact MA.s00) VA.rfl')⟩
theorem N_worth {l : Launch} (hl : l.stackTraces = false) : IF_worth l LIX := G_worth hl (fun _ _ h => h.l.1) (fun τ σ p0 h => by
    rw [h.eB]
    exact says_worth h.m h.r h.jp) (fun τ σ p0 h => ⟨KA_worth τ σ p0 h.l, (h.z.kept (by
    unfold g_Mworth
    (repeat' split) <;> first | with_reducible exact MA.s00 | exact MA.s0.trans MA.cinit | exact MA.s00)), (h.c.kept h.r (by
    unfold g_Mworth
    (repeat' split) <;> first | with_reducible exact MK.s00 | exact MK.s0.trans MK.cinit | exact MK.s00) VK.rfl'), (h.b.ma (by
    unfold g_Mworth
    (repeat' split) <;> first | with_reducible exact MA.s00 | exact MA.s0.trans MA.cinit | exact MA.s00)), (h.s.kept (by
    unfold g_Mworth
    (repeat' split) <;> first | with_reducible exact MA.s00 | exact MA.s0.trans MA.cinit | exact MA.s00)), (h.m.kept h.r (by
    unfold g_Mworth
    (repeat' split) <;> first | with_reducible exact MX.s00 | exact MX.s0.trans MX.cinit | exact MX.s00) VX.rfl'), (h.hz.kept h.r (by
    unfold g_Mworth
    (repeat' split) <;> first | with_reducible exact MK.s00 | exact MK.s0.trans MK.cinit | exact MK.s00)), (h.d.kept (by
    unfold g_Mworth
    (repeat' split) <;> first | with_reducible exact MA.s00 | exact MA.s0.trans MA.cinit | exact MA.s00)), h.o, (h.y.kept (by
    unfold g_Mworth
    (repeat' split) <;> first | with_reducible exact MK.s00 | exact MK.s0.trans MK.cinit | exact MK.s00))⟩)
theorem KA_wouldPay : ∀ τ σ (p0 p1 : Int32), LIA τ σ → LIA (g_MwouldPay τ p0 p1 (mR τ) (mB τ) (mpk τ) (mgr τ) (mcd τ)) σ := fun τ σ p0 p1 h => ⟨K_wouldPay τ σ p0 p1 h.1, (h.2.kept (by
    unfold g_MwouldPay
    (repeat' split) <;> first | with_reducible exact MA.s00 | exact MA.s0.trans (MA.cpay h.r.hB.2) | exact MA.s00) VA.rfl')⟩
theorem N_wouldPay {l : Launch} (hl : l.stackTraces = false) : IF_wouldPay l LIX := G_wouldPay hl (fun _ _ h => h.l.1) (fun τ σ p0 p1 h => by
    rw [h.eB]
    exact says_wouldPay h.m h.r h.jp h.a) (fun τ σ p0 p1 h => ⟨KA_wouldPay τ σ p0 p1 h.l, (h.z.kept (by
    unfold g_MwouldPay
    (repeat' split) <;> first | with_reducible exact MA.s00 | exact MA.s0.trans (MA.cpay h.r.hB.2) | exact MA.s00)), (h.c.kept h.r (by
    unfold g_MwouldPay
    (repeat' split) <;> first | with_reducible exact MK.s00 | exact MK.s0.trans (MK.cpay h.r.hB.2) | exact MK.s00) VK.rfl'), (h.b.ma (by
    unfold g_MwouldPay
    (repeat' split) <;> first | with_reducible exact MA.s00 | exact MA.s0.trans (MA.cpay h.r.hB.2) | exact MA.s00)), (h.s.kept (by
    unfold g_MwouldPay
    (repeat' split) <;> first | with_reducible exact MA.s00 | exact MA.s0.trans (MA.cpay h.r.hB.2) | exact MA.s00)), (h.m.kept h.r (by
    unfold g_MwouldPay
    (repeat' split) <;> first | with_reducible exact MX.s00 | exact MX.s0.trans (MX.cpay h.r.hB.2) | exact MX.s00) VX.rfl'), (h.hz.kept h.r (by
    unfold g_MwouldPay
    (repeat' split) <;> first | with_reducible exact MK.s00 | exact MK.s0.trans (MK.cpay h.r.hB.2) | exact MK.s00)), (h.d.kept (by
    unfold g_MwouldPay
    (repeat' split) <;> first | with_reducible exact MA.s00 | exact MA.s0.trans (MA.cpay h.r.hB.2) | exact MA.s00)), h.o, (h.y.kept (by
    unfold g_MwouldPay
    (repeat' split) <;> first | with_reducible exact MK.s00 | exact MK.s0.trans (MK.cpay h.r.hB.2) | exact MK.s00))⟩)
theorem KA_objects : ∀ τ σ (p0 p1 : Int32), LIA τ σ → LIA (g_Mobjects τ p0 p1 (mR τ) (mB τ) (mpk τ) (mgr τ) (mcd τ)) σ := fun τ σ p0 p1 h => ⟨K_objects τ σ p0 p1 h.1, (h.2.kept (by
    unfold g_Mobjects
    (repeat' split) <;> first | with_reducible exact MA.s00 | exact MA.s0.trans (MA.cpay h.r.hB.2) | exact MA.s00) VA.rfl')⟩
theorem N_objects {l : Launch} (hl : l.stackTraces = false) : IF_objects l LIX := G_objects hl (fun _ _ h => h.l.1) (fun τ σ p0 p1 h => by
    rw [h.eB]
    exact says_objects h.m h.r h.jp h.a) (fun τ σ p0 p1 h => ⟨KA_objects τ σ p0 p1 h.l, (h.z.kept (by
    unfold g_Mobjects
    (repeat' split) <;> first | with_reducible exact MA.s00 | exact MA.s0.trans (MA.cpay h.r.hB.2) | exact MA.s00)), (h.c.kept h.r (by
    unfold g_Mobjects
    (repeat' split) <;> first | with_reducible exact MK.s00 | exact MK.s0.trans (MK.cpay h.r.hB.2) | exact MK.s00) VK.rfl'), (h.b.ma (by
    unfold g_Mobjects
    (repeat' split) <;> first | with_reducible exact MA.s00 | exact MA.s0.trans (MA.cpay h.r.hB.2) | exact MA.s00)), (h.s.kept (by
    unfold g_Mobjects
    (repeat' split) <;> first | with_reducible exact MA.s00 | exact MA.s0.trans (MA.cpay h.r.hB.2) | exact MA.s00)), (h.m.kept h.r (by
    unfold g_Mobjects
    (repeat' split) <;> first | with_reducible exact MX.s00 | exact MX.s0.trans (MX.cpay h.r.hB.2) | exact MX.s00) VX.rfl'), (h.hz.kept h.r (by
    unfold g_Mobjects
    (repeat' split) <;> first | with_reducible exact MK.s00 | exact MK.s0.trans (MK.cpay h.r.hB.2) | exact MK.s00)), (h.d.kept (by
    unfold g_Mobjects
    (repeat' split) <;> first | with_reducible exact MA.s00 | exact MA.s0.trans (MA.cpay h.r.hB.2) | exact MA.s00)), h.o, (h.y.kept (by
    unfold g_Mobjects
    (repeat' split) <;> first | with_reducible exact MK.s00 | exact MK.s0.trans (MK.cpay h.r.hB.2) | exact MK.s00))⟩)
theorem KA_most : ∀ τ σ (p0 p1 : Int32), LIA τ σ → LIA (g_Mmost τ p0 p1 (mR τ) (mB τ) (mg τ)) σ := fun τ σ p0 p1 h => ⟨K_most τ σ p0 p1 h.1, (h.2.kept (by
    unfold g_Mmost
    (repeat' split) <;> first | with_reducible exact MA.s0 | with_reducible exact MA.s00 | exact MA.s0 | exact MA.s00) VA.rfl')⟩
theorem N_most {l : Launch} (hl : l.stackTraces = false) : IF_most l LIX := G_most hl (fun _ _ h => h.l.1) (fun τ σ p0 p1 h => by
    rw [h.eR, h.eB]
    exact says_most h.c h.r h.a h.z h.j) (fun τ σ p0 p1 h => ⟨KA_most τ σ p0 p1 h.l, (h.z.kept (by
    unfold g_Mmost
    (repeat' split) <;> first | with_reducible exact MA.s0 | with_reducible exact MA.s00 | exact MA.s0 | exact MA.s00)), (h.c.kept h.r (by
    unfold g_Mmost
    (repeat' split) <;> first | with_reducible exact MK.s0 | with_reducible exact MK.s00 | exact MK.s0 | exact MK.s00) VK.rfl'), (h.b.ma (by
    unfold g_Mmost
    (repeat' split) <;> first | with_reducible exact MA.s0 | with_reducible exact MA.s00 | exact MA.s0 | exact MA.s00)), (h.s.kept (by
    unfold g_Mmost
    (repeat' split) <;> first | with_reducible exact MA.s0 | with_reducible exact MA.s00 | exact MA.s0 | exact MA.s00)), (h.m.kept h.r (by
    unfold g_Mmost
    (repeat' split) <;> first | with_reducible exact MX.s0 | with_reducible exact MX.s00 | exact MX.s0 | exact MX.s00) VX.rfl'), (h.hz.kept h.r (by
    unfold g_Mmost
    (repeat' split) <;> first | with_reducible exact MK.s0 | with_reducible exact MK.s00 | exact MK.s0 | exact MK.s00)), (h.d.kept (by
    unfold g_Mmost
    (repeat' split) <;> first | with_reducible exact MA.s0 | with_reducible exact MA.s00 | exact MA.s0 | exact MA.s00)), h.o, (h.y.kept (by
    unfold g_Mmost
    (repeat' split) <;> first | with_reducible exact MK.s0 | with_reducible exact MK.s00 | exact MK.s0 | exact MK.s00))⟩)
theorem KA_contradicts : ∀ τ σ (p0 : Int32), LIA τ σ → LIA (g_Mcontradicts τ p0 (mR τ) (mB τ) (mg τ) (mn τ)) σ := fun τ σ p0 h => ⟨K_contradicts τ σ p0 h.1, (h.2.kept (by
    unfold g_Mcontradicts
    (repeat' split) <;> first | with_reducible exact MA.s0 | with_reducible exact MA.s00 | exact MA.s0 | exact MA.s00) VA.rfl')⟩
theorem N_contradicts {l : Launch} (hl : l.stackTraces = false) : IF_contradicts l LIX := G_contradicts hl (fun _ _ h => h.l.1) (fun τ σ p0 h => by
    rw [h.eB]
    exact says_contradicts h.c h.r h.js) (fun τ σ p0 h => ⟨KA_contradicts τ σ p0 h.l, (h.z.kept (by
    unfold g_Mcontradicts
    (repeat' split) <;> first | with_reducible exact MA.s0 | with_reducible exact MA.s00 | exact MA.s0 | exact MA.s00)), (h.c.kept h.r (by
    unfold g_Mcontradicts
    (repeat' split) <;> first | with_reducible exact MK.s0 | with_reducible exact MK.s00 | exact MK.s0 | exact MK.s00) VK.rfl'), (h.b.ma (by
    unfold g_Mcontradicts
    (repeat' split) <;> first | with_reducible exact MA.s0 | with_reducible exact MA.s00 | exact MA.s0 | exact MA.s00)), (h.s.kept (by
    unfold g_Mcontradicts
    (repeat' split) <;> first | with_reducible exact MA.s0 | with_reducible exact MA.s00 | exact MA.s0 | exact MA.s00)), (h.m.kept h.r (by
    unfold g_Mcontradicts
    (repeat' split) <;> first | with_reducible exact MX.s0 | with_reducible exact MX.s00 | exact MX.s0 | exact MX.s00) VX.rfl'), (h.hz.kept h.r (by
    unfold g_Mcontradicts
    (repeat' split) <;> first | with_reducible exact MK.s0 | with_reducible exact MK.s00 | exact MK.s0 | exact MK.s00)), (h.d.kept (by
    unfold g_Mcontradicts
    (repeat' split) <;> first | with_reducible exact MA.s0 | with_reducible exact MA.s00 | exact MA.s0 | exact MA.s00)), h.o, (h.y.kept (by
    unfold g_Mcontradicts
    (repeat' split) <;> first | with_reducible exact MK.s0 | with_reducible exact MK.s00 | exact MK.s0 | exact MK.s00))⟩)
theorem KA_anew : ∀ τ σ (p0 p1 p2 p3 : Int32), LIA τ σ → LIA (u2 (u2 τ 5000 0 0) 5000 0 (t_anew p0 p1 p2 p3 (mR τ) (mB τ) (mK τ))) (g_anew σ p0 p1 p2 p3 (aR σ) (aB σ) (aK σ)) := fun τ σ p0 p1 p2 p3 h => ⟨K_anew τ σ p0 p1 p2 p3 h.1, (h.2.kept MA.s00 (VA.anew h.j.hK.2))⟩
theorem N_anew {l : Launch} (hl : l.stackTraces = false) : IF_anew l LIX := G_anew hl (fun _ _ h => h.l.1) (fun τ σ p0 p1 p2 p3 h => by
    rw [h.eR, h.eB, h.c.eK]
    exact says_anew h.c h.r h.a h.z h.j h.js h.o h.eB) (fun τ σ p0 p1 p2 p3 h => ⟨KA_anew τ σ p0 p1 p2 p3 h.l, (h.z.kept MA.s00), (h.c.kept h.r MK.s00 (VK.anew h.j.hK.2)), (h.b.ma MA.s00), (h.s.kept MA.s00), (h.m.kept h.r MX.s00 (VX.anew h.j.hK.2)), (h.hz.kept h.r MK.s00), (h.d.kept MA.s00), (h.o.row (VC.anew h.j.hK.2) (VK.anew h.j.hK.2)), (h.y.kept MK.s00)⟩)
theorem KA_knock : ∀ τ σ, LIA τ σ → LIA (g_Mknock τ) (g_knock σ) := fun τ σ h => ⟨K_knock τ σ h.1, h.2.knock⟩
theorem N_knock {l : Launch} (hl : l.stackTraces = false) : IF_knock l LIX := G_knock hl (fun _ _ h => h.l.1) (fun τ σ h => by
    show σ 1000 11 + 1 = τ 5000 6 + 1
    rw [h.a.1.1]) (fun τ σ h => ⟨KA_knock τ σ h.l, h.z.knock, (h.c.kept h.r MK.knock VK.knock), h.b.knock, h.s.knock, (h.m.kept h.r MX.knock VX.knock), (h.hz.kept h.r MK.knock), h.d.knock, (h.o.row VC.knock VK.knock), (h.y.kept MK.knock)⟩)
theorem KA_isSound : ∀ τ σ, LIA τ σ → LIA (u2 τ 5000 0 0) (g_isSound σ (aR σ) (aB σ) (aw σ) (aK σ)) := fun τ σ h => ⟨K_isSound τ σ h.1, (h.2.kept MA.s0 (VA.isSound h.j.hK.2))⟩
theorem N_isSound {l : Launch} (hl : l.stackTraces = false) : IF_isSound l LIX := G_isSound hl (fun _ _ h => h.l.1) (fun τ σ h => by
    rw [h.eR, h.eB, h.c.eK]
    exact says_sound h.c h.r h.a h.z h.j h.js h.o h.eB h.m h.jp h.y) (fun τ σ h => ⟨KA_isSound τ σ h.l, (h.z.kept MA.s0), (h.c.kept h.r MK.s0 (VK.isSound h.j.hK.2)), (h.b.ma MA.s0), (h.s.kept MA.s0), (h.m.kept h.r MX.s0 (VX.isSound h.j.hK.2)), (h.hz.kept h.r MK.s0), (h.d.kept MA.s0), (h.o.row (VC.isSound h.j.hK.2) (VK.isSound h.j.hK.2)), (h.y.kept MK.s0)⟩)
theorem KA_digest : ∀ τ σ, LIA τ σ → LIA (u2 τ 5000 0 0) (g_digest σ (aK σ) (aB σ) (aR σ) (aC σ) (aw σ) (arg σ)) := fun τ σ h => ⟨K_digest τ σ h.1, (h.2.kept MA.s0 (VA.digest h.j.hK.2))⟩
theorem N_digest {l : Launch} (hl : l.stackTraces = false) : IF_digest l LIX := G_digest hl (fun _ _ h => h.l.1) (fun τ σ h => by
    rw [h.c.eK, h.eB, h.eR, h.eC]
    exact says_digest h.c h.r h.a h.z h.j h.js h.o h.eB h.m h.jp h.y h.d h.b h.s (ct_eq h.m h.r) (sp_eq h.a h.r)) (fun τ σ h => ⟨KA_digest τ σ h.l, (h.z.kept MA.s0), (h.c.kept h.r MK.s0 (VK.digest h.j.hK.2)), (h.b.ma MA.s0), (h.s.kept MA.s0), (h.m.kept h.r MX.s0 (VX.digest h.j.hK.2)), (h.hz.kept h.r MK.s0), (h.d.kept MA.s0), (h.o.row (VC.digest h.j.hK.2) (VK.digest h.j.hK.2)), (h.y.kept MK.s0)⟩)
