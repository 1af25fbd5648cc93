/-! ===== the interfaces, from what holds at all times ===== -/
abbrev aR (σ : XS9) : Nat := cn (σ 1001 4)
abbrev aB (σ : XS9) : Nat := cn (σ 1001 9)
abbrev aK (σ : XS9) : Nat := cn (σ 2000 9)
abbrev aC (σ : XS9) : Nat := cn (σ 1006 1)
abbrev aw (σ : XS9) : Nat := cn (σ 1000 9)
abbrev agr (σ : XS9) : Nat → Nat := fun i => cn (σ 1017 i)
abbrev acn (σ : XS9) : Nat → Nat := fun i => cn (σ 1020 i)
abbrev asp (σ : XS9) : Nat → Nat := fun i => cn (σ 1010 i)
abbrev arg (σ : XS9) : Nat → Nat := fun i => cn (σ 1151 i)
abbrev mR (τ : XS9) : Nat := cn (τ 5001 900)
abbrev mB (τ : XS9) : Nat := cn (τ 5002 900)
abbrev mK (τ : XS9) : Nat := cn (τ 5003 900)
abbrev mC (τ : XS9) : Nat := cn (τ 5004 900) / 2
abbrev mg (τ : XS9) : Nat := cn (τ 7000 23)
abbrev mw (τ : XS9) : Nat := cn (τ 7000 24)
abbrev mn (τ : XS9) : Nat := cn (τ 7000 21)
abbrev mwy (τ : XS9) : Nat := cn (τ 5000 7)
abbrev mpk (τ : XS9) : Nat → Nat := fun j => cn (τ (5030 + j) 900) / 2
abbrev mgr (τ : XS9) : Nat → Nat := fun j => cn (τ (5020 + j) 3)
abbrev mcd (τ : XS9) : Nat → Nat → Nat := fun j k => cn (τ (5030 + j) (2 * k))
abbrev mrg (τ : XS9) : Nat → Nat := fun q => cn (τ 5004 (2 * q))
abbrev mtn (τ : XS9) : Nat → Nat := fun r => cn (τ 5007 r)
abbrev msp (τ : XS9) : Nat → Nat := fun r => cn (τ (5010 + r) 0)
section
variable {σ τ : XS9}
theorem JC.hR (j : JC σ) : σ 1001 4 = nI (aR σ) ∧ aR σ ≤ 5 := j.1
theorem JC.hB (j : JC σ) : σ 1001 9 = nI (aB σ) ∧ aB σ ≤ 6 := j.2.1
theorem JC.hK (j : JC σ) : σ 2000 9 = nI (aK σ) ∧ aK σ ≤ 60 := j.2.2.1
theorem JC.hC (j : JC σ) : σ 1006 1 = nI (aC σ) ∧ aC σ ≤ 10 := j.2.2.2.1
theorem JC.hw (j : JC σ) : σ 1000 9 = nI (aw σ) ∧ aw σ < 3 := ⟨j.2.2.2.2.1.1, Nat.lt_succ_of_le j.2.2.2.2.1.2⟩
theorem JC.hgr (j : JC σ) : ∀ i, i < 6 → σ 1017 i = nI (agr σ i) ∧ agr σ i < 4 := fun i hi => ⟨(j.2.2.2.2.2.1 i hi).1, Nat.lt_succ_of_le (j.2.2.2.2.2.1 i hi).2⟩
theorem JC.hct (j : JC σ) : ∀ i, i < 6 → σ 1020 i = nI (acn σ i) ∧ acn σ i ≤ 6 := fun i hi => j.2.2.2.2.2.2.1 i hi
theorem JC.hsp (j : JC σ) : ∀ i, i < 5 → σ 1010 i = nI (asp σ i) ∧ asp σ i ≤ 5 := fun i hi => j.2.2.2.2.2.2.2.1 i hi
theorem JC.hcd (j : JC σ) : XCD σ := j.2.2.2.2.2.2.2.2.1
theorem JC.hrg (j : JC σ) : ∀ i, i < aC σ → σ 1151 i = nI (arg σ i) ∧ arg σ i < 5 := fun i hi => by
  have := j.hC.2
  have h := j.2.2.2.2.2.2.2.2.2.1 i (by omega)
  exact ⟨h.1, Nat.lt_succ_of_le h.2⟩
theorem JC.ham (j : JC σ) : ∀ i k, i < 6 → k < 6 → 0 ≤ σ (1031 + i) k := j.2.2.2.2.2.2.2.2.2.2.1
theorem JR.me (r : JR τ) : mem_eq τ τ := r.2.mem
theorem JR.hR (r : JR τ) : τ 5001 900 = nI (mR τ) ∧ mR τ ≤ 5 := r.1.1
theorem JR.hB (r : JR τ) : τ 5002 900 = nI (mB τ) ∧ mB τ ≤ 6 := r.1.2.1
theorem JR.hK (r : JR τ) : τ 5003 900 = nI (mK τ) ∧ mK τ ≤ 60 := r.1.2.2.1
theorem JR.hp0 (r : JR τ) : τ 5000 1 = 0 → τ 7000 20 = 0 ∧ τ 8000 20 = 0 ∧ τ 5003 900 = 0 := fun q => ⟨(r.1.2.2.2.1 q).1, r.2.1.2, (r.1.2.2.2.1 q).2⟩
theorem JR.hfl (r : JR τ) : τ 7000 25 = nI 0 ∨ (τ 7000 25 = nI 1 ∧ τ 7000 20 = nI 1) := r.1.2.2.2.2.1
theorem JR.hst (r : JR τ) : τ 5000 1 = 1 → τ 7000 25 = nI 1 ∧ τ 7000 20 = nI 1 := r.1.2.2.2.2.2.1
theorem JR.hg (r : JR τ) : τ 7000 23 = nI (mg τ) ∧ mg τ < 200 := ⟨(r.1.2.2.2.2.2.2.1 7000 (.inl rfl)).2.2.1.1, Nat.lt_succ_of_le (r.1.2.2.2.2.2.2.1 7000 (.inl rfl)).2.2.1.2⟩
theorem JR.hw (r : JR τ) : τ 7000 24 = nI (mw τ) ∧ mw τ < 200 := ⟨(r.1.2.2.2.2.2.2.1 7000 (.inl rfl)).2.2.2.1, Nat.lt_succ_of_le (r.1.2.2.2.2.2.2.1 7000 (.inl rfl)).2.2.2.2⟩
theorem JR.hn (r : JR τ) : τ 7000 21 = nI (mn τ) ∧ mn τ ≤ 60 ∧ τ 7000 22 = nI (mn τ) := ⟨(r.1.2.2.2.2.2.2.1 7000 (.inl rfl)).1.1, (r.1.2.2.2.2.2.2.1 7000 (.inl rfl)).1.2, r.1.2.2.2.2.2.2.2.1.trans (r.1.2.2.2.2.2.2.1 7000 (.inl rfl)).1.1⟩
theorem JR.hpk (r : JR τ) : ∀ j, j < mB τ → τ (5030 + j) 900 = nI (2 * mpk τ j) ∧ mpk τ j ≤ 6 := fun j hj => by
  have := r.hB.2
  exact r.1.2.2.2.2.2.2.2.2.1 j (by omega)
theorem JR.hgr (r : JR τ) : ∀ j, j < mB τ → τ (5020 + j) 3 = nI (mgr τ j) ∧ mgr τ j < 4 := fun j hj => by
  have := r.hB.2
  have h := r.1.2.2.2.2.2.2.2.2.2.1 j (by omega)
  exact ⟨h.1, Nat.lt_succ_of_le h.2⟩
theorem JR.hcd (r : JR τ) : ∀ j k, j < mB τ → k < mpk τ j → τ (5030 + j) (2 * k) = nI (mcd τ j k) ∧ mcd τ j k < 7776 := fun j k hj hk => by
  have h6 := r.hB.2
  have h7 := (r.hpk j hj).2
  have h := r.1.2.2.2.2.2.2.2.2.2.2.1 j k (by omega) (by omega)
  exact ⟨h.1, Nat.lt_succ_of_le h.2⟩
theorem JR.hS (r : JR τ) : τ 5004 900 = nI (2 * mC τ) ∧ mC τ ≤ 10 := r.1.2.2.2.2.2.2.2.2.2.2.2.1
theorem JR.hrg (r : JR τ) : ∀ q, q < mC τ → τ 5004 (2 * q) = nI (mrg τ q) ∧ mrg τ q < mR τ := fun q hq => r.1.2.2.2.2.2.2.2.2.2.2.2.2.1 q hq
theorem JR.htn (r : JR τ) : ∀ q, q < 5 → τ 5007 q = nI (mtn τ q) ∧ mtn τ q < 6 := fun q hq => ⟨(r.1.2.2.2.2.2.2.2.2.2.2.2.2.2.1 q hq).1, Nat.lt_succ_of_le (r.1.2.2.2.2.2.2.2.2.2.2.2.2.2.1 q hq).2⟩
theorem JR.hsp (r : JR τ) : ∀ q, q < mR τ → τ (5010 + q) 0 = nI (msp τ q) ∧ msp τ q ≤ 5 := fun q hq => by
  have := r.hR.2
  exact r.1.2.2.2.2.2.2.2.2.2.2.2.2.2.2.1 q (by omega)
theorem JR.hkp (r : JR τ) : τ 5000 1 = 3 → ∀ j, j < mB τ → τ 5005 j = -1 ∨ ∃ n, n < mpk τ j ∧ τ 5005 j = nI n := fun hs j hj => (r.1.2.2.2.2.2.2.2.2.2.2.2.2.2.2.2.1 hs j hj).imp id (fun z => ⟨cn (τ 5005 j), z.2, z.1⟩)
theorem JR.hwy (r : JR τ) : τ 5000 7 = nI (mwy τ) ∧ mwy τ < 3 := ⟨r.1.2.2.2.2.2.2.2.2.2.2.2.2.2.2.2.2.1, Nat.lt_succ_of_le r.1.2.2.2.2.2.2.2.2.2.2.2.2.2.2.2.2.2⟩
end
theorem if_region {l : Launch} (hl : l.stackTraces = false) {LI : XS9 → XS9 → Prop} (hp : ∀ τ σ, LI τ σ → JC σ ∧ JR τ) (hrel : ∀ τ σ (p0 p1 p2 : Int32), LI τ σ → ((g_Mregion τ p0 p1 p2 (mR τ)) 5000 0 = lw_k [eIAE, eISE] (o_region σ p0 p1 p2 (aR σ)) ∧ ∀ w, (o_region σ p0 p1 p2 (aR σ)) = .inl w → w = (f_Mregion τ p0 p1 p2 (mR τ)))) (hk : ∀ τ σ (p0 p1 p2 : Int32), LI τ σ → LI (g_Mregion τ p0 p1 p2 (mR τ)) (g_region σ p0 p1 p2 (aR σ))) : IF_region l LI := by
  intro z τ σ p0 p1 p2 h9
  have j := (hp τ σ h9).1
  have r := (hp τ σ h9).2
  refine ⟨(o_region σ p0 p1 p2 (aR σ)), (g_region σ p0 p1 p2 (aR σ)), (f_Mregion τ p0 p1 p2 (mR τ)), z, (g_Mregion τ p0 p1 p2 (mR τ)), fun h hh => ct_X7_region hl j.hR.1 j.hR.2, fun E e => ?_, fun h hh => ct_X14_region hl hh.bs r.hR.1 r.hR.2 r.hp0 (fun r h1 _ => hh.no h1), hk τ σ p0 p1 p2 h9, hrel τ σ p0 p1 p2 h9⟩
  unfold o_region at e
  (repeat' split at e) <;> first | (cases e; done) | (rw [← Sum.inr.inj e]; done) | (rw [← Sum.inr.inj e]; first | exact rfl | exact .inl rfl | exact .inr rfl | exact .inr (.inl rfl) | exact .inr (.inr rfl))
theorem if_border {l : Launch} (hl : l.stackTraces = false) {LI : XS9 → XS9 → Prop} (hp : ∀ τ σ, LI τ σ → JC σ ∧ JR τ) (hrel : ∀ τ σ (p0 p1 : Int32), LI τ σ → ((g_Mborder τ p0 p1 (mR τ)) 5000 0 = lw_k [eIOB, eIAE, eISE] (o_border σ p0 p1 (aR σ)) ∧ ∀ w, (o_border σ p0 p1 (aR σ)) = .inl w → w = (f_Mborder τ p0 p1 (mR τ)))) (hk : ∀ τ σ (p0 p1 : Int32), LI τ σ → LI (g_Mborder τ p0 p1 (mR τ)) (g_border σ p0 p1 (aR σ))) : IF_border l LI := by
  intro z τ σ p0 p1 h9
  have j := (hp τ σ h9).1
  have r := (hp τ σ h9).2
  refine ⟨(o_border σ p0 p1 (aR σ)), (g_border σ p0 p1 (aR σ)), (f_Mborder τ p0 p1 (mR τ)), z, (g_Mborder τ p0 p1 (mR τ)), fun h hh => ct_X7_border hl j.hR.1 j.hR.2, fun E e => ?_, fun h hh => ct_X14_border hl hh.bs (fun r h1 _ => hh.no h1) r.hR.1 r.hR.2, hk τ σ p0 p1 h9, hrel τ σ p0 p1 h9⟩
  unfold o_border at e
  (repeat' split at e) <;> first | (cases e; done) | (rw [← Sum.inr.inj e]; done) | (rw [← Sum.inr.inj e]; first | exact rfl | exact .inl rfl | exact .inr rfl | exact .inr (.inl rfl) | exact .inr (.inr rfl))
theorem if_bidder {l : Launch} (hl : l.stackTraces = false) {LI : XS9 → XS9 → Prop} (hp : ∀ τ σ, LI τ σ → JC σ ∧ JR τ) (hrel : ∀ τ σ (p0 p1 p2 p3 : Int32), LI τ σ → ((g_Mbidder τ p0 p1 p2 p3 (mB τ)) 5000 0 = lw_k [eIAE, eISE] (o_bidder σ p0 p1 p2 p3 (aB σ)) ∧ ∀ w, (o_bidder σ p0 p1 p2 p3 (aB σ)) = .inl w → w = (f_Mbidder τ p0 p1 p2 p3 (mB τ)))) (hk : ∀ τ σ (p0 p1 p2 p3 : Int32), LI τ σ → LI (g_Mbidder τ p0 p1 p2 p3 (mB τ)) (g_bidder σ p0 p1 p2 p3 (aB σ))) : IF_bidder l LI := by
  intro z τ σ p0 p1 p2 p3 h9
  have j := (hp τ σ h9).1
  have r := (hp τ σ h9).2
  refine ⟨(o_bidder σ p0 p1 p2 p3 (aB σ)), (g_bidder σ p0 p1 p2 p3 (aB σ)), (f_Mbidder τ p0 p1 p2 p3 (mB τ)), z, (g_Mbidder τ p0 p1 p2 p3 (mB τ)), fun h hh => ct_X7_bidder hl j.hB.1 j.hB.2, fun E e => ?_, fun h hh => ct_X14_bidder hl hh.bs r.hB.1 r.hB.2 (fun r h1 _ => hh.no h1), hk τ σ p0 p1 p2 p3 h9, hrel τ σ p0 p1 p2 p3 h9⟩
  unfold o_bidder at e
  (repeat' split at e) <;> first | (cases e; done) | (rw [← Sum.inr.inj e]; done) | (rw [← Sum.inr.inj e]; first | exact rfl | exact .inl rfl | exact .inr rfl | exact .inr (.inl rfl) | exact .inr (.inr rfl))
theorem if_rules {l : Launch} (hl : l.stackTraces = false) {LI : XS9 → XS9 → Prop} (hp : ∀ τ σ, LI τ σ → JC σ ∧ JR τ) (hrel : ∀ τ σ (p0 p1 : Int32), LI τ σ → (p1 = 0 ∨ p1 = 1) → ((g_Mrules τ p0 p1) 5000 0 = lw_k [eIAE, eISE] (o_rules σ p0 p1) ∧ ∀ w, (o_rules σ p0 p1) = .inl w → w = (f_Mrules τ p0 p1))) (hk : ∀ τ σ (p0 p1 : Int32), LI τ σ → LI (g_Mrules τ p0 p1) (g_rules σ p0 p1)) : IF_rules l LI := by
  intro z τ σ p0 p1 h9 hy
  have j := (hp τ σ h9).1
  have r := (hp τ σ h9).2
  refine ⟨(o_rules σ p0 p1), (g_rules σ p0 p1), (f_Mrules τ p0 p1), z, (g_Mrules τ p0 p1), fun h hh => ct_X7_rules hl hy, fun E e => ?_, fun h hh => ct_X14_rules hl hh.bs hy, hk τ σ p0 p1 h9, hrel τ σ p0 p1 h9 hy⟩
  unfold o_rules at e
  (repeat' split at e) <;> first | (cases e; done) | (rw [← Sum.inr.inj e]; done) | (rw [← Sum.inr.inj e]; first | exact rfl | exact .inl rfl | exact .inr rfl | exact .inr (.inl rfl) | exact .inr (.inr rfl))
theorem if_step {l : Launch} (hl : l.stackTraces = false) {LI : XS9 → XS9 → Prop} (hp : ∀ τ σ, LI τ σ → JC σ ∧ JR τ) (hrel : ∀ τ σ (p0 : Int32), LI τ σ → ((g_Mstep τ p0) 5000 0 = lw_k [eIAE, eISE] (o_step σ p0) ∧ ∀ w, (o_step σ p0) = .inl w → w = (f_Mstep τ p0))) (hk : ∀ τ σ (p0 : Int32), LI τ σ → LI (g_Mstep τ p0) (g_step σ p0)) : IF_step l LI := by
  intro z τ σ p0 h9
  have j := (hp τ σ h9).1
  have r := (hp τ σ h9).2
  refine ⟨(o_step σ p0), (g_step σ p0), (f_Mstep τ p0), z, (g_Mstep τ p0), fun h hh => ct_X7_step hl , fun E e => ?_, fun h hh => ct_X14_step hl hh.bs, hk τ σ p0 h9, hrel τ σ p0 h9⟩
  unfold o_step at e
  (repeat' split at e) <;> first | (cases e; done) | (rw [← Sum.inr.inj e]; done) | (rw [← Sum.inr.inj e]; first | exact rfl | exact .inl rfl | exact .inr rfl | exact .inr (.inl rfl) | exact .inr (.inr rfl))
theorem if_wish {l : Launch} (hl : l.stackTraces = false) {LI : XS9 → XS9 → Prop} (hp : ∀ τ σ, LI τ σ → JC σ ∧ JR τ) (hrel : ∀ τ σ (p0 p1 p2 : Int32), LI τ σ → ((g_Mwish τ p0 p1 p2 (mR τ) (mB τ) (mg τ)) 5000 0 = lw_k [eIOB, eIAE, eISE] (o_wish σ p0 p1 p2 (aR σ) (aB σ)) ∧ ∀ w, (o_wish σ p0 p1 p2 (aR σ) (aB σ)) = .inl w → w = (f_Mwish τ p0 p1 p2 (mR τ) (mB τ) (mg τ)))) (hk : ∀ τ σ (p0 p1 p2 : Int32), LI τ σ → LI (g_Mwish τ p0 p1 p2 (mR τ) (mB τ) (mg τ)) (g_wish σ p0 p1 p2 (aR σ) (aB σ))) : IF_wish l LI := by
  intro z τ σ p0 p1 p2 h9
  have j := (hp τ σ h9).1
  have r := (hp τ σ h9).2
  refine ⟨(o_wish σ p0 p1 p2 (aR σ) (aB σ)), (g_wish σ p0 p1 p2 (aR σ) (aB σ)), (f_Mwish τ p0 p1 p2 (mR τ) (mB τ) (mg τ)), z, (g_Mwish τ p0 p1 p2 (mR τ) (mB τ) (mg τ)), fun h hh => ct_X7_wish hl j.hR.1 j.hR.2 j.hB.1 j.hB.2, fun E e => ?_, fun h hh => ct_X14_wish hl hh.bs r.hR.1 r.hR.2 r.hB.1 r.hB.2 r.hst r.hg.1 r.hg.2 r.hw.1 r.hw.2, hk τ σ p0 p1 p2 h9, hrel τ σ p0 p1 p2 h9⟩
  unfold o_wish at e
  (repeat' split at e) <;> first | (cases e; done) | (rw [← Sum.inr.inj e]; done) | (rw [← Sum.inr.inj e]; first | exact rfl | exact .inl rfl | exact .inr rfl | exact .inr (.inl rfl) | exact .inr (.inr rfl))
theorem if_waive {l : Launch} (hl : l.stackTraces = false) {LI : XS9 → XS9 → Prop} (hp : ∀ τ σ, LI τ σ → JC σ ∧ JR τ) (hrel : ∀ τ σ (p0 : Int32), LI τ σ → ((g_Mwaive τ p0 (mB τ) (mg τ) (mw τ)) 5000 0 = lw_k [eIOB, eISE] (o_waive σ p0 (aB σ)) ∧ ∀ w, (o_waive σ p0 (aB σ)) = .inl w → w = (f_Mwaive τ p0 (mB τ) (mg τ) (mw τ)))) (hk : ∀ τ σ (p0 : Int32), LI τ σ → LI (g_Mwaive τ p0 (mB τ) (mg τ) (mw τ)) (g_waive σ p0 (aB σ))) : IF_waive l LI := by
  intro z τ σ p0 h9
  have j := (hp τ σ h9).1
  have r := (hp τ σ h9).2
  refine ⟨(o_waive σ p0 (aB σ)), (g_waive σ p0 (aB σ)), (f_Mwaive τ p0 (mB τ) (mg τ) (mw τ)), z, (g_Mwaive τ p0 (mB τ) (mg τ) (mw τ)), fun h hh => ct_X7_waive hl j.hB.1 j.hB.2, fun E e => ?_, fun h hh => ct_X14_waive hl hh.bs r.hB.1 r.hB.2 r.hst r.hg.1 r.hg.2 r.hw.1 r.hw.2, hk τ σ p0 h9, hrel τ σ p0 h9⟩
  unfold o_waive at e
  (repeat' split at e) <;> first | (cases e; done) | (rw [← Sum.inr.inj e]; done) | (rw [← Sum.inr.inj e]; first | exact rfl | exact .inl rfl | exact .inr rfl | exact .inr (.inl rfl) | exact .inr (.inr rfl))
theorem if_close {l : Launch} (hl : l.stackTraces = false) {LI : XS9 → XS9 → Prop} (hp : ∀ τ σ, LI τ σ → JC σ ∧ JR τ) (hI : ∀ τ σ (p0 : Int32), LI τ σ → ∀ m, m < cn p0 → (∀ j, j ≤ m → (itC (u2 τ 5000 0 0) j) 5000 1 = 1) → CIn (itC (u2 τ 5000 0 0) m)) (hrel : ∀ τ σ (p0 : Int32), LI τ σ → ((g_Mclose τ p0) 5000 0 = lw_k [eIAE, eISE] (o_close σ p0 (aR σ) (aB σ) (agr σ)) ∧ ∀ w, (o_close σ p0 (aR σ) (aB σ) (agr σ)) = .inl w → w = (f_Mclose τ p0))) (hk : ∀ τ σ (p0 : Int32), LI τ σ → LI (g_Mclose τ p0) (g_close σ p0 (aR σ) (aB σ) (agr σ))) : IF_close l LI := by
  intro z τ σ p0 h9
  have j := (hp τ σ h9).1
  have r := (hp τ σ h9).2
  refine ⟨(o_close σ p0 (aR σ) (aB σ) (agr σ)), (g_close σ p0 (aR σ) (aB σ) (agr σ)), (f_Mclose τ p0), z, (g_Mclose τ p0), fun h hh => ct_X7_close hl j.hR.1 j.hR.2 j.hB.1 j.hB.2 (gr := agr σ) j.hgr j.hct j.hK, fun E e => ?_, fun h hh => ct_X14_close hl hh.bs (fun r h1 _ => hh.no h1) (hI τ σ p0 h9), hk τ σ p0 h9, hrel τ σ p0 h9⟩
  unfold o_close at e
  (repeat' split at e) <;> first | (cases e; done) | (rw [← Sum.inr.inj e]; done) | (rw [← Sum.inr.inj e]; first | exact rfl | exact .inl rfl | exact .inr rfl | exact .inr (.inl rfl) | exact .inr (.inr rfl))
theorem if_offer {l : Launch} (hl : l.stackTraces = false) {LI : XS9 → XS9 → Prop} (hp : ∀ τ σ, LI τ σ → JC σ ∧ JR τ) (hrel : ∀ τ σ (p0 p1 p2 : Int32), LI τ σ → ((g_Moffer τ p0 p1 p2 (mR τ) (mB τ) (mpk τ)) 5000 0 = lw_k [eIOB, eIAE, eISE] (o_offer σ p0 p1 p2 (aR σ) (aB σ) (agr σ) (acn σ)) ∧ ∀ w, (o_offer σ p0 p1 p2 (aR σ) (aB σ) (agr σ) (acn σ)) = .inl w → w = (f_Moffer τ p0 p1 p2 (mR τ) (mB τ) (mpk τ)))) (hk : ∀ τ σ (p0 p1 p2 : Int32), LI τ σ → LI (g_Moffer τ p0 p1 p2 (mR τ) (mB τ) (mpk τ)) (g_offer σ p0 p1 p2 (aR σ) (aB σ) (agr σ) (acn σ))) : IF_offer l LI := by
  intro z τ σ p0 p1 p2 h9
  have j := (hp τ σ h9).1
  have r := (hp τ σ h9).2
  refine ⟨(o_offer σ p0 p1 p2 (aR σ) (aB σ) (agr σ) (acn σ)), (g_offer σ p0 p1 p2 (aR σ) (aB σ) (agr σ) (acn σ)), (f_Moffer τ p0 p1 p2 (mR τ) (mB τ) (mpk τ)), z, (g_Moffer τ p0 p1 p2 (mR τ) (mB τ) (mpk τ)), fun h hh => ct_X7_offer hl j.hR.1 j.hR.2 j.hB.1 j.hB.2 (gr := agr σ) j.hgr (cnt := acn σ) j.hct, fun E e => ?_, fun h hh => ct_X14_offer hl hh.bs (fun r h1 _ => hh.no h1) r.hR.1 r.hR.2 r.hB.1 r.hB.2 (pk := mpk τ) r.hpk, hk τ σ p0 p1 p2 h9, hrel τ σ p0 p1 p2 h9⟩
  unfold o_offer at e
  (repeat' split at e) <;> first | (cases e; done) | (rw [← Sum.inr.inj e]; done) | (rw [← Sum.inr.inj e]; first | exact rfl | exact .inl rfl | exact .inr rfl | exact .inr (.inl rfl) | exact .inr (.inr rfl))
theorem if_station {l : Launch} (hl : l.stackTraces = false) {LI : XS9 → XS9 → Prop} (hp : ∀ τ σ, LI τ σ → JC σ ∧ JR τ) (hrel : ∀ τ σ (p0 p1 : Int32), LI τ σ → ((g_Mstation τ p0 p1 (mR τ) (mC τ)) 5000 0 = lw_k [eIOB, eIAE, eISE] (o_station σ p0 p1 (aR σ) (aC σ)) ∧ ∀ w, (o_station σ p0 p1 (aR σ) (aC σ)) = .inl w → w = (f_Mstation τ p0 p1 (mR τ) (mC τ)))) (hk : ∀ τ σ (p0 p1 : Int32), LI τ σ → LI (g_Mstation τ p0 p1 (mR τ) (mC τ)) (g_station σ p0 p1 (aR σ) (aC σ))) : IF_station l LI := by
  intro z τ σ p0 p1 h9
  have j := (hp τ σ h9).1
  have r := (hp τ σ h9).2
  refine ⟨(o_station σ p0 p1 (aR σ) (aC σ)), (g_station σ p0 p1 (aR σ) (aC σ)), (f_Mstation τ p0 p1 (mR τ) (mC τ)), z, (g_Mstation τ p0 p1 (mR τ) (mC τ)), fun h hh => ct_X7_station hl j.hR.1 j.hR.2 j.hC.1 j.hC.2, fun E e => ?_, fun h hh => ct_X14_station hl hh.bs (fun r h1 _ => hh.no h1) r.hR.1 r.hR.2 r.hS.1 r.hS.2, hk τ σ p0 p1 h9, hrel τ σ p0 p1 h9⟩
  unfold o_station at e
  (repeat' split at e) <;> first | (cases e; done) | (rw [← Sum.inr.inj e]; done) | (rw [← Sum.inr.inj e]; first | exact rfl | exact .inl rfl | exact .inr rfl | exact .inr (.inl rfl) | exact .inr (.inr rfl))
theorem if_packs {l : Launch} (hl : l.stackTraces = false) {LI : XS9 → XS9 → Prop} (hp : ∀ τ σ, LI τ σ → JC σ ∧ JR τ) (hrel : ∀ τ σ (p0 p1 : Int32), LI τ σ → ((g_Mpacks τ p0 p1 (mR τ) (mC τ) (mrg τ)) 5000 0 = lw_k [eIAE] (o_packs σ p0 p1 (aC σ) (arg σ)) ∧ ∀ w, (o_packs σ p0 p1 (aC σ) (arg σ)) = .inl w → w = (f_Mpacks τ p0 p1 (mR τ) (mC τ) (mrg τ)))) (hk : ∀ τ σ (p0 p1 : Int32), LI τ σ → LI (g_Mpacks τ p0 p1 (mR τ) (mC τ) (mrg τ)) (g_packs σ p0 p1 (aC σ) (arg σ))) : IF_packs l LI := by
  intro z τ σ p0 p1 h9
  have j := (hp τ σ h9).1
  have r := (hp τ σ h9).2
  refine ⟨(o_packs σ p0 p1 (aC σ) (arg σ)), (g_packs σ p0 p1 (aC σ) (arg σ)), (f_Mpacks τ p0 p1 (mR τ) (mC τ) (mrg τ)), z, (g_Mpacks τ p0 p1 (mR τ) (mC τ) (mrg τ)), fun h hh => ct_X7_packs hl j.hC.1 j.hC.2 (rg := arg σ) j.hrg, fun E e => ?_, fun h hh => ct_X14_packs hl hh.bs (fun r h1 _ => hh.no h1) r.me r.hR.1 r.hR.2 r.hS.1 r.hS.2 (rg := mrg τ) r.hrg, hk τ σ p0 p1 h9, hrel τ σ p0 p1 h9⟩
  unfold o_packs at e
  (repeat' split at e) <;> first | (cases e; done) | (rw [← Sum.inr.inj e]; done) | (rw [← Sum.inr.inj e]; first | exact rfl | exact .inl rfl | exact .inr rfl | exact .inr (.inl rfl) | exact .inr (.inr rfl))
theorem if_clear {l : Launch} (hl : l.stackTraces = false) {LI : XS9 → XS9 → Prop} (hp : ∀ τ σ, LI τ σ → JC σ ∧ JR τ) (hrel : ∀ τ σ (p0 : Int32), LI τ σ → ((g_Mclear τ p0 (mR τ) (mC τ) (mrg τ)) 5000 0 = lw_k [eIAE] (o_clear σ p0 (aC σ) (arg σ)) ∧ ∀ w, (o_clear σ p0 (aC σ) (arg σ)) = .inl w → w = (f_Mclear τ p0 (mR τ) (mC τ) (mrg τ)))) (hk : ∀ τ σ (p0 : Int32), LI τ σ → LI (g_Mclear τ p0 (mR τ) (mC τ) (mrg τ)) (g_clear σ p0 (aC σ) (arg σ))) : IF_clear l LI := by
  intro z τ σ p0 h9
  have j := (hp τ σ h9).1
  have r := (hp τ σ h9).2
  refine ⟨(o_clear σ p0 (aC σ) (arg σ)), (g_clear σ p0 (aC σ) (arg σ)), (f_Mclear τ p0 (mR τ) (mC τ) (mrg τ)), z, (g_Mclear τ p0 (mR τ) (mC τ) (mrg τ)), fun h hh => ct_X7_clear hl j.hC.1 j.hC.2 (rg := arg σ) j.hrg, fun E e => ?_, fun h hh => ct_X14_clear hl hh.bs (fun r h1 _ => hh.no h1) r.me r.hR.1 r.hR.2 r.hS.1 r.hS.2 (rg := mrg τ) r.hrg, hk τ σ p0 h9, hrel τ σ p0 h9⟩
  unfold o_clear at e
  (repeat' split at e) <;> first | (cases e; done) | (rw [← Sum.inr.inj e]; done) | (rw [← Sum.inr.inj e]; first | exact rfl | exact .inl rfl | exact .inr rfl | exact .inr (.inl rfl) | exact .inr (.inr rfl))
theorem if_ofRegion {l : Launch} (hl : l.stackTraces = false) {LI : XS9 → XS9 → Prop} (hp : ∀ τ σ, LI τ σ → JC σ ∧ JR τ) (hrel : ∀ τ σ (p0 p1 : Int32), LI τ σ → ((g_MofRegion τ p0 p1 (mR τ) (mB τ) (mC τ) (mg τ)) 5000 0 = lw_k [eIOB, eIAE] (o_ofRegion σ p0 p1 (aR σ) (aC σ)) ∧ ∀ w, (o_ofRegion σ p0 p1 (aR σ) (aC σ)) = .inl w → w = (f_MofRegion τ p0 p1 (mR τ) (mB τ) (mC τ) (mg τ)))) (hk : ∀ τ σ (p0 p1 : Int32), LI τ σ → LI (g_MofRegion τ p0 p1 (mR τ) (mB τ) (mC τ) (mg τ)) σ) : IF_ofRegion l LI := by
  intro z τ σ p0 p1 h9
  have j := (hp τ σ h9).1
  have r := (hp τ σ h9).2
  refine ⟨(o_ofRegion σ p0 p1 (aR σ) (aC σ)), σ, (f_MofRegion τ p0 p1 (mR τ) (mB τ) (mC τ) (mg τ)), z, (g_MofRegion τ p0 p1 (mR τ) (mB τ) (mC τ) (mg τ)), fun h hh => ct_X7_ofRegion hl j.hR.1 j.hR.2 j.hC.1 j.hC.2, fun E e => ?_, fun h hh => ct_X14_ofRegion hl hh.bs r.hR.1 r.hR.2 r.hB.1 r.hB.2 r.hS.1 r.hS.2 r.hfl r.hg.1 r.hg.2 r.hw.1 r.hw.2, hk τ σ p0 p1 h9, hrel τ σ p0 p1 h9⟩
  unfold o_ofRegion at e
  (repeat' split at e) <;> first | (cases e; done) | (rw [← Sum.inr.inj e]; done) | (rw [← Sum.inr.inj e]; first | exact rfl | exact .inl rfl | exact .inr rfl | exact .inr (.inl rfl) | exact .inr (.inr rfl))
theorem if_ofBidder {l : Launch} (hl : l.stackTraces = false) {LI : XS9 → XS9 → Prop} (hp : ∀ τ σ, LI τ σ → JC σ ∧ JR τ) (hrel : ∀ τ σ (p0 p1 : Int32), LI τ σ → ((g_MofBidder τ p0 p1 (mR τ) (mB τ) (mpk τ) (mg τ)) 5000 0 = lw_k [eIOB, eIAE] (o_ofBidder σ p0 p1 (aB σ)) ∧ ∀ w, (o_ofBidder σ p0 p1 (aB σ)) = .inl w → w = (f_MofBidder τ p0 p1 (mR τ) (mB τ) (mpk τ) (mg τ)))) (hk : ∀ τ σ (p0 p1 : Int32), LI τ σ → LI (g_MofBidder τ p0 p1 (mR τ) (mB τ) (mpk τ) (mg τ)) σ) : IF_ofBidder l LI := by
  intro z τ σ p0 p1 h9
  have j := (hp τ σ h9).1
  have r := (hp τ σ h9).2
  refine ⟨(o_ofBidder σ p0 p1 (aB σ)), σ, (f_MofBidder τ p0 p1 (mR τ) (mB τ) (mpk τ) (mg τ)), z, (g_MofBidder τ p0 p1 (mR τ) (mB τ) (mpk τ) (mg τ)), fun h hh => ct_X7_ofBidder hl j.hB.1 j.hB.2, fun E e => ?_, fun h hh => ct_X14_ofBidder hl hh.bs r.hR.1 r.hR.2 r.hB.1 r.hB.2 (pk := mpk τ) r.hpk r.hfl r.hg.1 r.hg.2 r.hw.1 r.hw.2, hk τ σ p0 p1 h9, hrel τ σ p0 p1 h9⟩
  unfold o_ofBidder at e
  (repeat' split at e) <;> first | (cases e; done) | (rw [← Sum.inr.inj e]; done) | (rw [← Sum.inr.inj e]; first | exact rfl | exact .inl rfl | exact .inr rfl | exact .inr (.inl rfl) | exact .inr (.inr rfl))
theorem if_wants {l : Launch} (hl : l.stackTraces = false) {LI : XS9 → XS9 → Prop} (hp : ∀ τ σ, LI τ σ → JC σ ∧ JR τ) (hrel : ∀ τ σ (p0 p1 p2 : Int32), LI τ σ → (p2 = 0 ∨ p2 = 1) → ((g_Mwants τ p0 p1 p2 (mR τ) (mB τ) (mg τ)) 5000 0 = lw_k [eIOB] (o_wants σ p0 p1 p2 (aR σ) (aB σ)) ∧ ∀ w, (o_wants σ p0 p1 p2 (aR σ) (aB σ)) = .inl w → w = (f_Mwants τ p0 p1 p2 (mR τ) (mB τ) (mg τ)))) (hk : ∀ τ σ (p0 p1 p2 : Int32), LI τ σ → LI (g_Mwants τ p0 p1 p2 (mR τ) (mB τ) (mg τ)) σ) : IF_wants l LI := by
  intro z τ σ p0 p1 p2 h9 hy
  have j := (hp τ σ h9).1
  have r := (hp τ σ h9).2
  refine ⟨(o_wants σ p0 p1 p2 (aR σ) (aB σ)), σ, (f_Mwants τ p0 p1 p2 (mR τ) (mB τ) (mg τ)), z, (g_Mwants τ p0 p1 p2 (mR τ) (mB τ) (mg τ)), fun h hh => ct_X7_wants hl j.hR.1 j.hR.2 j.hB.1 j.hB.2, fun E e => ?_, fun h hh => ct_X14_wants hl hh.bs r.hR.1 r.hR.2 r.hB.1 r.hB.2 r.hfl r.hg.1 r.hg.2 r.hw.1 r.hw.2, hk τ σ p0 p1 p2 h9, hrel τ σ p0 p1 p2 h9 hy⟩
  unfold o_wants at e
  (repeat' split at e) <;> first | (cases e; done) | (rw [← Sum.inr.inj e]; done) | (rw [← Sum.inr.inj e]; first | exact rfl | exact .inl rfl | exact .inr rfl | exact .inr (.inl rfl) | exact .inr (.inr rfl))
theorem if_priceIn {l : Launch} (hl : l.stackTraces = false) {LI : XS9 → XS9 → Prop} (hp : ∀ τ σ, LI τ σ → JC σ ∧ JR τ) (hrel : ∀ τ σ (p0 p1 : Int32), LI τ σ → ((g_MpriceIn τ p0 p1 (mR τ) (mK τ)) 5000 0 = lw_k [eIOB] (o_priceIn σ p0 p1 (aR σ) (aK σ)) ∧ ∀ w, (o_priceIn σ p0 p1 (aR σ) (aK σ)) = .inl w → w = (f_MpriceIn τ p0 p1 (mR τ) (mK τ)))) (hk : ∀ τ σ (p0 p1 : Int32), LI τ σ → LI (g_MpriceIn τ p0 p1 (mR τ) (mK τ)) σ) : IF_priceIn l LI := by
  intro z τ σ p0 p1 h9
  have j := (hp τ σ h9).1
  have r := (hp τ σ h9).2
  refine ⟨(o_priceIn σ p0 p1 (aR σ) (aK σ)), σ, (f_MpriceIn τ p0 p1 (mR τ) (mK τ)), z, (g_MpriceIn τ p0 p1 (mR τ) (mK τ)), fun h hh => ct_X7_priceIn hl j.hR.1 j.hR.2 j.hK.1 j.hK.2, fun E e => ?_, fun h hh => ct_X14_priceIn hl hh.bs r.hR.1 r.hR.2 r.hK.1 r.hK.2, hk τ σ p0 p1 h9, hrel τ σ p0 p1 h9⟩
  unfold o_priceIn at e
  (repeat' split at e) <;> first | (cases e; done) | (rw [← Sum.inr.inj e]; done) | (rw [← Sum.inr.inj e]; first | exact rfl | exact .inl rfl | exact .inr rfl | exact .inr (.inl rfl) | exact .inr (.inr rfl))
theorem if_codeIn {l : Launch} (hl : l.stackTraces = false) {LI : XS9 → XS9 → Prop} (hp : ∀ τ σ, LI τ σ → JC σ ∧ JR τ) (hrel : ∀ τ σ (p0 p1 p2 : Int32), LI τ σ → (p2 = 0 ∨ p2 = 1) → ((g_McodeIn τ p0 p1 p2 (mB τ) (mK τ)) 5000 0 = lw_k [eIOB] (o_codeIn σ p0 p1 p2 (aB σ) (aK σ)) ∧ ∀ w, (o_codeIn σ p0 p1 p2 (aB σ) (aK σ)) = .inl w → w = (f_McodeIn τ p0 p1 p2 (mB τ) (mK τ)))) (hk : ∀ τ σ (p0 p1 p2 : Int32), LI τ σ → LI (g_McodeIn τ p0 p1 p2 (mB τ) (mK τ)) σ) : IF_codeIn l LI := by
  intro z τ σ p0 p1 p2 h9 hy
  have j := (hp τ σ h9).1
  have r := (hp τ σ h9).2
  refine ⟨(o_codeIn σ p0 p1 p2 (aB σ) (aK σ)), σ, (f_McodeIn τ p0 p1 p2 (mB τ) (mK τ)), z, (g_McodeIn τ p0 p1 p2 (mB τ) (mK τ)), fun h hh => ct_X7_codeIn hl j.hB.1 j.hB.2 j.hK.1 j.hK.2, fun E e => ?_, fun h hh => ct_X14_codeIn hl hh.bs r.hB.1 r.hB.2 r.hK.1 r.hK.2, hk τ σ p0 p1 p2 h9, hrel τ σ p0 p1 p2 h9 hy⟩
  unfold o_codeIn at e
  (repeat' split at e) <;> first | (cases e; done) | (rw [← Sum.inr.inj e]; done) | (rw [← Sum.inr.inj e]; first | exact rfl | exact .inl rfl | exact .inr rfl | exact .inr (.inl rfl) | exact .inr (.inr rfl))
theorem if_ofPackage {l : Launch} (hl : l.stackTraces = false) {LI : XS9 → XS9 → Prop} (hp : ∀ τ σ, LI τ σ → JC σ ∧ JR τ) (hrel : ∀ τ σ (p0 p1 p2 : Int32), LI τ σ → (p2 = 0 ∨ p2 = 1) → ((g_MofPackage τ p0 p1 p2 (mB τ) (mpk τ)) 5000 0 = lw_k [eIOB] (o_ofPackage σ p0 p1 p2 (aB σ) (acn σ)) ∧ ∀ w, (o_ofPackage σ p0 p1 p2 (aB σ) (acn σ)) = .inl w → w = (f_MofPackage τ p0 p1 p2 (mB τ) (mpk τ)))) (hk : ∀ τ σ (p0 p1 p2 : Int32), LI τ σ → LI (g_MofPackage τ p0 p1 p2 (mB τ) (mpk τ)) σ) : IF_ofPackage l LI := by
  intro z τ σ p0 p1 p2 h9 hy
  have j := (hp τ σ h9).1
  have r := (hp τ σ h9).2
  refine ⟨(o_ofPackage σ p0 p1 p2 (aB σ) (acn σ)), σ, (f_MofPackage τ p0 p1 p2 (mB τ) (mpk τ)), z, (g_MofPackage τ p0 p1 p2 (mB τ) (mpk τ)), fun h hh => ct_X7_ofPackage hl j.hB.1 j.hB.2 (cnt := acn σ) j.hct, fun E e => ?_, fun h hh => ct_X14_ofPackage hl hh.bs r.hR.1 r.hR.2 r.hB.1 r.hB.2 (pk := mpk τ) r.hpk, hk τ σ p0 p1 p2 h9, hrel τ σ p0 p1 p2 h9 hy⟩
  unfold o_ofPackage at e
  (repeat' split at e) <;> first | (cases e; done) | (rw [← Sum.inr.inj e]; done) | (rw [← Sum.inr.inj e]; first | exact rfl | exact .inl rfl | exact .inr rfl | exact .inr (.inl rfl) | exact .inr (.inr rfl))
theorem if_wins {l : Launch} (hl : l.stackTraces = false) {LI : XS9 → XS9 → Prop} (hp : ∀ τ σ, LI τ σ → JC σ ∧ JR τ) (hrel : ∀ τ σ (p0 : Int32), LI τ σ → ((g_Mwins τ p0 (mR τ) (mB τ) (mpk τ) (mgr τ) (mcd τ)) 5000 0 = lw_k [eIOB] (o_wins σ p0 (aB σ)) ∧ ∀ w, (o_wins σ p0 (aB σ)) = .inl w → w = (f_Mwins τ p0 (mR τ) (mB τ) (mpk τ) (mgr τ) (mcd τ)))) (hk : ∀ τ σ (p0 : Int32), LI τ σ → LI (g_Mwins τ p0 (mR τ) (mB τ) (mpk τ) (mgr τ) (mcd τ)) σ) : IF_wins l LI := by
  intro z τ σ p0 h9
  have j := (hp τ σ h9).1
  have r := (hp τ σ h9).2
  refine ⟨(o_wins σ p0 (aB σ)), σ, (f_Mwins τ p0 (mR τ) (mB τ) (mpk τ) (mgr τ) (mcd τ)), z, (g_Mwins τ p0 (mR τ) (mB τ) (mpk τ) (mgr τ) (mcd τ)), fun h hh => ct_X7_wins hl j.hB.1 j.hB.2, fun E e => ?_, fun h hh => ct_X14_wins hl hh.bs (fun r h1 _ => hh.no h1) r.me r.hR.1 r.hR.2 r.hB.1 r.hB.2 (pk := mpk τ) r.hpk (gr := mgr τ) r.hgr (cd := mcd τ) r.hcd, hk τ σ p0 h9, hrel τ σ p0 h9⟩
  unfold o_wins at e
  (repeat' split at e) <;> first | (cases e; done) | (rw [← Sum.inr.inj e]; done) | (rw [← Sum.inr.inj e]; first | exact rfl | exact .inl rfl | exact .inr rfl | exact .inr (.inl rfl) | exact .inr (.inr rfl))
theorem if_pays {l : Launch} (hl : l.stackTraces = false) {LI : XS9 → XS9 → Prop} (hp : ∀ τ σ, LI τ σ → JC σ ∧ JR τ) (hrel : ∀ τ σ (p0 p1 : Int32), LI τ σ → (p1 = 0 ∨ p1 = 1) → ((g_Mpays τ p0 p1 (mB τ)) 5000 0 = lw_k [eIOB] (o_pays σ p0 p1 (aB σ) (aw σ)) ∧ ∀ w, (o_pays σ p0 p1 (aB σ) (aw σ)) = .inl w → w = (f_Mpays τ p0 p1 (mB τ)))) (hk : ∀ τ σ (p0 p1 : Int32), LI τ σ → LI (g_Mpays τ p0 p1 (mB τ)) σ) : IF_pays l LI := by
  intro z τ σ p0 p1 h9 hy
  have j := (hp τ σ h9).1
  have r := (hp τ σ h9).2
  refine ⟨(o_pays σ p0 p1 (aB σ) (aw σ)), σ, (f_Mpays τ p0 p1 (mB τ)), z, (g_Mpays τ p0 p1 (mB τ)), fun h hh => ct_X7_pays hl j.hB.1 j.hB.2 j.hw.1 j.hw.2, fun E e => ?_, fun h hh => ct_X14_pays hl hh.bs r.hB.1 r.hB.2, hk τ σ p0 p1 h9, hrel τ σ p0 p1 h9 hy⟩
  unfold o_pays at e
  (repeat' split at e) <;> first | (cases e; done) | (rw [← Sum.inr.inj e]; done) | (rw [← Sum.inr.inj e]; first | exact rfl | exact .inl rfl | exact .inr rfl | exact .inr (.inl rfl) | exact .inr (.inr rfl))
theorem if_holder {l : Launch} (hl : l.stackTraces = false) {LI : XS9 → XS9 → Prop} (hp : ∀ τ σ, LI τ σ → JC σ ∧ JR τ) (hrel : ∀ τ σ (p0 p1 : Int32), LI τ σ → ((g_Mholder τ p0 p1 (mR τ) (mB τ) (mtn τ) (msp τ)) 5000 0 = lw_k [eIOB] (o_holder σ p0 p1 (aR σ) (asp σ)) ∧ ∀ w, (o_holder σ p0 p1 (aR σ) (asp σ)) = .inl w → w = (f_Mholder τ p0 p1 (mR τ) (mB τ) (mtn τ) (msp τ)))) (hk : ∀ τ σ (p0 p1 : Int32), LI τ σ → LI (g_Mholder τ p0 p1 (mR τ) (mB τ) (mtn τ) (msp τ)) σ) : IF_holder l LI := by
  intro z τ σ p0 p1 h9
  have j := (hp τ σ h9).1
  have r := (hp τ σ h9).2
  refine ⟨(o_holder σ p0 p1 (aR σ) (asp σ)), σ, (f_Mholder τ p0 p1 (mR τ) (mB τ) (mtn τ) (msp τ)), z, (g_Mholder τ p0 p1 (mR τ) (mB τ) (mtn τ) (msp τ)), fun h hh => ct_X7_holder hl j.hR.1 j.hR.2 (sp := asp σ) j.hsp, fun E e => ?_, fun h hh => ct_X14_holder hl hh.bs r.hR.1 r.hR.2 r.hB.1 r.hB.2 (pk := mpk τ) r.hpk r.hkp (tn := mtn τ) r.htn (sp := msp τ) r.hsp, hk τ σ p0 p1 h9, hrel τ σ p0 p1 h9⟩
  unfold o_holder at e
  (repeat' split at e) <;> first | (cases e; done) | (rw [← Sum.inr.inj e]; done) | (rw [← Sum.inr.inj e]; first | exact rfl | exact .inl rfl | exact .inr rfl | exact .inr (.inl rfl) | exact .inr (.inr rfl))
theorem if_sale {l : Launch} (hl : l.stackTraces = false) {LI : XS9 → XS9 → Prop} (hp : ∀ τ σ, LI τ σ → JC σ ∧ JR τ) (hrel : ∀ τ σ (p0 : Int32), LI τ σ → ((g_Msale τ p0 (mR τ) (mB τ) (mpk τ) (mgr τ) (mcd τ) (mK τ) (mC τ) (mg τ) (mtn τ) (msp τ)) 5000 0 = lw_k [eIAE] (o_sale σ p0 (aK σ) (aB σ) (aR σ) (aC σ) (aw σ) (acn σ)) ∧ ∀ w, (o_sale σ p0 (aK σ) (aB σ) (aR σ) (aC σ) (aw σ) (acn σ)) = .inl w → w = (f_Msale τ p0 (mR τ) (mB τ) (mpk τ) (mgr τ) (mcd τ) (mK τ) (mC τ) (mg τ) (mtn τ) (msp τ)))) (hk : ∀ τ σ (p0 : Int32), LI τ σ → LI (g_Msale τ p0 (mR τ) (mB τ) (mpk τ) (mgr τ) (mcd τ) (mK τ) (mC τ) (mg τ) (mtn τ) (msp τ)) σ) : IF_sale l LI := by
  intro z τ σ p0 h9
  have j := (hp τ σ h9).1
  have r := (hp τ σ h9).2
  refine ⟨(o_sale σ p0 (aK σ) (aB σ) (aR σ) (aC σ) (aw σ) (acn σ)), σ, (f_Msale τ p0 (mR τ) (mB τ) (mpk τ) (mgr τ) (mcd τ) (mK τ) (mC τ) (mg τ) (mtn τ) (msp τ)), z, (g_Msale τ p0 (mR τ) (mB τ) (mpk τ) (mgr τ) (mcd τ) (mK τ) (mC τ) (mg τ) (mtn τ) (msp τ)), fun h hh => ct_X7_sale hl j.hK.1 j.hK.2 j.hB.1 j.hB.2 j.hR.1 j.hR.2 j.hC.1 j.hC.2 j.hw.1 j.hw.2 (cnt := acn σ) j.hct j.ham, fun E e => ?_, fun h hh => ct_X14_sale hl hh.bs (fun r h1 _ => hh.no h1) r.me r.hR.1 r.hR.2 r.hB.1 r.hB.2 (pk := mpk τ) r.hpk (gr := mgr τ) r.hgr (cd := mcd τ) r.hcd r.hK.1 r.hK.2 r.hS.1 r.hS.2 r.hfl r.hg.1 r.hg.2 r.hw.1 r.hw.2 r.hkp (tn := mtn τ) r.htn (sp := msp τ) r.hsp, hk τ σ p0 h9, hrel τ σ p0 h9⟩
  unfold o_sale at e
  (repeat' split at e) <;> first | (cases e; done) | (rw [← Sum.inr.inj e]; done) | (rw [← Sum.inr.inj e]; first | exact rfl | exact .inl rfl | exact .inr rfl | exact .inr (.inl rfl) | exact .inr (.inr rfl))
theorem if_worth {l : Launch} (hl : l.stackTraces = false) {LI : XS9 → XS9 → Prop} (hp : ∀ τ σ, LI τ σ → JC σ ∧ JR τ) (hrel : ∀ τ σ (p0 : Int32), LI τ σ → ((g_Mworth τ p0 (mR τ) (mB τ) (mpk τ) (mgr τ) (mcd τ)) 5000 0 = lw_k [eIAE] (o_worth σ p0 (aB σ)) ∧ ∀ w, (o_worth σ p0 (aB σ)) = .inl w → w = (f_Mworth τ p0 (mR τ) (mB τ) (mpk τ) (mgr τ) (mcd τ)))) (hk : ∀ τ σ (p0 : Int32), LI τ σ → LI (g_Mworth τ p0 (mR τ) (mB τ) (mpk τ) (mgr τ) (mcd τ)) σ) : IF_worth l LI := by
  intro z τ σ p0 h9
  have j := (hp τ σ h9).1
  have r := (hp τ σ h9).2
  refine ⟨(o_worth σ p0 (aB σ)), σ, (f_Mworth τ p0 (mR τ) (mB τ) (mpk τ) (mgr τ) (mcd τ)), z, (g_Mworth τ p0 (mR τ) (mB τ) (mpk τ) (mgr τ) (mcd τ)), fun h hh => ct_X7_worth hl j.hB.1 j.hB.2, fun E e => ?_, fun h hh => ct_X14_worth hl hh.bs (fun r h1 _ => hh.no h1) r.me r.hR.1 r.hR.2 r.hB.1 r.hB.2 (pk := mpk τ) r.hpk (gr := mgr τ) r.hgr (cd := mcd τ) r.hcd, hk τ σ p0 h9, hrel τ σ p0 h9⟩
  unfold o_worth at e
  (repeat' split at e) <;> first | (cases e; done) | (rw [← Sum.inr.inj e]; done) | (rw [← Sum.inr.inj e]; first | exact rfl | exact .inl rfl | exact .inr rfl | exact .inr (.inl rfl) | exact .inr (.inr rfl))
theorem if_contradicts {l : Launch} (hl : l.stackTraces = false) {LI : XS9 → XS9 → Prop} (hp : ∀ τ σ, LI τ σ → JC σ ∧ JR τ) (hrel : ∀ τ σ (p0 : Int32), LI τ σ → ((g_Mcontradicts τ p0 (mR τ) (mB τ) (mg τ) (mn τ)) 5000 0 = lw_k [eIOB] (o_contradicts σ p0 (aB σ) (aK σ)) ∧ ∀ w, (o_contradicts σ p0 (aB σ) (aK σ)) = .inl w → w = (f_Mcontradicts τ p0 (mR τ) (mB τ) (mg τ) (mn τ)))) (hk : ∀ τ σ (p0 : Int32), LI τ σ → LI (g_Mcontradicts τ p0 (mR τ) (mB τ) (mg τ) (mn τ)) σ) : IF_contradicts l LI := by
  intro z τ σ p0 h9
  have j := (hp τ σ h9).1
  have r := (hp τ σ h9).2
  refine ⟨(o_contradicts σ p0 (aB σ) (aK σ)), σ, (f_Mcontradicts τ p0 (mR τ) (mB τ) (mg τ) (mn τ)), z, (g_Mcontradicts τ p0 (mR τ) (mB τ) (mg τ) (mn τ)), fun h hh => ct_X7_contradicts hl j.hB.1 j.hB.2 j.hK.1 j.hK.2, fun E e => ?_, fun h hh => ct_X14_contradicts hl hh.bs r.hR.1 r.hR.2 r.hB.1 r.hB.2 r.hst r.hg.1 r.hg.2 r.hw.1 r.hw.2 r.hn.1 r.hn.2.1 r.hn.2.2, hk τ σ p0 h9, hrel τ σ p0 h9⟩
  unfold o_contradicts at e
  (repeat' split at e) <;> first | (cases e; done) | (rw [← Sum.inr.inj e]; done) | (rw [← Sum.inr.inj e]; first | exact rfl | exact .inl rfl | exact .inr rfl | exact .inr (.inl rfl) | exact .inr (.inr rfl))
