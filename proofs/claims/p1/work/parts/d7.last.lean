/-! ===== the last three interfaces ===== -/
theorem K_most : ∀ τ σ (p0 p1 : Int32), LI τ σ → LI (g_Mmost τ p0 p1 (mR τ) (mB τ) (mg τ)) σ := fun τ σ p0 p1 h9 => by
  have r := h9.1.2.1.1
  have h := h9.1.2.1.2
  refine ⟨⟨h9.1.1, ⟨r.most, ?_⟩, h9.1.2.2.kept VM.most VC.rfl'⟩, ?_⟩
  · unfold g_Mmost
    (repeat' split) <;> first | with_reducible exact h.s0 r | exact h.s00 r | exact h.s0 r
  · unfold g_Mmost
    (repeat' split) <;> first | exact h9.2.s0 | exact h9.2.s00
theorem G_most {l : Launch} (hl : l.stackTraces = false) {LI' : XS9 → XS9 → Prop} (hq : ∀ τ σ, LI' τ σ → LI τ σ) (hrel : ∀ τ σ (p0 p1 : Int32), LI' τ σ → ((g_Mmost τ p0 p1 (mR τ) (mB τ) (mg τ)) 5000 0 = lw_k [eIOB] (o_most σ p0 p1 (aR σ) (aB σ)) ∧ ∀ w, (o_most σ p0 p1 (aR σ) (aB σ)) = .inl w → w = (f_Mmost τ p0 p1 (mR τ) (mB τ) (mg τ)))) (hk : ∀ τ σ (p0 p1 : Int32), LI' τ σ → LI' (g_Mmost τ p0 p1 (mR τ) (mB τ) (mg τ)) σ) : IF_most l LI' := if_most hl (fun _ _ h8 => (hq _ _ h8).1.p) (fun τ σ p0 p1 h8 a b hs => have h9 := hq τ σ h8; (h9.1.2.1.2.1 hs).1.hm0 (by have := a.2; have := h9.1.2.1.1.hB.2; omega) (by have := b.2; have := h9.1.2.1.1.hR.2; omega)) hrel hk
theorem K_anew : ∀ τ σ (p0 p1 p2 p3 : Int32), LI τ σ → LI (u2 (u2 τ 5000 0 0) 5000 0 (t_anew p0 p1 p2 p3 (mR τ) (mB τ) (mK τ))) (g_anew σ p0 p1 p2 p3 (aR σ) (aB σ) (aK σ)) := fun τ σ p0 p1 p2 p3 h9 => have j := h9.1.1.1; have r := h9.1.2.1.1; have h := h9.1.2.1.2; ⟨⟨⟨j.anew j.hK.2, h9.1.1.2.anew j.hK.2⟩, ⟨r.s00, h.s00 r⟩, h9.1.2.2.kept VM.s00 (VC.anew j.hK.2)⟩, h9.2.s00⟩
theorem G_anew {l : Launch} (hl : l.stackTraces = false) {LI' : XS9 → XS9 → Prop} (hq : ∀ τ σ, LI' τ σ → LI τ σ) (hrel : ∀ (τ σ : XS9) (p0 p1 p2 p3 : Int32), LI' τ σ → u2 (u2 τ 5000 0 0) 5000 0 (t_anew p0 p1 p2 p3 (mR τ) (mB τ) (mK τ)) 5000 0 = lw_k [eIOB, eIAE] (o_anew σ p0 p1 p2 p3 (aR σ) (aB σ) (aK σ)) ∧ ∀ w, o_anew σ p0 p1 p2 p3 (aR σ) (aB σ) (aK σ) = .inl w → w = f_Manew τ p0 p1 p2 p3 (mR τ) (mB τ) (mK τ)) (hk : ∀ τ σ (p0 p1 p2 p3 : Int32), LI' τ σ → LI' (u2 (u2 τ 5000 0 0) 5000 0 (t_anew p0 p1 p2 p3 (mR τ) (mB τ) (mK τ))) (g_anew σ p0 p1 p2 p3 (aR σ) (aB σ) (aK σ))) : IF_anew l LI' := by
  intro z τ σ p0 p1 p2 p3 h8
  have h9 := hq _ _ h8
  have j := h9.1.1.1
  have r := h9.1.2.1.1
  have h := h9.1.2.1.2
  refine ⟨o_anew σ p0 p1 p2 p3 (aR σ) (aB σ) (aK σ), g_anew σ p0 p1 p2 p3 (aR σ) (aB σ) (aK σ), f_Manew τ p0 p1 p2 p3 (mR τ) (mB τ) (mK τ), z, u2 (u2 τ 5000 0 0) 5000 0 (t_anew p0 p1 p2 p3 (mR τ) (mB τ) (mK τ)), fun h hh => ct_X7_anew hl j.hR.1 j.hR.2 j.hB.1 j.hB.2 j.hK.1 j.hK.2, fun E e => ?_, fun h2 hh => ct_anew hl hh.bs (fun r h1 _ => hh.no h1) r.me r.hR.1 r.hR.2 r.hB.1 r.hB.2 r.hK.1 r.hK.2 (GA := GAn (u2 τ 5000 0 0)) (fun a1 a2 a3 a4 => ah0 r h (by have := a2.2; have := r.hB.2; omega) (by have := a3.2; have := r.hR.2; omega) (bd.bt a4 (by decide) rfl (by decide))), hk τ σ p0 p1 p2 p3 h8, hrel τ σ p0 p1 p2 p3 h8⟩
  unfold o_anew at e
  (repeat' split at e) <;> first | (cases e; done) | (rw [← Sum.inr.inj e]; first | exact .inl rfl | exact .inr rfl)
theorem K_channel : ∀ τ σ (p0 p1 p2 : Int32), LI τ σ → LI (g_Mchannel τ p0 p1 p2 (mR τ) (mC τ) (mrg τ)) (g_channel σ p0 p1 p2 (aC σ) (arg σ)) := fun τ σ p0 p1 p2 h9 => have j := h9.1.1.1; have r := h9.1.2.1.1; have h := h9.1.2.1.2; have ca := chan_all (x := p0) (y := p1) (v := p2) (R := mR τ) (C := mC τ) (rg := mrg τ) r h9.1.2.1.2 h9.2; ⟨⟨⟨j.channel, h9.1.1.2.channel⟩, ⟨ca.1.1, ca.1.2.1⟩, h9.1.2.2.kept ca.2 VC.channel⟩, ca.1.2.2⟩
theorem G_channel {l : Launch} (hl : l.stackTraces = false) {LI' : XS9 → XS9 → Prop} (hq : ∀ τ σ, LI' τ σ → LI τ σ) (hrel : ∀ (τ σ : XS9) (p0 p1 p2 : Int32), LI' τ σ → g_Mchannel τ p0 p1 p2 (mR τ) (mC τ) (mrg τ) 5000 0 = lw_k [eIOB, eIAE] (o_channel σ p0 p1 p2 (aC σ) (arg σ)) ∧ ∀ w, o_channel σ p0 p1 p2 (aC σ) (arg σ) = .inl w → w = f_Mchannel τ p0 p1 p2 (mR τ) (mC τ) (mrg τ)) (hk : ∀ τ σ (p0 p1 p2 : Int32), LI' τ σ → LI' (g_Mchannel τ p0 p1 p2 (mR τ) (mC τ) (mrg τ)) (g_channel σ p0 p1 p2 (aC σ) (arg σ))) : IF_channel l LI' := by
  intro z τ σ p0 p1 p2 h8
  have h9 := hq _ _ h8
  have j := h9.1.1.1
  have r := h9.1.2.1.1
  have hS := r.hS
  obtain ⟨⟨a, b, c⟩, d⟩ := chan_all (x := p0) (y := p1) (v := p2) (R := mR τ) (C := mC τ) (rg := mrg τ) r h9.1.2.1.2 h9.2
  refine ⟨o_channel σ p0 p1 p2 (aC σ) (arg σ), g_channel σ p0 p1 p2 (aC σ) (arg σ), f_Mchannel τ p0 p1 p2 (mR τ) (mC τ) (mrg τ), z, g_Mchannel τ p0 p1 p2 (mR τ) (mC τ) (mrg τ), fun h hh => ct_X7_channel hl j.hC.1 j.hC.2 j.hrg, fun E e => ?_, fun h hh => ct_X14_channel hl hh.bs (fun r h1 _ => hh.no h1) r.me r.hR.1 r.hR.2 hS.1 hS.2 r.hrg (PI := PIc p0 p1 p2 (mC τ) (mrg τ)) (PJ := PJc p0 p1 (mC τ) (mrg τ)) (fun q1 q2 q3 q4 _ => PIc.start hS.2 (cn6 q3) ((sub1_lt (R := mC τ) (by omega)).mp q1).2 q4) (fun i s s' hi hP e => PIc.step hS.2 hi hP e) (fun i s hi hP hb => ⟨by have := hP.1; omega, hb, hP.2.1, hP.2.2, fun c' hc' => absurd hc' (by omega)⟩) (fun i c s hP hc hf => PJc.next hS.2 hP hc hf) (fun i s hP => PJc.no hS.2 hP), hk τ σ p0 p1 p2 h8, hrel τ σ p0 p1 p2 h8⟩
  unfold o_channel at e
  (repeat' split at e) <;> first | (cases e; done) | (rw [← Sum.inr.inj e]; first | exact .inl rfl | exact .inr rfl)
