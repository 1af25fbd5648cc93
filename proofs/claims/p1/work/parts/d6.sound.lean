/-! ===== is it sound, the digest, the chart ===== -/
section
variable {t : XS9}
abbrev vSn (t : XS9) : Int32 := f_MisSound_n t (mR t) (mB t) (mK t) (mC t) (mpk t) (mg t) (mtn t) (msp t)
abbrev vSc (t : XS9) : Int32 := f_MisSound_c t (mR t) (mB t) (mK t) (mC t) (mpk t) (mg t) (mtn t) (msp t)
def vS (t : XS9) : Int32 := if t 7000 25 = nI 0 then vSn t else vSc t
theorem soundNow {l : Launch} (hl : l.stackTraces = false) (r : JR t) (h : JS t) (y : Int64) (h2 : XH) (hh : okM h2) : XEx l m_X14_isSoundNow 12 495 8668 [.ref 5000] (setM y t h2) (some (.int (vS t))) (setM y t h2) := by
  unfold vS
  by_cases e : t 7000 25 = nI 0
  · rw [if_pos e]
    exact ct_MisSound_n hl hh.bs (fun r h1 _ => hh.no h1) r.me r.hR.1 r.hR.2 r.hB.1 r.hB.2 r.hK.1 r.hK.2 r.hS.1 r.hS.2 r.hpk r.hkp r.htn r.hsp (fun s i j _ _ _ => holder_ok) r.hg.1 r.hg.2 r.hw.1 r.hw.2 e
  · rw [if_neg e]
    have f := r.hfl.resolve_left e
    exact ct_MisSound_c hl hh.bs (fun r h1 _ => hh.no h1) r.me r.hR.1 r.hR.2 r.hB.1 r.hB.2 r.hK.1 r.hK.2 r.hS.1 r.hS.2 r.hpk r.hkp r.htn r.hsp (fun s i j _ _ _ => holder_ok) r.hg.1 r.hg.2 r.hw.1 r.hw.2 f.2 f.1 (GA := GAn t) (GAn.ah r.hR.2 r.hB.2 r.hK.2 (fun i k hi hk => h.2.2 i k hi hk) (by decide) (by decide) bd.zero)
theorem sn_26 {R B K C : Nat} {pk : Nat → Nat} {g : Nat} {tn sp : Nat → Nat} {i : Nat} : ∀ r, x_MisSound_n_26 t R B K C pk g tn sp i () = .inr r → r = 0 := fun r e => by
  refine xitR_res (fun r => r = 0) (fun k s r e => ?_) R 0 () r e
  revert e
  (try dsimp only)
  split
  · intro e
    cases e
  · exact fun e => (Sum.inr.inj e).symm
theorem sn_128 {R B K C : Nat} {pk : Nat → Nat} {g : Nat} {tn sp : Nat → Nat} : ∀ r, x_MisSound_n_128 t R B K C pk g tn sp () = .inr r → r = 0 := fun r e => by
  refine xitR_res (fun r => r = 0) (fun k s r e => ?_) R 0 () r e
  revert e
  (try dsimp only)
  split
  · intro e
    cases e
  · exact fun e => (Sum.inr.inj e).symm
theorem sn_2 {R B K C : Nat} {pk : Nat → Nat} {g : Nat} {tn sp : Nat → Nat} : ∀ r, x_MisSound_n_2 t R B K C pk g tn sp () = .inr r → r = 0 := fun r e => by
  refine xitR_res (fun r => r = 0) (fun i s r e => ?_) B 0 () r e
  have H := sn_26 (t := t) (R := R) (B := B) (K := K) (C := C) (pk := pk) (g := g) (tn := tn) (sp := sp) (i := i)
  revert e
  (try dsimp only)
  generalize x_MisSound_n_26 t R B K C pk g tn sp i () = w at H
  split
  · cases w with
    | inl s =>
      (try dsimp only)
      split
      · split
        · intro e
          cases e
        · split
          · intro e
            cases e
          · exact fun e => (Sum.inr.inj e).symm
      · intro e
        cases e
    | inr q =>
      intro e
      rw [← Sum.inr.inj e]
      exact H q rfl
  · exact fun e => (Sum.inr.inj e).symm
theorem sc_26 {R B K C : Nat} {pk : Nat → Nat} {g : Nat} {tn sp : Nat → Nat} {i : Nat} : ∀ r, x_MisSound_c_26 t R B K C pk g tn sp i () = .inr r → r = 0 := fun r e => by
  refine xitR_res (fun r => r = 0) (fun k s r e => ?_) R 0 () r e
  revert e
  (try dsimp only)
  split
  · intro e
    cases e
  · exact fun e => (Sum.inr.inj e).symm
theorem sc_128 {R B K C : Nat} {pk : Nat → Nat} {g : Nat} {tn sp : Nat → Nat} : ∀ r, x_MisSound_c_128 t R B K C pk g tn sp () = .inr r → r = 0 := fun r e => by
  refine xitR_res (fun r => r = 0) (fun k s r e => ?_) R 0 () r e
  revert e
  (try dsimp only)
  split
  · intro e
    cases e
  · exact fun e => (Sum.inr.inj e).symm
theorem sc_2 {R B K C : Nat} {pk : Nat → Nat} {g : Nat} {tn sp : Nat → Nat} : ∀ r, x_MisSound_c_2 t R B K C pk g tn sp () = .inr r → r = 0 := fun r e => by
  refine xitR_res (fun r => r = 0) (fun i s r e => ?_) B 0 () r e
  have H := sc_26 (t := t) (R := R) (B := B) (K := K) (C := C) (pk := pk) (g := g) (tn := tn) (sp := sp) (i := i)
  revert e
  (try dsimp only)
  generalize x_MisSound_c_26 t R B K C pk g tn sp i () = w at H
  split
  · cases w with
    | inl s =>
      (try dsimp only)
      split
      · split
        · intro e
          cases e
        · split
          · intro e
            cases e
          · exact fun e => (Sum.inr.inj e).symm
      · intro e
        cases e
    | inr q =>
      intro e
      rw [← Sum.inr.inj e]
      exact H q rfl
  · exact fun e => (Sum.inr.inj e).symm
theorem sn_01 {R B K C : Nat} {pk : Nat → Nat} {g : Nat} {tn sp : Nat → Nat} : f_MisSound_n t R B K C pk g tn sp = 0 ∨ f_MisSound_n t R B K C pk g tn sp = 1 := by
  have H1 := sn_2 (t := t) (R := R) (B := B) (K := K) (C := C) (pk := pk) (g := g) (tn := tn) (sp := sp)
  have H2 := sn_128 (t := t) (R := R) (B := B) (K := K) (C := C) (pk := pk) (g := g) (tn := tn) (sp := sp)
  unfold f_MisSound_n
  generalize x_MisSound_n_2 t R B K C pk g tn sp () = w1 at H1 ⊢
  generalize x_MisSound_n_128 t R B K C pk g tn sp () = w2 at H2 ⊢
  generalize f_MareNamed t R B sp tn pk = n1
  skip
  cases w1 with
  | inl s =>
    cases w2 with
    | inl s =>
      (try dsimp only)
      split
      · split
        · exact .inl rfl
        · exact .inr rfl
      · exact .inr rfl
    | inr q => exact .inl (H2 q rfl)
  | inr q => exact .inl (H1 q rfl)
theorem sc_01 {R B K C : Nat} {pk : Nat → Nat} {g : Nat} {tn sp : Nat → Nat} : f_MisSound_c t R B K C pk g tn sp = 0 ∨ f_MisSound_c t R B K C pk g tn sp = 1 := by
  have H1 := sc_2 (t := t) (R := R) (B := B) (K := K) (C := C) (pk := pk) (g := g) (tn := tn) (sp := sp)
  have H2 := sc_128 (t := t) (R := R) (B := B) (K := K) (C := C) (pk := pk) (g := g) (tn := tn) (sp := sp)
  unfold f_MisSound_c
  generalize x_MisSound_c_2 t R B K C pk g tn sp () = w1 at H1 ⊢
  generalize x_MisSound_c_128 t R B K C pk g tn sp () = w2 at H2 ⊢
  generalize f_MareNamed t R B sp tn pk = n1
  generalize f_MisLogged t R B K = n2
  cases w1 with
  | inl s =>
    cases w2 with
    | inl s =>
      (try dsimp only)
      split
      · split
        · exact .inl rfl
        · split
          · exact .inl rfl
          · exact .inr rfl
      · split
        · exact .inl rfl
        · exact .inr rfl
    | inr q => exact .inl (H2 q rfl)
  | inr q => exact .inl (H1 q rfl)
theorem vS_01 : vS t = 0 ∨ vS t = 1 := by
  unfold vS
  split
  · exact sn_01
  · exact sc_01
end
theorem K_isSound : ∀ τ σ, LI τ σ → LI (u2 τ 5000 0 0) (g_isSound σ (aR σ) (aB σ) (aw σ) (aK σ)) := fun τ σ h9 => have j := h9.1.1.1; have r := h9.1.2.1.1; have h := h9.1.2.1.2; ⟨⟨⟨j.isSound j.hK.2, h9.1.1.2.isSound j.hK.2⟩, ⟨r.s0, h.s0 r⟩, h9.1.2.2.kept VM.s0 (VC.isSound j.hK.2)⟩, h9.2.s0⟩
theorem G_isSound {l : Launch} (hl : l.stackTraces = false) {LI' : XS9 → XS9 → Prop} (hq : ∀ τ σ, LI' τ σ → LI τ σ) (hrel : ∀ τ σ : XS9, LI' τ σ → f_isSound σ (aR σ) (aB σ) (aw σ) (aK σ) = f_MisSound τ (vS (u2 τ 5000 0 0))) (hk : ∀ τ σ, LI' τ σ → LI' (u2 τ 5000 0 0) (g_isSound σ (aR σ) (aB σ) (aw σ) (aK σ))) : IF_isSound l LI' := by
  intro z τ σ h8
  have h9 := hq _ _ h8
  have j := h9.1.1.1
  have r := h9.1.2.1.1
  have h := h9.1.2.1.2
  exact ⟨f_isSound σ (aR σ) (aB σ) (aw σ) (aK σ), g_isSound σ (aR σ) (aB σ) (aw σ) (aK σ), f_MisSound τ (vS (u2 τ 5000 0 0)), z, g_MisSound τ (vS (u2 τ 5000 0 0)), fun h hh => ct_X7_isSound hl j.hR.1 j.hR.2 j.hB.1 j.hB.2 j.hw.1 j.hw.2 j.hK.1 j.hK.2, fun h2 hh => ct_X14_isSound hl hh.bs vS_01 (soundNow hl r.s0 (h.s0 r) z h2 hh), hk τ σ h8, hrel τ σ  h8⟩
theorem JC.hho {σ : XS9} (j : JC σ) : ∀ r, r < aR σ → ∀ k, k < asp σ r → σ (1141 + r) k = -1 ∨ ∃ x, x < 10 ∧ σ (1141 + r) k = nI x := fun r hr k hk => by
  have h1 := j.hR.2
  have h2 := (j.hsp r (by omega)).2
  rcases j.2.2.2.2.2.2.2.2.2.2.2 r k (by omega) (by omega) with e | e
  · exact .inl e
  · exact .inr ⟨_, Nat.lt_succ_of_le e.2, e.1⟩
theorem K_digest : ∀ τ σ, LI τ σ → LI (u2 τ 5000 0 0) (g_digest σ (aK σ) (aB σ) (aR σ) (aC σ) (aw σ) (arg σ)) := fun τ σ h9 => have j := h9.1.1.1; have r := h9.1.2.1.1; have h := h9.1.2.1.2; ⟨⟨⟨j.digest j.hK.2, h9.1.1.2.digest j.hK.2⟩, ⟨r.s0, h.s0 r⟩, h9.1.2.2.kept VM.s0 (VC.digest j.hK.2)⟩, h9.2.s0⟩
theorem G_digest {l : Launch} (hl : l.stackTraces = false) {LI' : XS9 → XS9 → Prop} (hq : ∀ τ σ, LI' τ σ → LI τ σ) (hrel : ∀ τ σ : XS9, LI' τ σ → f_digest σ (aK σ) (aB σ) (aR σ) (aC σ) (aw σ) (acn σ) (asp σ) (arg σ) = f_Mdigest τ (mR τ) (mB τ) (mpk τ) (mgr τ) (mcd τ) (mK τ) (mC τ) (mg τ) (mtn τ) (msp τ) (mrg τ) (vS (u2 τ 5000 0 0))) (hk : ∀ τ σ, LI' τ σ → LI' (u2 τ 5000 0 0) (g_digest σ (aK σ) (aB σ) (aR σ) (aC σ) (aw σ) (arg σ))) : IF_digest l LI' := by
  intro z τ σ h8
  have h9 := hq _ _ h8
  have j := h9.1.1.1
  have r := h9.1.2.1.1
  have h := h9.1.2.1.2
  have ha := s0_am (x := 0) h9.2
  have hc := ha.cho (R := mR τ) (gr := mgr τ) (cd := mcd τ) r
  have hB6 := r.hB.2
  refine ⟨f_digest σ (aK σ) (aB σ) (aR σ) (aC σ) (aw σ) (acn σ) (asp σ) (arg σ), g_digest σ (aK σ) (aB σ) (aR σ) (aC σ) (aw σ) (arg σ), f_Mdigest τ (mR τ) (mB τ) (mpk τ) (mgr τ) (mcd τ) (mK τ) (mC τ) (mg τ) (mtn τ) (msp τ) (mrg τ) (vS (u2 τ 5000 0 0)), f_Mdigest τ (mR τ) (mB τ) (mpk τ) (mgr τ) (mcd τ) (mK τ) (mC τ) (mg τ) (mtn τ) (msp τ) (mrg τ) (vS (u2 τ 5000 0 0)), u2 τ 5000 0 0, fun h hh => ct_X7_digest hl j.hK.1 j.hK.2 j.hB.1 j.hB.2 j.hR.1 j.hR.2 j.hC.1 j.hC.2 j.hw.1 j.hw.2 j.hct j.ham j.hsp j.hho j.hrg hh.dig (hh.no (by decide) (by decide)) (hh.no (by decide) (by decide)), fun h2 hh => ct_X14_digest hl hh.bs hh.tl (fun q h1 _ => hh.no (by omega)) (fun r h1 _ => hh.no h1) r.me r.hR.1 r.hR.2 r.hB.1 r.hB.2 (pk := mpk τ) r.hpk (gr := mgr τ) r.hgr (cd := mcd τ) r.hcd r.hK.1 r.hK.2 r.hS.1 r.hS.2 r.hfl r.hg.1 r.hg.2 r.hw.1 r.hw.2 r.hkp (tn := mtn τ) r.htn (sp := msp τ) r.hsp (rg := mrg τ) r.hrg (fun i s _ _ => holder_ok) hc.pi ?_ (fun y => soundNow hl r.s0 (h.s0 r) y h2 hh), hk τ σ h8, hrel τ σ  h8⟩
  refine pay_term (pk := mpk τ) (by omega) hB6 (hc.of hB6 fun q hq => fr_Cpay ⟨by omega, hB6⟩) (fun a k ha9 hk => ?_) r.pk6
  rw [fr_Cpay ⟨by omega, hB6⟩, fr_Cinit (by omega)]
  exact ha a k ha9 hk
theorem K_chart : ∀ τ σ (t : Int32), LI τ σ → LI (u2 τ 5000 0 t) σ := fun τ σ t h9 => have j := h9.1.1.1; have r := h9.1.2.1.1; have h := h9.1.2.1.2; ⟨⟨h9.1.1, ⟨r.s0, h.s0 r⟩, h9.1.2.2.kept VM.s0 VC.rfl'⟩, h9.2.s0⟩
theorem G_chart {l : Launch} (hl : l.stackTraces = false) {LI' : XS9 → XS9 → Prop} (hq : ∀ τ σ, LI' τ σ → LI τ σ) (hrel : ∀ (τ σ : XS9) (p0 : Int32), LI' τ σ → relT (if n_lt p0 (aR σ) then some (2 * asp σ (cn p0) - 1, gD (σ (1141 + cn p0)) (fun _ => .int 0) (asp σ (cn p0))) else none) (if n_lt p0 (mR τ) then some (2 * msp τ (cn p0) - 1, gD (fun s => f_MholderNow (u2 τ 5000 0 0) (cn p0) (nI s) (mB τ) (mtn τ)) (fun _ => Value.int 0) (msp τ (cn p0))) else none) (if n_lt p0 (mR τ) then 0 else 1)) (hk : ∀ τ σ (t : Int32), LI' τ σ → LI' (u2 τ 5000 0 t) σ) : IF_chart l LI' := by
  intro z τ σ p0 h8
  have h9 := hq _ _ h8
  have j := h9.1.1.1
  have r := h9.1.2.1.1
  have h := h9.1.2.1.2
  refine ⟨(if n_lt p0 (aR σ) then some (2 * asp σ (cn p0) - 1, gD (σ (1141 + cn p0)) (fun _ => .int 0) (asp σ (cn p0))) else none), (if n_lt p0 (mR τ) then 0 else 1), (if n_lt p0 (mR τ) then some (2 * msp τ (cn p0) - 1, gD (fun s => f_MholderNow (u2 τ 5000 0 0) (cn p0) (nI s) (mB τ) (mtn τ)) (fun _ => Value.int 0) (msp τ (cn p0))) else none), fun h2 hh => ?_, fun p hp i hi => ?_, fun h2 hh => ?_, hk τ σ _ h8, hrel τ σ p0 h8⟩
  · have t := ct_X7_chart hl (h := h2) j.hR.1 j.hR.2 j.hsp j.hho hh.dig (hh.no (by decide) (by decide)) (hh.no (by decide) (by decide)) (hh.no (by decide) (by decide)) (hh.no (by decide) (by decide)) (x := p0)
    unfold o_chart g_chart at t
    by_cases q : n_lt p0 (aR σ)
    · rw [if_pos q, if_pos q] at t
      rw [if_pos q]
      exact t
    · rw [if_neg q, if_neg q] at t
      rw [if_neg q]
      exact t
  · by_cases q : n_lt p0 (aR σ)
    · rw [if_pos q] at hp
      rw [← Option.some.inj hp]
      exact gD_I i
    · rw [if_neg q] at hp
      cases hp
  · have t := ct_X14_chart hl (z := z) (h := h2) hh.bs hh.tl (fun q h1 _ => hh.no (by omega)) r.hR.1 r.hR.2 r.hB.1 r.hB.2 (pk := mpk τ) r.hpk r.hkp (tn := mtn τ) r.htn (sp := msp τ) r.hsp (x := p0) (fun i s _ _ => holder_ok)
    by_cases q : n_lt p0 (mR τ)
    · rw [if_pos q, if_pos q] at t
      rw [if_pos q, if_pos q]
      exact t
    · rw [if_neg q, if_neg q] at t
      rw [if_neg q, if_neg q]
      exact t
