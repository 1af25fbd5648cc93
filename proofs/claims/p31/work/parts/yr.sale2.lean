/-! ===== the sale's numbers ===== -/
def pb (b0 b1 b2 b3 b4 b5 : Bool) (i : Nat) : Bool := match i with | 0 => b0 | 1 => b1 | 2 => b2 | 3 => b3 | 4 => b4 | _ => b5
theorem bits6 : ∀ b0 b1 b2 b3 b4 b5 : Bool, f_bitCount (xit (fun i (s : Int32) => if pb b0 b1 b2 b3 b4 b5 i = true then s ||| (1 <<< ((nI i) &&& 31)) else s ||| 0) 6 0 0) = xit (fun i (s : Int32) => if pb b0 b1 b2 b3 b4 b5 i = true then s + 1 else s) 6 0 0 := by decide +kernel
theorem cnt_bits {f : Nat → Int32} : f_bitCount (xit (fun i (s : Int32) => if f i = -1 then s ||| 0 else s ||| (1 <<< ((nI i) &&& 31))) 6 0 0) = xit (fun i (s : Int32) => if f i = -1 then s else s + 1) 6 0 0 := by
  obtain ⟨b, eb⟩ : ∃ b : Nat → Bool, ∀ i, b i = true ↔ ¬ f i = -1 := ⟨fun i => decide (¬ f i = -1), fun i => decide_eq_true_iff⟩
  have hb : ∀ i, i < 6 → pb (b 0) (b 1) (b 2) (b 3) (b 4) (b 5) i = b i := fun i hi => by
    match i, hi with
    | 0, _ => rfl
    | 1, _ => rfl
    | 2, _ => rfl
    | 3, _ => rfl
    | 4, _ => rfl
    | 5, _ => rfl
  have e1 : xit (fun i (s : Int32) => if f i = -1 then s ||| 0 else s ||| (1 <<< ((nI i) &&& 31))) 6 0 0 = xit (fun i (s : Int32) => if pb (b 0) (b 1) (b 2) (b 3) (b 4) (b 5) i = true then s ||| (1 <<< ((nI i) &&& 31)) else s ||| 0) 6 0 0 := xit_cg (N := 6) (fun i s hi => by
    (try dsimp only)
    rw [hb i hi]
    by_cases c : f i = -1
    · rw [if_pos c, if_neg (fun w => (eb i).mp w c)]
    · rw [if_neg c, if_pos ((eb i).mpr c)]) 6 0 0 rfl
  have e2 : xit (fun i (s : Int32) => if f i = -1 then s else s + 1) 6 0 0 = xit (fun i (s : Int32) => if pb (b 0) (b 1) (b 2) (b 3) (b 4) (b 5) i = true then s + 1 else s) 6 0 0 := xit_cg (N := 6) (fun i s hi => by
    (try dsimp only)
    rw [hb i hi]
    by_cases c : f i = -1
    · rw [if_pos c, if_neg (fun w => (eb i).mp w c)]
    · rw [if_neg c, if_pos ((eb i).mpr c)]) 6 0 0 rfl
  rw [e1, e2]
  exact bits6 _ _ _ _ _ _
theorem all63 : ∀ B, B ≤ 6 → 63 &&& (2 ^ B - 1) = 2 ^ B - 1 ∧ 2 ^ B - 1 < 64 := by decide
section
variable {τ σ t : XS9} {x y : Int32} {B R K C : Nat} {cnt pk : Nat → Nat}
theorem sale_w (h : RM τ σ) (r : JR τ) (p : JP τ) (a : RA τ σ) : σ 1041 63 = g_Cinit (u2 τ 5000 0 0) (mR τ) (mB τ) (mpk τ) (mgr τ) (mcd τ) 9003 (2 ^ mB τ - 1) := by
  obtain ⟨e1, e2⟩ := all63 (mB τ) r.hB.2
  obtain ⟨W, b, f, fw, _, _, hw, _⟩ := h.pay r p a
  rw [(h.cho r p).2 _ e2, hw 63 (by decide), hw _ e2, ← e1, (fw.1 63 (by decide)).2.2]
theorem sale_n (h : RM τ σ) (r : JR τ) (p : JP τ) (a : RA τ σ) (e1 : t 5000 1 = τ 5000 1) (e5 : t 5005 = τ 5005) (e9 : ∀ j, j < 6 → t 9001 j = σ 1040 j) : f_winners σ = if t 5000 1 = 3 then f_MwinnersKept t (mB τ) else f_bitCount (f_Cwinners t) := by
  have B6 := r.hB.2
  unfold f_winners x_winners_4 f_MwinnersKept x_MwinnersKept_4 f_Cwinners x_Cwinners_4
  rw [e1, e5]
  by_cases c : τ 5000 1 = 3
  · rw [if_pos c]
    have w := (h.m (fun z => absurd (c ▸ z) (by decide))).2.1
    exact cnt_eq B6 (fun j hj => ((h.n3 c).1.1 j hj).symm) (fun j h1 h2 => w.hi h1 h2)
  · rw [if_neg c]
    have e : xit (fun i4 (s4 : Int32) => (if (t 9001 i4) = (-1) then s4 ||| 0 else s4 ||| (1 <<< ((nI i4) &&& 31)))) 6 0 0 = xit (fun i (s : Int32) => if σ 1040 i = -1 then s ||| 0 else s ||| (1 <<< ((nI i) &&& 31))) 6 0 0 := xit_cg (N := 6) (fun i s hi => by
      (try dsimp only)
      rw [e9 i hi]) 6 0 0 rfl
    rw [e, cnt_bits]
/-- clashes of all -/
theorem sale_c (h : RM τ σ) (r : JR τ) (p : JP τ) (e1 : t 5000 1 = τ 5000 1) (e : ∀ q, 5001 ≤ q → q < 6000 → t q = τ q) {g : Nat} : σ 1005 1 = x_Msale13_279 t (mR τ) (mB τ) K C pk g (mtn τ) (msp τ) 0 := by
  have R5 := r.hR.2
  have B6 := r.hB.2
  unfold x_Msale13_279
  rw [e1]
  by_cases c : τ 5000 1 = 3
  · rw [xitB_lall (g := fun i s => x_Msale13_302 t (mR τ) (mB τ) K C pk g (mtn τ) (msp τ) i s) (fun i s => if_pos c)]
    have H := (NM3.holds r h.k p c).of (v := t) fun q hq => e q (by omega) (by omega)
    have eT : mtn τ = fun o => cn (t 5007 o) := funext fun o => by
      rw [e 5007 (by decide) (by decide)]
    have one : ∀ i, i < mR τ → ∀ s, x_Msale13_302 t (mR τ) (mB τ) K C pk g (mtn τ) (msp τ) i s = s + nI (nsum (clN (nbK τ) (wK τ) (msp τ) (mtn τ) i (mtn τ i)) i) := fun i hi s => by
      have k := clO_m (σ := t) (v := t) (w := wK τ) (nb := nbK τ) (sp := msp τ) (sp2 := msp τ) (t := mtn τ i) H B6 hi R5 (fun o ho => ⟨rfl, (r.hsp o ho).2⟩) (fun o ho => by
        rw [e _ (by omega) (by omega)]
        exact (b_tst1 (by omega)).1)
      rw [← eT] at k
      have q : x_Msale13_302 t (mR τ) (mB τ) K C pk g (mtn τ) (msp τ) i s = x_Mkeep_79 t t i (mB τ) (msp τ) (mtn τ i) s := by
        unfold x_Msale13_302 x_Mkeep_79
        refine xit_cg (N := i) (fun o s2 ho => ?_) i 0 s (Nat.zero_add _)
        (try dsimp only)
        rw [eT, Int32.add_zero]
      rw [q]
      have ad := xit_add (step := fun i79 (s79 : Int32) => (if (((t (5010 + i) 3) >>> ((nI i79) &&& 31)) &&& 1) = 1 then s79 + (f_Mclashes t i (mtn τ i) i79 (cn (t 5007 i79)) (mB τ) (msp τ)) else s79 + 0)) (d := fun i79 => if (((t (5010 + i) 3) >>> ((nI i79) &&& 31)) &&& 1) = 1 then f_Mclashes t i (mtn τ i) i79 (cn (t 5007 i79)) (mB τ) (msp τ) else 0) (fun o s2 => by
        (try dsimp only)
        split
        · rfl
        · rfl) i 0 s
      exact ad.trans (congrArg (s + ·) k)
    refine ((h.n3 c).2.2).trans ?_
    exact ((xit_cg (N := mR τ) (step' := fun i (s : Int32) => s + nI (nsum (clN (nbK τ) (wK τ) (msp τ) (mtn τ) i (mtn τ i)) i)) (fun i s hi => one i hi s) (mR τ) 0 0 (Nat.zero_add _)).trans (xsum_n (t := fun i => nI (nsum (clN (nbK τ) (wK τ) (msp τ) (mtn τ) i (mtn τ i)) i)) (fun i _ => rfl))).symm
  · rw [(h.n0 c).2]
    cases hR : mR τ with
    | zero => rfl
    | succ n => rw [xitB_r (s' := 0) (if_neg c)]
/-- contradictions of all -/
theorem sale_k (h : RC τ σ) (r : JR τ) (a : RA τ σ) (z9 : RZ τ) (m : RM τ σ) (p : JP τ) (oz : OZ σ) (eB : aB σ = mB τ) {tn sp : Nat → Nat} (e7 : ∀ q, 7000 ≤ q → q < 8000 → t q = τ q) : f_allContradictions σ 2000 = x_Msale8_176 t (mR τ) (mB τ) K C (mpk τ) (mg τ) tn sp 0 := by
  have B6 := r.hB.2
  unfold f_allContradictions x_allContradictions_4 x_Msale8_176
  have e1 : xsum (fun i => σ 2006 i) 6 = xsum (fun i => σ 2006 i) (mB τ) := xsum_cut (fun j h1 h2 => (oz.1 j (by rw [eB]; exact h1) h2).2.2) B6
  refine Eq.trans e1 ?_
  refine xit_cg (N := mB τ) (fun i s hi => ?_) (mB τ) 0 0 (Nat.zero_add _)
  (try dsimp only)
  congr 1
  have F := facts_b h r a z9 m p (k := 10) hi (Nat.le_refl _)
  refine Eq.trans F ?_
  show (if u2 τ 5000 0 0 7000 25 = 0 then (0 : Int32) else u2 τ 5000 0 0 (7000 + 5) i) = if t 7000 25 = 0 then 0 else t (7000 + 5) i
  rw [u2_ne (by decide), u2_ne (by decide), e7 _ (by decide) (by decide), e7 _ (by decide) (by decide)]
theorem facts_s (h : RC τ σ) (r : JR τ) (a : RA τ σ) (z9 : RZ τ) (m : RM τ σ) (p : JP τ) (oz : OZ σ) (d : RD τ) (eB : aB σ = mB τ) (hcn : ∀ j, j < 6 → cnt j = pkB τ j) {k : Nat} (hk : k ≤ 16) : f_saleFact σ (mK τ) (mB τ) (mR τ) (mC τ) (aw σ) cnt k = f_MsaleNow (g_Cinit (u2 τ 5000 0 0) (mR τ) (mB τ) (mpk τ) (mgr τ) (mcd τ)) (mR τ) (mB τ) (mK τ) (mC τ) (mpk τ) (mg τ) (mtn τ) (msp τ) k := by
  have R5 := r.hR.2
  have B6 := r.hB.2
  obtain ⟨c1, c2⟩ := m.cho r p
  have sw := sale_w m r p a
  have lo : ∀ q, q < 9000 → g_Cinit (u2 τ 5000 0 0) (mR τ) (mB τ) (mpk τ) (mgr τ) (mcd τ) q = u2 τ 5000 0 0 q := fun q hq => cho_lo hq
  generalize g_Cinit (u2 τ 5000 0 0) (mR τ) (mB τ) (mpk τ) (mgr τ) (mcd τ) = t at c1 c2 sw lo ⊢
  have t5 : ∀ i, i ≠ 0 → t 5000 i = τ 5000 i := fun i hi => by rw [lo _ (by decide), u2_oi hi]
  have tq : ∀ q, 5001 ≤ q → q < 9000 → t q = τ q := fun q h1 h2 => by rw [lo _ h2, u2_ne (by omega)]
  match k, hk with
  | 0, _ =>
    show σ 1000 7 = t 5000 1
    rw [t5 1 (by decide)]
    exact h.st
  | 1, _ =>
    show (if (σ 1000 7) = 1 then nI (mK τ + 1) else nI (mK τ)) = (if (t 5000 1) = 0 then 0 else (if (t 5000 1) = 1 then nI (mK τ + 1) else nI (mK τ)))
    rw [t5 1 (by decide), h.st]
    by_cases c : τ 5000 1 = 0
    · rw [if_pos c, if_neg (fun z => absurd (c.symm.trans z) (by decide))]
      have : mK τ = 0 := by
        show cn (τ 5003 900) = 0
        rw [(r.hp0 c).2.2]
        rfl
      rw [this]
      rfl
    · rw [if_neg c]
  | 2, _ => rfl
  | 3, _ => rfl
  | 4, _ => rfl
  | 5, _ =>
    show σ 1001 10 = t 5000 2
    rw [t5 2 (by decide)]
    exact a.1.2.1
  | 6, _ =>
    show (if (σ 1001 11) = 0 then (0 : Int32) else 1) = if (t 5000 3) = 0 then 0 else 1
    rw [t5 3 (by decide), a.1.2.2]
  | 7, _ =>
    show σ 1000 8 = t 5000 4
    rw [t5 4 (by decide)]
    exact h.stp
  | 8, _ => exact sale_k (K := mK τ) (C := mC τ) (tn := mtn τ) (sp := msp τ) h r a z9 m p oz eB (fun q h1 h2 => tq q (by omega) (by omega))
  | 9, _ => exact sale_n m r p a (t5 1 (by decide)) (tq 5005 (by decide) (by decide)) (fun j hj => c1 j hj)
  | 10, _ => exact sw
  | 11, _ =>
    show xit (fun i4 s4 => s4 + (f_dueOf σ i4 (aw σ))) (mB τ) 0 0 = xit (fun i242 s242 => s242 + (f_Mdue t i242 (mB τ))) (mB τ) 0 0
    refine xit_cg (N := mB τ) (fun i s hi => ?_) (mB τ) 0 0 (Nat.zero_add _)
    (try dsimp only)
    rw [due_m m r p a h.st d (t5 1 (by decide)) (fun q h1 h2 => tq q h1 (by omega)) hi]
  | 12, _ =>
    show σ 1000 10 = t 5000 5
    rw [t5 5 (by decide)]
    exact m.d
  | 13, _ => exact sale_c (K := mK τ) (C := mC τ) (pk := mpk τ) (g := mg τ) m r p (t5 1 (by decide)) (fun q h1 h2 => tq q h1 (by omega))
  | 14, _ => exact sigs_eq m r p a hcn (fun q h1 h2 => tq q h1 (by omega))
  | 15, _ => rfl
  | 16, _ =>
    show σ 1000 11 = t 5000 6
    rw [t5 6 (by decide)]
    exact a.1.1
  | n + 17, hk => exact absurd hk (by omega)
theorem says_sale (h : RC τ σ) (r : JR τ) (a : RA τ σ) (z9 : RZ τ) (m : RM τ σ) (p : JP τ) (oz : OZ σ) (d : RD τ) (eB : aB σ = mB τ) (hcn : ∀ j, j < 6 → cnt j = pkB τ j) : g_Msale τ x (mR τ) (mB τ) (mpk τ) (mgr τ) (mcd τ) (mK τ) (mC τ) (mg τ) (mtn τ) (msp τ) 5000 0 = lw_k [eIAE] (o_sale σ x (mK τ) (mB τ) (mR τ) (mC τ) (aw σ) cnt) ∧ ∀ w, o_sale σ x (mK τ) (mB τ) (mR τ) (mC τ) (aw σ) cnt = .inl w → w = f_Msale τ x (mR τ) (mB τ) (mpk τ) (mgr τ) (mcd τ) (mK τ) (mC τ) (mg τ) (mtn τ) (msp τ) := by
  unfold g_Msale o_sale f_Msale
  by_cases c1 : n_bt x 0 16
  · have hy := bd.bt (m := 16) c1 (by decide) rfl (by decide)
    rw [if_pos c1, if_pos c1, if_pos c1]
    refine ⟨?_, fun w e => ?_⟩
    · rw [u2_ne (by decide), cho_lo (by decide), u2_at]
      rfl
    · rw [← Sum.inl.inj e]
      exact facts_s h r a z9 m p oz d eB hcn hy.2
  · rw [if_neg c1, if_neg c1, if_neg c1]
    exact bad rfl
end
