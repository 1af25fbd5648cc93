section
/-! ===== pure facts: what the reference's questions leave ===== -/
section
variable {σ : XS9} {R B C K g w : Nat} {pk gr : Nat → Nat} {cd : Nat → Nat → Nat} {tn sp rg : Nat → Nat}
theorem JR.ofRegion {x y : Int32} (h : JR σ) : JR (g_MofRegion σ x y R B C g) := by
  unfold g_MofRegion
  (repeat' split) <;> first | with_reducible exact h.s0 | with_reducible exact h.s00 | exact h.s0 | exact h.s00
theorem JR.ofBidder {x y : Int32} (h : JR σ) : JR (g_MofBidder σ x y R B pk g) := by
  unfold g_MofBidder
  (repeat' split) <;> first | with_reducible exact h.s0 | with_reducible exact h.s00 | exact h.s0 | exact h.s00
theorem JR.wants {x y v : Int32} (h : JR σ) : JR (g_Mwants σ x y v R B g) := by
  unfold g_Mwants
  (repeat' split) <;> first | with_reducible exact h.s0 | with_reducible exact h.s00 | exact h.s0 | exact h.s00
theorem JR.priceIn {x y : Int32} (h : JR σ) : JR (g_MpriceIn σ x y R K) := by
  unfold g_MpriceIn
  (repeat' split) <;> first | with_reducible exact h.s0 | with_reducible exact h.s00 | exact h.s0 | exact h.s00
theorem JR.codeIn {x y v : Int32} (h : JR σ) : JR (g_McodeIn σ x y v B K) := by
  unfold g_McodeIn
  (repeat' split) <;> first | with_reducible exact h.s0 | with_reducible exact h.s00 | exact h.s0 | exact h.s00
theorem JR.ofPackage {x y v : Int32} (h : JR σ) : JR (g_MofPackage σ x y v B pk) := by
  unfold g_MofPackage
  (repeat' split) <;> first | with_reducible exact h.s0 | with_reducible exact h.s00 | exact h.s0 | exact h.s00
theorem JR.pays {x y : Int32} (h : JR σ) : JR (g_Mpays σ x y B) := by
  unfold g_Mpays
  (repeat' split) <;> first | with_reducible exact h.s0 | with_reducible exact h.s00 | exact h.s0 | exact h.s00
theorem JR.holder {x y : Int32} (h : JR σ) : JR (g_Mholder σ x y R B tn sp) := by
  unfold g_Mholder
  (repeat' split) <;> first | with_reducible exact h.s0 | with_reducible exact h.s00 | exact h.s0 | exact h.s00
theorem JR.most {x y : Int32} (h : JR σ) : JR (g_Mmost σ x y R B g) := by
  unfold g_Mmost
  (repeat' split) <;> first | with_reducible exact h.s0 | with_reducible exact h.s00 | exact h.s0 | exact h.s00
theorem JR.contradicts {x : Int32} {n : Nat} (h : JR σ) : JR (g_Mcontradicts σ x R B g n) := by
  unfold g_Mcontradicts
  (repeat' split) <;> first | with_reducible exact h.s0 | with_reducible exact h.s00 | exact h.s0 | exact h.s00
theorem JR.isSound {v : Int32} (h : JR σ) : JR (g_MisSound σ v) := h.s0
/-- the Choice is made and dropped -/
theorem JR.cinit (h : JR σ) : JR (u2 (g_Cinit σ R B pk gr cd) 9000 20 0) := by
  have e : ∀ q, (q < 9000 ∨ 9005 < q) → u2 (g_Cinit σ R B pk gr cd) 9000 20 0 q = σ q := fun q hq => by rw [u2_ne (by omega), fr_Cinit hq]
  exact h.hi (fun q hq => e q (by omega)) ⟨⟨u2_at, by rw [e _ (by omega)]; exact h.2.1.2⟩, fun q a b => by rw [e q (by omega)]; exact h.2.2 q a b⟩
theorem JR.cpay {y : Nat} (h : JR σ) (hB6 : B ≤ 6) : JR (u2 (u2 (g_Cpay (g_Cinit σ R B pk gr cd) y 20000 B) 9000 20 0) 20000 20 0) := by
  have e : ∀ q, (q < 9000 ∨ 9005 < q) → q ≠ 20000 → u2 (u2 (g_Cpay (g_Cinit σ R B pk gr cd) y 20000 B) 9000 20 0) 20000 20 0 q = σ q := fun q hq h2 => by rw [u2_ne h2, u2_ne (by omega), fr_Cpay ⟨h2, hB6⟩, fr_Cinit hq]
  refine h.hi (fun q hq => e q (by omega) (by omega)) ⟨⟨?_, by rw [e _ (by omega) (by omega)]; exact h.2.1.2⟩, fun q a b => ?_⟩
  · rw [u2_ne (by omega)]
    exact u2_at
  · by_cases e1 : q = 20000
    · rw [e1]
      exact u2_at
    · rw [e q (by omega) e1]
      exact h.2.2 q a b
theorem JR.wins {x : Int32} (h : JR σ) : JR (g_Mwins σ x R B pk gr cd) := by
  unfold g_Mwins
  split
  · exact h.s0.cinit
  · exact h.s00
theorem JR.sale {x : Int32} (h : JR σ) : JR (g_Msale σ x R B pk gr cd K C g tn sp) := by
  unfold g_Msale
  split
  · exact h.s0.cinit
  · exact h.s00
theorem JR.worth {x : Int32} (h : JR σ) : JR (g_Mworth σ x R B pk gr cd) := by
  unfold g_Mworth
  split
  · exact h.s0.cinit
  · exact h.s00
theorem JR.wouldPay {x y : Int32} (h : JR σ) (hB6 : B ≤ 6) : JR (g_MwouldPay σ x y R B pk gr cd) := by
  unfold g_MwouldPay
  split
  · split
    · exact h.s0.cpay hB6
    · exact h.s00
  · exact h.s00
theorem JR.objects {x y : Int32} (h : JR σ) (hB6 : B ≤ 6) : JR (g_Mobjects σ x y R B pk gr cd) := by
  unfold g_Mobjects
  split
  · split
    · exact h.s0.cpay hB6
    · exact h.s00
  · exact h.s00
theorem cn6 {y : Int32} (h : n_bt y 1 6) : cn y ≤ 6 := (bd.bt (m := 6) h (by decide) rfl (by decide)).2
theorem JR.packs {x y : Int32} (h : JR σ) : JR (g_Mpacks σ x y R C rg) := by
  unfold g_Mpacks
  split
  · split
    · rename_i hy
      have hc := cn6 hy
      have e : ∀ q, q ≠ 20000 → u2 (g_Mcp (uR (u2 σ 5000 0 0) 20000 (rowN (cn y))) (nI (cn x)) 0 C rg 20000 (cn y)) 20000 20 0 q = u2 σ 5000 0 0 q := fun q h2 => by rw [u2_ne h2, fr_Mcp ⟨h2, hc⟩, uR_ne h2]
      have f := h.s0 (x := 0)
      refine f.hi (fun q hq => e q (by omega)) ⟨⟨by rw [e _ (by omega)]; exact f.2.1.1, by rw [e _ (by omega)]; exact f.2.1.2⟩, fun q a b => ?_⟩
      by_cases e1 : q = 20000
      · rw [e1]
        exact u2_at
      · rw [e q e1]
        exact f.2.2 q a b
    · exact h.s0
  · exact h.s0
end
/-! more -/
theorem JA.alt8 {σ σ2 : XS9} (h8n : bd 60 (σ2 8000 21) ∧ bd 60 (σ2 8000 22) ∧ bd 199 (σ2 8000 23) ∧ bd 199 (σ2 8000 24)) (h : JA σ) (e : ∀ q i, kr q i → (q ≠ 8000) → σ2 q i = σ q i) : JA σ2 := by
  obtain ⟨h1, h2, h3, h4, h5, h6, h7, h8, h9, h10, h11, h12, h13, h14, h15, h16, h17⟩ := h
  refine ⟨?_, ?_, ?_, ?_, ?_, ?_, ?_, ?_, ?_, ?_, ?_, ?_, ?_, ?_, ?_, ?_, ?_⟩
  · rw [e 5001 900 (by unfold kr; omega) (by omega)]; exact h1
  · rw [e 5002 900 (by unfold kr; omega) (by omega)]; exact h2
  · rw [e 5003 900 (by unfold kr; omega) (by omega)]; exact h3
  · rw [e 5000 1 (by unfold kr; omega) (by omega), e 7000 20 (by unfold kr; omega) (by omega), e 5003 900 (by unfold kr; omega) (by omega)]; exact h4
  · rw [e 7000 25 (by unfold kr; omega) (by omega), e 7000 20 (by unfold kr; omega) (by omega)]; exact h5
  · rw [e 5000 1 (by unfold kr; omega) (by omega), e 7000 25 (by unfold kr; omega) (by omega), e 7000 20 (by unfold kr; omega) (by omega)]; exact h6
  · intro b hb
    rcases hb with rfl | rfl
    · rw [e 7000 21 (by unfold kr; omega) (by omega), e 7000 22 (by unfold kr; omega) (by omega), e 7000 23 (by unfold kr; omega) (by omega), e 7000 24 (by unfold kr; omega) (by omega)]; exact h7 7000 (.inl rfl)
    · exact h8n
  · rw [e 7000 22 (by unfold kr; omega) (by omega), e 7000 21 (by unfold kr; omega) (by omega)]; exact h8
  · intro j hj
    rw [e (5030 + j) 900 (by unfold kr; omega) (by omega)]; exact h9 j hj
  · intro j hj
    rw [e (5020 + j) 3 (by unfold kr; omega) (by omega)]; exact h10 j hj
  · intro j k hj hk
    rw [e (5030 + j) (2 * k) (by unfold kr; omega) (by omega)]; exact h11 j k hj hk
  · rw [e 5004 900 (by unfold kr; omega) (by omega)]; exact h12
  · intro q hq
    rw [e 5004 900 (by unfold kr; omega) (by omega)] at hq
    have hq10 : q < 10 := by have := h12.2; omega
    rw [e 5004 (2 * q) (by unfold kr; omega) (by omega), e 5001 900 (by unfold kr; omega) (by omega)]; exact h13 q hq
  · intro r hr
    rw [e 5007 r (by unfold kr; omega) (by omega)]; exact h14 r hr
  · intro r hr
    rw [e (5010 + r) 0 (by unfold kr; omega) (by omega)]; exact h15 r hr
  · intro hs j hj
    rw [e 5000 1 (by unfold kr; omega) (by omega)] at hs
    rw [e 5002 900 (by unfold kr; omega) (by omega)] at hj
    have hj6 : j < 6 := by have := h2.2; omega
    rw [e 5005 j (by unfold kr; omega) (by omega), e (5030 + j) 900 (by unfold kr; omega) (by omega)]; exact h16 hs j hj
  · rw [e 5000 7 (by unfold kr; omega) (by omega)]; exact h17
section
variable {σ : XS9} {R B C K g w : Nat} {rg : Nat → Nat}
theorem JR.clear {x : Int32} (h : JR σ) : JR (g_Mclear σ x R C rg) := by
  unfold g_Mclear
  split
  · rename_i hy
    have hc := cn6 hy
    have f := h.s0 (x := 0)
    have e : ∀ q, q ≠ 20000 → g_MclearNow (u2 σ 5000 0 0) (cn x) R C rg q = u2 σ 5000 0 0 q := fun q h2 => fr_MclearNow ⟨h2, hc⟩
    refine f.hi (fun q hq => e q (by omega)) ⟨⟨by rw [e _ (by omega)]; exact f.2.1.1, by rw [e _ (by omega)]; exact f.2.1.2⟩, fun q a b => ?_⟩
    by_cases e1 : q = 20000
    · rw [e1]
      unfold g_MclearNow
      exact u2_at
    · rw [e q e1]
      exact f.2.2 q a b
  · exact h.s00
theorem JR.anew8 {t : XS9} {m : Nat} (h : JR σ) (hm : m ≤ 60) (hp : PA9 σ m t) : JR (u2 t 8000 20 0) := by
  obtain ⟨-, p1, p2, p3, p4, pe⟩ := hp
  refine ⟨h.1.alt8 ⟨?_, ?_, ?_, ?_⟩ (fun q i hk hq => ?_), ⟨⟨?_, u2_at⟩, fun q a b => ?_⟩⟩
  · rw [u2_oi (by decide), p1]; exact bd.nat hm (by decide)
  · rw [u2_oi (by decide), p2]; exact bd.nat hm (by decide)
  · rw [u2_oi (by decide), p3]; exact bd.nat (by omega) (by decide)
  · rw [u2_oi (by decide), p4]; exact bd.nat (by omega) (by decide)
  · rw [u2_ne hq, pe q (by unfold kr at hk; omega)]
  · rw [u2_ne (by decide), pe _ (by omega)]; exact h.2.1.1
  · rw [u2_ne (by omega), pe _ (by omega)]; exact h.2.2 q a b
theorem JR.anew {x y v u : Int32} (h : JR σ) (hp : ∃ m, m ≤ 60 ∧ PA9 (u2 σ 5000 0 0) m (g_MrunAnew (u2 σ 5000 0 0) (nI (rn x + 1)) (cn y) (cn v) u R B K)) : JR (g_Manew σ x y v u R B K) := by
  obtain ⟨m, hm, hp⟩ := hp
  unfold g_Manew
  split
  · split
    · split
      · split
        · exact h.s0.anew8 hm hp
        · exact h.s00
      · exact h.s00
    · exact h.s00
  · exact h.s00
end
/-- p2's own: the stage's being 0, the numbers of regions and of bidders are the same on both sides -/
def R2 (τ σ : XS9) : Prop := σ 1001 4 = τ 5001 900 ∧ σ 1001 9 = τ 5002 900 ∧ (σ 1000 7 = 0 ↔ τ 5000 1 = 0)
theorem R2.of {τ σ τ2 σ2 : XS9} (h : R2 τ σ) (c1 : σ2 1001 4 = σ 1001 4) (c2 : σ2 1001 9 = σ 1001 9) (c3 : σ2 1000 7 = 0 ↔ σ 1000 7 = 0) (m1 : τ2 5001 900 = τ 5001 900) (m2 : τ2 5002 900 = τ 5002 900) (m3 : τ2 5000 1 = 0 ↔ τ 5000 1 = 0) : R2 τ2 σ2 :=
  ⟨by rw [c1, m1]; exact h.1, by rw [c2, m2]; exact h.2.1, c3.trans (h.2.2.trans m3.symm)⟩
theorem R2.s0 {τ σ : XS9} (h : R2 τ σ) {x : Int32} : R2 (u2 τ 5000 0 x) σ := h.of rfl rfl Iff.rfl (by rw [u2_ne (by omega)]) (by rw [u2_ne (by omega)]) (by rw [u2_oi (by decide)])
theorem R2.bg {τ τ2 σ σ2 : XS9} (h : R2 τ σ) (c1 : σ2 1001 4 = τ2 5001 900) (c2 : σ2 1001 9 = τ2 5002 900) (c3 : σ2 1000 = σ 1000) (m3 : τ2 5000 1 = τ 5000 1) : R2 τ2 (g_begin σ2 2000) := by
  have e : ∀ q, q < 2000 → g_begin σ2 2000 q = σ2 q := fun q hq => fr_begin (by omega)
  exact ⟨by rw [e _ (by decide)]; exact c1, by rw [e _ (by decide)]; exact c2, by rw [e _ (by decide), c3, m3]; exact h.2.2⟩
theorem R2.region {τ σ : XS9} {x y v : Int32} {R : Nat} (h : R2 τ σ) (hR5 : R ≤ 5) : R2 (g_Mregion τ x y v R) (g_region σ x y v R) := by
  have s00 : ∀ x9, R2 (u2 (u2 τ 5000 0 0) 5000 0 x9) σ := fun x9 => h.s0.s0
  unfold g_Mregion g_region
  by_cases q1 : n_bt x 1 5
  · by_cases q2 : n_bt y 1 9
    · by_cases q3 : n_bt v 1 999
      · by_cases q4 : σ 1000 7 = 0
        · have q5 : τ 5000 1 = 0 := h.2.2.mp q4
          by_cases q6 : R < 5
          · have c6 : nI R < 5 := (nI_ltI (a := R) (b := 5) (by omega) (by omega)).mpr q6
            have d6 : ¬ nI R = 5 := fun e => by
              have := congrArg cn e
              rw [cn_nI (by omega)] at this
              exact absurd this (by show ¬ R = 5; omega)
            rw [if_pos q1, if_pos q2, if_pos q3, if_pos q5, if_neg d6, if_pos q1, if_pos q2, if_pos q3, if_pos q4, if_pos c6]
            refine h.bg ?_ ?_ ?_ ?_
            · unfold g_addRegion
              rw [u2_at, u2_at]
            · unfold g_addRegion
              rw [u2_oi (by decide), u2_ne (by decide), u2_ne (by decide), u2_ne (by decide), u2_ne (by decide), uR_ne (by omega), u2_ne (by decide)]
              exact h.2.1
            · unfold g_addRegion
              rw [u2_ne (by decide), u2_ne (by decide), u2_ne (by decide), u2_ne (by decide)]
            · rw [u2_ne (by decide), uR_ne (by omega), u2_oi (by decide)]
          · obtain rfl : R = 5 := by omega
            rw [if_pos q1, if_pos q2, if_pos q3, if_pos q5, if_pos (show nI 5 = 5 from rfl), if_pos q1, if_pos q2, if_pos q3, if_pos q4, if_neg (by decide)]
            exact s00 2
        · have q5 : ¬ τ 5000 1 = 0 := fun e => q4 (h.2.2.mpr e)
          rw [if_pos q1, if_pos q2, if_pos q3, if_neg q5, if_pos q1, if_pos q2, if_pos q3, if_neg q4]
          exact s00 2
      · rw [if_pos q1, if_pos q2, if_neg q3, if_pos q1, if_pos q2, if_neg q3]
        exact s00 1
    · rw [if_pos q1, if_neg q2, if_pos q1, if_neg q2]
      exact s00 1
  · rw [if_neg q1, if_neg q1]
    exact s00 1
/-- what p2 compares -/
theorem R2.says {τ σ : XS9} {x y v : Int32} {R : Nat} (h : R2 τ σ) (hR5 : R ≤ 5) : g_Mregion τ x y v R 5000 0 = lw_k [eIAE, eISE] (o_region σ x y v R) ∧ ∀ w, o_region σ x y v R = .inl w → w = f_Mregion τ x y v R := by
  have bad1 : ∀ (o : Int32 ⊕ String) (m : Int32), o = .inr eIAE → u2 (u2 τ 5000 0 0) 5000 0 1 5000 0 = lw_k [eIAE, eISE] o ∧ ∀ w, o = .inl w → w = m := fun o m e => by
    rw [e]
    exact ⟨u2_at, fun w z => by cases z⟩
  have bad2 : ∀ (o : Int32 ⊕ String) (m : Int32), o = .inr eISE → u2 (u2 τ 5000 0 0) 5000 0 2 5000 0 = lw_k [eIAE, eISE] o ∧ ∀ w, o = .inl w → w = m := fun o m e => by
    rw [e]
    exact ⟨u2_at, fun w z => by cases z⟩
  unfold g_Mregion
  by_cases q1 : n_bt x 1 5
  · by_cases q2 : n_bt y 1 9
    · by_cases q3 : n_bt v 1 999
      · by_cases q4 : σ 1000 7 = 0
        · have q5 : τ 5000 1 = 0 := h.2.2.mp q4
          by_cases q6 : R < 5
          · have c6 : nI R < 5 := (nI_ltI (a := R) (b := 5) (by omega) (by omega)).mpr q6
            have d6 : ¬ nI R = 5 := fun e => by
              have := congrArg cn e
              rw [cn_nI (by omega)] at this
              exact absurd this (by show ¬ R = 5; omega)
            rw [if_pos q1, if_pos q2, if_pos q3, if_pos q5, if_neg d6]
            unfold o_region f_Mregion
            rw [if_pos q1, if_pos q2, if_pos q3, if_pos q4, if_pos c6, if_pos q1, if_pos q2, if_pos q3, if_pos q5, if_neg d6]
            refine ⟨?_, fun w e => (Sum.inl.inj e).symm⟩
            rw [u2_ne (by decide), uR_ne (by omega), u2_at]
            rfl
          · obtain rfl : R = 5 := by omega
            rw [if_pos q1, if_pos q2, if_pos q3, if_pos q5, if_pos (show nI 5 = 5 from rfl)]
            refine bad2 _ _ ?_
            unfold o_region
            rw [if_pos q1, if_pos q2, if_pos q3, if_pos q4, if_neg (by decide)]
        · have q5 : ¬ τ 5000 1 = 0 := fun e => q4 (h.2.2.mpr e)
          rw [if_pos q1, if_pos q2, if_pos q3, if_neg q5]
          refine bad2 _ _ ?_
          unfold o_region
          rw [if_pos q1, if_pos q2, if_pos q3, if_neg q4]
      · rw [if_pos q1, if_pos q2, if_neg q3]
        refine bad1 _ _ ?_
        unfold o_region
        rw [if_pos q1, if_pos q2, if_neg q3]
    · rw [if_pos q1, if_neg q2]
      refine bad1 _ _ ?_
      unfold o_region
      rw [if_pos q1, if_neg q2]
  · rw [if_neg q1]
    refine bad1 _ _ ?_
    unfold o_region
    rw [if_neg q1]
end
section
/-! ===== pure facts: what keeps the relation ===== -/
/-- on the class's side -/
def VC (σ σ2 : XS9) : Prop := σ2 1001 4 = σ 1001 4 ∧ σ2 1001 9 = σ 1001 9 ∧ (σ2 1000 7 = 0 ↔ σ 1000 7 = 0)
/-- on the reference's -/
def VM (τ τ2 : XS9) : Prop := τ2 5001 900 = τ 5001 900 ∧ τ2 5002 900 = τ 5002 900 ∧ (τ2 5000 1 = 0 ↔ τ 5000 1 = 0)
theorem R2.kept {τ τ2 σ σ2 : XS9} (h : R2 τ σ) (m : VM τ τ2) (c : VC σ σ2) : R2 τ2 σ2 := h.of c.1 c.2.1 c.2.2 m.1 m.2.1 m.2.2
theorem VC.rfl' {σ : XS9} : VC σ σ := ⟨rfl, rfl, Iff.rfl⟩
theorem VM.rfl' {τ : XS9} : VM τ τ := ⟨rfl, rfl, Iff.rfl⟩
theorem VC.trans {σ σ2 σ3 : XS9} (a : VC σ σ2) (b : VC σ2 σ3) : VC σ σ3 := ⟨b.1.trans a.1, b.2.1.trans a.2.1, b.2.2.trans a.2.2⟩
theorem VM.trans {τ τ2 τ3 : XS9} (a : VM τ τ2) (b : VM τ2 τ3) : VM τ τ3 := ⟨b.1.trans a.1, b.2.1.trans a.2.1, b.2.2.trans a.2.2⟩
theorem VC.rows {σ σ2 : XS9} (h0 : σ2 1000 = σ 1000) (h1 : σ2 1001 = σ 1001) : VC σ σ2 := ⟨by rw [h1], by rw [h1], by rw [h0]⟩
theorem VM.rows {τ τ2 : XS9} (h0 : τ2 5000 = τ 5000) (h1 : τ2 5001 = τ 5001) (h2 : τ2 5002 = τ 5002) : VM τ τ2 := ⟨by rw [h1], by rw [h2], by rw [h0]⟩
theorem VC.set {σ : XS9} {q i : Nat} {x : Int32} (hq : ¬ ((q = 1001 ∧ (i = 4 ∨ i = 9)) ∨ (q = 1000 ∧ i = 7))) : VC σ (u2 σ q i x) :=
  ⟨u2_o (fun a b => by omega), u2_o (fun a b => by omega), by rw [u2_o (fun a b => by omega)]⟩
theorem VM.set {τ : XS9} {q i : Nat} {x : Int32} (hq : ¬ ((q = 5001 ∧ i = 900) ∨ (q = 5002 ∧ i = 900) ∨ (q = 5000 ∧ i = 1))) : VM τ (u2 τ q i x) :=
  ⟨u2_o (fun a b => by omega), u2_o (fun a b => by omega), by rw [u2_o (fun a b => by omega)]⟩
theorem VM.s0 {τ : XS9} {x : Int32} : VM τ (u2 τ 5000 0 x) := VM.set (by decide)
theorem VM.s00 {τ : XS9} {x : Int32} : VM τ (u2 (u2 τ 5000 0 0) 5000 0 x) := VM.s0.trans VM.s0
section
variable {σ τ : XS9} {R B C K g w : Nat} {gr cnt sp pk tn rg : Nat → Nat} {cd : Nat → Nat → Nat}
theorem VC.border {x y : Int32} : VC σ (g_border σ x y R) := by
  unfold g_border
  (repeat' split) <;> first | with_reducible exact VC.rfl' | (unfold g_addBorder; exact (VC.set (q := 1013) (by omega)).trans (VC.set (q := 1013) (by omega))) | exact VC.rfl'
theorem VC.rules {x y : Int32} : VC σ (g_rules σ x y) := by
  unfold g_rules
  (repeat' split) <;> first | with_reducible exact VC.rfl' | exact (VC.set (by decide)).trans (VC.set (by decide)) | exact VC.rfl'
theorem VC.step {x : Int32} : VC σ (g_step σ x) := by
  unfold g_step
  (repeat' split) <;> first | with_reducible exact VC.rfl' | exact VC.set (by decide) | exact VC.rfl'
theorem VC.wish {x y z : Int32} : VC σ (g_wish σ x y z R B) := by
  unfold g_wish
  (repeat' split) <;> first | with_reducible exact VC.rfl' | exact VC.set (q := 2003) (by omega) | exact VC.rfl'
theorem VC.waive {x : Int32} : VC σ (g_waive σ x B) := by
  unfold g_waive
  (repeat' split) <;> first | with_reducible exact VC.rfl' | (unfold g_useWaiver; exact (VC.set (q := 2005) (by omega)).trans (VC.set (q := 2000) (by omega))) | exact VC.rfl'
theorem VC.station {x y : Int32} : VC σ (g_station σ x y R C) := by
  unfold g_station
  (repeat' split) <;> first | with_reducible exact VC.rfl' | (unfold g_add; exact ((VC.set (q := 1151) (by omega)).trans (VC.set (q := 1150) (by omega))).trans (VC.set (q := 1006) (by omega))) | exact VC.rfl'
theorem VC.ask {x y : Int32} : VC σ (g_ask σ x y C) := by
  unfold g_ask
  (repeat' split) <;> first | with_reducible exact VC.rfl' | exact VC.set (q := 1150) (by omega) | exact VC.rfl'
theorem VC.packs {x y : Int32} : VC σ (g_packs σ x y C rg) := by
  unfold g_packs
  (repeat' split) <;> first | with_reducible exact VC.rfl' | exact VC.rows (fr_packM (by omega)) (fr_packM (by omega)) | exact VC.rfl'
theorem VC.channel {x y z : Int32} : VC σ (g_channel σ x y z C rg) := by
  unfold g_channel
  (repeat' split) <;> first | with_reducible exact VC.rfl' | exact VC.rows (fr_packM (by omega)) (fr_packM (by omega)) | exact VC.rfl'
theorem VC.clear {x : Int32} : VC σ (g_clear σ x C rg) := by
  unfold g_clear
  (repeat' split) <;> first | with_reducible exact VC.rfl' | exact VC.rows (fr_cheapest (by omega)) (fr_cheapest (by omega)) | exact VC.rfl'
theorem VC.anew {x y z v : Int32} (hK60 : K ≤ 60) : VC σ (g_anew σ x y z v R B K) := by
  unfold g_anew
  (repeat' split) <;> first | with_reducible exact VC.rfl' | exact VC.rows (fr_runLog hK60 (by omega)) (fr_runLog hK60 (by omega)) | exact VC.rfl'
theorem VC.isSound (hK60 : K ≤ 60) : VC σ (g_isSound σ R B w K) := VC.rows (fr_runLog hK60 (by omega)) (fr_runLog hK60 (by omega))
theorem VC.digest (hK60 : K ≤ 60) : VC σ (g_digest σ K B R C w rg) := by
  unfold g_digest g_dgS
  split
  · exact ((VC.rows (fr_cheapest (by omega)) (fr_cheapest (by omega))).trans (VC.rows (fr_cheapest (by omega)) (fr_cheapest (by omega)))).trans (VC.isSound hK60)
  · exact VC.isSound hK60
theorem VC.knock : VC σ (g_knock σ) := VC.set (by decide)
theorem VC.find : VC σ (g_find σ) := VC.rows (fr_find (by omega)) (fr_find (by omega))
theorem VC.addM {i : Nat} {x y : Int32} (hi : i < 6) (hg : ∀ i, i < 6 → gr i < 4) (hc : cnt i ≤ 6) : VC σ (g_addM σ i x y R B gr cnt) := VC.rows (fr_addM ⟨hi, by omega, hg⟩ hc) (fr_addM ⟨hi, by omega, hg⟩ hc)
theorem VC.offer {x y z : Int32} (hB6 : B ≤ 6) (hg : ∀ i, i < 6 → gr i < 4) (hc : ∀ i, i < 6 → cnt i ≤ 6) : VC σ (g_offer σ x y z R B gr cnt) := by
  unfold g_offer
  split
  · rename_i hx
    have hx6 : cn x < 6 := by have := hx.2; omega
    split
    · exact VC.rfl'
    · split
      · split
        · split
          · exact VC.rfl'
          · split
            · exact VC.rfl'
            · exact (VC.addM hx6 hg (hc _ hx6)).trans VC.find
        · exact VC.rfl'
      · exact VC.rfl'
  · exact VC.rfl'
theorem VC.give (hR5 : R ≤ 5) : VC σ (g_give σ R sp) := VC.rows (fr_give hR5 ⟨by omega, by omega⟩) (fr_give hR5 ⟨by omega, by omega⟩)
theorem VC.settle {x : Int32} (hR5 : R ≤ 5) : VC σ (g_settle σ x R sp) := by
  unfold g_settle
  split
  · split
    · rename_i h2
      refine VC.trans (σ2 := u2 (u2 σ 1000 9 x) 1000 7 3) ⟨by rw [u2_ne (by decide), u2_ne (by decide)], by rw [u2_ne (by decide), u2_ne (by decide)], ?_⟩ (VC.give hR5)
      rw [u2_at, h2]
      exact ⟨fun e => absurd e (by decide), fun e => absurd e (by decide)⟩
    · exact VC.rfl'
  · exact VC.rfl'
theorem VC.leaveOut {i : Nat} : VC σ (g_leaveOut σ i) := VC.rows (fr_leaveOut (by omega)) (fr_leaveOut (by omega))
theorem VC.fail {x : Int32} (hR5 : R ≤ 5) : VC σ (g_fail σ x R B sp) := by
  unfold g_fail
  (repeat' split) <;> first | with_reducible exact VC.rfl' | exact (((VC.set (by decide)).trans VC.leaveOut).trans VC.find).trans (VC.give hR5) | exact VC.rfl'
/-! the reference's -/
theorem VM.border {x y : Int32} (hR5 : R ≤ 5) : VM τ (g_Mborder τ x y R) := by
  unfold g_Mborder
  split
  · rename_i hx
    have hx2 := hx.2
    split
    · rename_i hy
      have hy2 := hy.2
      (repeat' split) <;> first | with_reducible exact VM.s00 | exact (VM.s0.trans (VM.set (by omega))).trans (VM.set (by omega)) | exact VM.s00
    · exact VM.s00
  · exact VM.s00
theorem VM.rules {x y : Int32} : VM τ (g_Mrules τ x y) := by
  unfold g_Mrules
  (repeat' split) <;> first | with_reducible exact VM.s00 | exact (VM.s0.trans (VM.set (by decide))).trans (VM.set (by decide)) | exact VM.s00
theorem VM.step {x : Int32} : VM τ (g_Mstep τ x) := by
  unfold g_Mstep
  (repeat' split) <;> first | with_reducible exact VM.s00 | exact VM.s0.trans (VM.set (by decide)) | exact VM.s00
theorem VM.wish {x y v : Int32} : VM τ (g_Mwish τ x y v R B g) := by
  unfold g_Mwish
  (repeat' split) <;> first | with_reducible exact VM.s00 | exact VM.s0.trans (VM.set (by omega)) | exact VM.s00
theorem VM.waive {x : Int32} : VM τ (g_Mwaive τ x B g w) := by
  unfold g_Mwaive
  (repeat' split) <;> first | with_reducible exact VM.s00 | exact (VM.s0.trans (VM.set (by omega))).trans (VM.set (by omega)) | exact VM.s00
theorem VM.knock : VM τ (g_Mknock τ) := VM.s0.trans (VM.set (by decide))
theorem VM.station {x y : Int32} : VM τ (g_Mstation τ x y R C) := by
  unfold g_Mstation
  (repeat' split) <;> first | with_reducible exact VM.s00 | (unfold g_addI; exact (((VM.s0.trans (VM.set (by omega))).trans (VM.set (by omega))).trans (VM.set (by omega))).trans (VM.set (by omega))) | exact VM.s00
theorem VM.ask {x y : Int32} : VM τ (g_Mask τ x y C) := by
  unfold g_Mask
  (repeat' split) <;> first | with_reducible exact VM.s00 | (unfold g_setS; exact (VM.s0.trans (VM.set (by omega))).trans (VM.set (by omega))) | exact VM.s00
theorem VM.offer {x y v : Int32} : VM τ (g_Moffer τ x y v R B pk) := by
  unfold g_Moffer
  (repeat' split) <;> first | with_reducible exact VM.s00 | (unfold g_Madd g_addI; exact (((VM.s0.trans (VM.set (by omega))).trans (VM.set (by omega))).trans (VM.set (by omega))).trans (VM.set (by omega))) | exact VM.s00
theorem VM.hi {τ2 : XS9} (e : ∀ q, q ≤ 8000 → τ2 q = τ q) : VM τ τ2 := VM.rows (e _ (by omega)) (e _ (by omega)) (e _ (by omega))
theorem VM.cinit {R B : Nat} {pk gr : Nat → Nat} {cd : Nat → Nat → Nat} : VM τ (u2 (g_Cinit τ R B pk gr cd) 9000 20 0) := VM.hi fun q hq => by rw [u2_ne (by omega), fr_Cinit (by omega)]
theorem VM.wins {x : Int32} : VM τ (g_Mwins τ x R B pk gr cd) := by
  unfold g_Mwins
  (repeat' split) <;> first | with_reducible exact VM.s00 | exact VM.s0.trans VM.cinit | exact VM.s00
theorem VM.sale {x : Int32} : VM τ (g_Msale τ x R B pk gr cd K C g tn sp) := by
  unfold g_Msale
  (repeat' split) <;> first | with_reducible exact VM.s00 | exact VM.s0.trans VM.cinit | exact VM.s00
theorem VM.worth {x : Int32} : VM τ (g_Mworth τ x R B pk gr cd) := by
  unfold g_Mworth
  (repeat' split) <;> first | with_reducible exact VM.s00 | exact VM.s0.trans VM.cinit | exact VM.s00
theorem VM.packs {x y : Int32} : VM τ (g_Mpacks τ x y R C rg) := by
  unfold g_Mpacks
  split
  · split
    · rename_i hy
      have hc := cn6 hy
      exact VM.s0.trans (VM.hi fun q hq => by rw [u2_ne (by omega), fr_Mcp ⟨by omega, hc⟩, uR_ne (by omega)])
    · exact VM.s0
  · exact VM.s0
theorem VM.clear {x : Int32} : VM τ (g_Mclear τ x R C rg) := by
  unfold g_Mclear
  split
  · rename_i hy
    exact VM.s0.trans (VM.hi fun q hq => fr_MclearNow ⟨by omega, cn6 hy⟩)
  · exact VM.s00
end
end
section
/-! ===== pure facts: the relation through bidder and the clock's beginning ===== -/
section
variable {σ τ : XS9} {R B C K g w : Nat} {gr cnt sp pk tn rg : Nat → Nat} {cd : Nat → Nat → Nat}
theorem R2.bidder {x y v u : Int32} (h : R2 τ σ) (hB6 : B ≤ 6) : R2 (g_Mbidder τ x y v u B) (g_bidder σ x y v u B) := by
  have s00 : ∀ x9, R2 (u2 (u2 τ 5000 0 0) 5000 0 x9) σ := fun x9 => h.s0.s0
  unfold g_Mbidder g_bidder
  by_cases q1 : n_bt x 0 99999
  · by_cases q2 : n_bt y 1 200
    · by_cases q3 : n_bt v 0 30
      · by_cases q7 : n_bt u 0 3
        · by_cases q4 : σ 1000 7 = 0
          · have q5 : τ 5000 1 = 0 := h.2.2.mp q4
            by_cases q6 : B < 6
            · have c6 : nI B < 6 := (nI_ltI (a := B) (b := 6) (by omega) (by omega)).mpr q6
              have d6 : ¬ nI B = 6 := fun e => by
                have := congrArg cn e
                rw [cn_nI (by omega)] at this
                exact absurd this (by show ¬ B = 6; omega)
              rw [if_pos q1, if_pos q2, if_pos q3, if_pos q7, if_pos q5, if_neg d6, if_pos q1, if_pos q2, if_pos q3, if_pos q7, if_pos q4, if_pos c6]
              refine h.bg ?_ ?_ ?_ ?_
              · unfold g_addBidder
                rw [u2_oi (by decide), u2_ne (by decide), u2_ne (by decide), u2_ne (by decide), u2_ne (by decide), u2_ne (by decide), u2_ne (by omega), uR_ne (by omega), u2_ne (by decide)]
                exact h.1
              · unfold g_addBidder
                rw [u2_at, u2_at]
              · unfold g_addBidder
                rw [u2_ne (by decide), u2_ne (by decide), u2_ne (by decide), u2_ne (by decide), u2_ne (by decide)]
              · rw [u2_ne (by decide), u2_ne (by omega), uR_ne (by omega), u2_oi (by decide)]
            · obtain rfl : B = 6 := by omega
              rw [if_pos q1, if_pos q2, if_pos q3, if_pos q7, if_pos q5, if_pos (show nI 6 = 6 from rfl), if_pos q1, if_pos q2, if_pos q3, if_pos q7, if_pos q4, if_neg (by decide)]
              exact s00 2
          · have q5 : ¬ τ 5000 1 = 0 := fun e => q4 (h.2.2.mpr e)
            rw [if_pos q1, if_pos q2, if_pos q3, if_pos q7, if_neg q5, if_pos q1, if_pos q2, if_pos q3, if_pos q7, if_neg q4]
            exact s00 2
        · rw [if_pos q1, if_pos q2, if_pos q3, if_neg q7, if_pos q1, if_pos q2, if_pos q3, if_neg q7]
          exact s00 1
      · rw [if_pos q1, if_pos q2, if_neg q3, if_pos q1, if_pos q2, if_neg q3]
        exact s00 1
    · rw [if_pos q1, if_neg q2, if_pos q1, if_neg q2]
      exact s00 1
  · rw [if_neg q1, if_neg q1]
    exact s00 1
theorem R2.opn (h : R2 τ σ) (hR5 : R ≤ 5) (hB6 : B ≤ 6) : R2 (g_Mopen τ R B) (g_open σ R B) := by
  have s00 : ∀ x9, R2 (u2 (u2 τ 5000 0 0) 5000 0 x9) σ := fun x9 => h.s0.s0
  unfold g_Mopen g_open
  by_cases q4 : σ 1000 7 = 0
  · have q5 : τ 5000 1 = 0 := h.2.2.mp q4
    rw [if_pos q5, if_pos q4]
    by_cases r0 : R = 0
    · rw [if_pos r0, if_pos (by rw [r0]; rfl)]
      exact s00 1
    · rw [if_neg r0, if_neg (fun e => r0 (nI_zero (by omega) e))]
      by_cases b0 : B = 0
      · rw [if_pos b0, if_pos (by rw [b0]; rfl)]
        exact s00 1
      · rw [if_neg b0, if_neg (fun e => b0 (nI_zero (by omega) e))]
        have k : ∀ q, q < 7000 → u2 (g_Kinit (u2 (u2 τ 5000 0 0) 5000 1 1) 7000 R B) 7000 25 1 q = u2 (u2 τ 5000 0 0) 5000 1 1 q := fun q hq => by rw [u2_ne (by omega), fr_Kinit (by omega)]
        refine ⟨?_, ?_, ?_⟩
        · rw [k _ (by omega), u2_ne (by decide), u2_ne (by decide), u2_ne (by decide)]
          exact h.1
        · rw [k _ (by omega), u2_ne (by decide), u2_ne (by decide), u2_ne (by decide)]
          exact h.2.1
        · rw [k _ (by omega), u2_at, u2_at]
  · have q5 : ¬ τ 5000 1 = 0 := fun e => q4 (h.2.2.mpr e)
    rw [if_neg q5, if_neg q4]
    exact s00 1
theorem VM.ofRegion {x y : Int32} : VM τ (g_MofRegion τ x y R B C g) := by
  unfold g_MofRegion
  (repeat' split) <;> first | with_reducible exact VM.s00 | with_reducible exact VM.s0 | exact VM.s00 | exact VM.s0
theorem VM.ofBidder {x y : Int32} : VM τ (g_MofBidder τ x y R B pk g) := by
  unfold g_MofBidder
  (repeat' split) <;> first | with_reducible exact VM.s00 | with_reducible exact VM.s0 | exact VM.s00 | exact VM.s0
theorem VM.wants {x y v : Int32} : VM τ (g_Mwants τ x y v R B g) := by
  unfold g_Mwants
  (repeat' split) <;> first | with_reducible exact VM.s00 | with_reducible exact VM.s0 | exact VM.s00 | exact VM.s0
theorem VM.priceIn {x y : Int32} : VM τ (g_MpriceIn τ x y R K) := by
  unfold g_MpriceIn
  (repeat' split) <;> first | with_reducible exact VM.s00 | with_reducible exact VM.s0 | exact VM.s00 | exact VM.s0
theorem VM.codeIn {x y v : Int32} : VM τ (g_McodeIn τ x y v B K) := by
  unfold g_McodeIn
  (repeat' split) <;> first | with_reducible exact VM.s00 | with_reducible exact VM.s0 | exact VM.s00 | exact VM.s0
theorem VM.ofPackage {x y v : Int32} : VM τ (g_MofPackage τ x y v B pk) := by
  unfold g_MofPackage
  (repeat' split) <;> first | with_reducible exact VM.s00 | with_reducible exact VM.s0 | exact VM.s00 | exact VM.s0
theorem VM.pays {x y : Int32} : VM τ (g_Mpays τ x y B) := by
  unfold g_Mpays
  (repeat' split) <;> first | with_reducible exact VM.s00 | with_reducible exact VM.s0 | exact VM.s00 | exact VM.s0
theorem VM.holder {x y : Int32} : VM τ (g_Mholder τ x y R B tn sp) := by
  unfold g_Mholder
  (repeat' split) <;> first | with_reducible exact VM.s00 | with_reducible exact VM.s0 | exact VM.s00 | exact VM.s0
theorem VM.most {x y : Int32} : VM τ (g_Mmost τ x y R B g) := by
  unfold g_Mmost
  (repeat' split) <;> first | with_reducible exact VM.s00 | with_reducible exact VM.s0 | exact VM.s00 | exact VM.s0
theorem VM.contradicts {x : Int32} {n : Nat} : VM τ (g_Mcontradicts τ x R B g n) := by
  unfold g_Mcontradicts
  (repeat' split) <;> first | with_reducible exact VM.s00 | with_reducible exact VM.s0 | exact VM.s00 | exact VM.s0
theorem VM.cpay {y : Nat} (hB6 : B ≤ 6) : VM τ (u2 (u2 (g_Cpay (g_Cinit τ R B pk gr cd) y 20000 B) 9000 20 0) 20000 20 0) := VM.hi fun q hq => by rw [u2_ne (by omega), u2_ne (by omega), fr_Cpay ⟨by omega, hB6⟩, fr_Cinit (by omega)]
theorem VM.wouldPay {x y : Int32} (hB6 : B ≤ 6) : VM τ (g_MwouldPay τ x y R B pk gr cd) := by
  unfold g_MwouldPay
  (repeat' split) <;> first | with_reducible exact VM.s00 | exact VM.s0.trans (VM.cpay hB6) | exact VM.s00
theorem VM.objects {x y : Int32} (hB6 : B ≤ 6) : VM τ (g_Mobjects τ x y R B pk gr cd) := by
  unfold g_Mobjects
  (repeat' split) <;> first | with_reducible exact VM.s00 | exact VM.s0.trans (VM.cpay hB6) | exact VM.s00
theorem VM.anew {x y v u : Int32} (hp : ∃ m, m ≤ 60 ∧ PA9 (u2 τ 5000 0 0) m (g_MrunAnew (u2 τ 5000 0 0) (nI (rn x + 1)) (cn y) (cn v) u R B K)) : VM τ (g_Manew τ x y v u R B K) := by
  obtain ⟨m, hm, -, -, -, -, -, pe⟩ := hp
  unfold g_Manew
  (repeat' split) <;> first | with_reducible exact VM.s00 | exact VM.s0.trans (VM.rows (by rw [u2_ne (by decide), pe _ (by omega)]) (by rw [u2_ne (by decide), pe _ (by omega)]) (by rw [u2_ne (by decide), pe _ (by omega)])) | exact VM.s00
theorem VM.keep {wy : Nat} (hB6 : B ≤ 6) : VM τ (g_Mkeep τ R B pk gr cd wy sp) := VM.rows (fr_Mkeep ⟨by omega, by omega, by omega, hB6⟩) (fr_Mkeep ⟨by omega, by omega, by omega, hB6⟩) (fr_Mkeep ⟨by omega, by omega, by omega, hB6⟩)
theorem VM.settle {x : Int32} (hB6 : B ≤ 6) : VM τ (g_Msettle τ x R B pk gr cd sp) := by
  unfold g_Msettle
  split
  · split
    · rename_i h2
      refine VM.trans (τ2 := u2 (u2 (u2 τ 5000 0 0) 5000 1 3) 5000 7 (nI (cn x))) ⟨by rw [u2_ne (by decide), u2_ne (by decide), u2_ne (by decide)], by rw [u2_ne (by decide), u2_ne (by decide), u2_ne (by decide)], ?_⟩ (VM.keep hB6)
      rw [u2_oi (by decide), u2_at, h2]
      exact ⟨fun e => absurd e (by decide), fun e => absurd e (by decide)⟩
    · exact VM.s00
  · exact VM.s00
theorem VM.fail {x : Int32} {wy : Nat} (hB6 : B ≤ 6) : VM τ (g_Mfail τ x R B pk gr cd wy sp) := by
  unfold g_Mfail
  split
  · rename_i hx
    have hx2 := hx.2
    split
    · split
      · exact VM.s00
      · exact ((VM.s0.trans (VM.set (by decide))).trans (VM.set (by omega))).trans (VM.keep hB6)
    · exact VM.s00
  · exact VM.s00
end
end
