/-! ===== settled: winners, payments and names are kept on both sides ===== -/
section
variable {τ t s σ : XS9} {spc : Nat → Nat} {wy : Nat} {c : Nat → Nat}
/-- rows of the reference's behind the keeping -/
theorem keep_rows (hB6 : mB t ≤ 6) {q : Nat} (h : (q < 5005 ∨ 5007 < q) ∧ q < 9000) : g_Mkeep t (mR t) (mB t) (mpk t) (mgr t) (mcd t) wy (msp t) q = t q := fr_Mkeep ⟨h.1, by omega, by omega, hB6⟩
theorem keep_sim (hs3 : ¬ t 5000 1 ≤ 1) (F : TKF t) (P : PCx (Dm t) (Am t) (msp t) (cn (t 5000 2)) (mR t) (pkB t) s) (m : MKT t s) (w : MKW t s) (y : PYQ s) (hwy : wy < 3) (hn : ∀ r, r < 5 → s 1013 r = t (5010 + r) 3) (hsp : ∀ r, r < mR t → spc r = msp t r) : ((∀ j, j < 6 → g_Mkeep t (mR t) (mB t) (mpk t) (mgr t) (mcd t) wy (msp t) 5005 j = s 1040 j) ∧ ∀ j, j < 6 → g_Mkeep t (mR t) (mB t) (mpk t) (mgr t) (mcd t) wy (msp t) 5006 j = s (1131 + wy) j) ∧ NM3 (g_Mkeep t (mR t) (mB t) (mpk t) (mgr t) (mcd t) wy (msp t)) (g_give s (mR t) spc) := by
  have hR5 := F.1.1
  have hB6 := F.1.2
  have hp6 := F.p6
  obtain ⟨x1, x3⟩ := cho_eq hs3 F m w
  have fC : ∀ q, q < 9000 → g_Cinit t (mR t) (mB t) (mpk t) (mgr t) (mcd t) q = t q := fun q hq => fr_Cinit (.inl hq)
  obtain ⟨c, ⟨c1, c1o⟩, c2, c3⟩ := w.1
  unfold g_Mkeep
  generalize g_Cinit t (mR t) (mB t) (mpk t) (mgr t) (mcd t) = C at x1 x3 fC ⊢
  have y1 : ∀ q, q ≠ 5005 → uR C 5005 (va_cpy (C 9001) (t 5005) 0 0 6) q = C q := fun q hq => uR_ne hq
  have y5 : ∀ j, j < 6 → uR C 5005 (va_cpy (C 9001) (t 5005) 0 0 6) 5005 j = s 1040 j := fun j hj => by
    rw [uR_eq, cpy_lo hj]
    exact x1 j hj
  generalize uR C 5005 (va_cpy (C 9001) (t 5005) 0 0 6) = C1 at y1 y5 ⊢
  obtain ⟨W, a, p, _, _, _, _, _, h6⟩ := y.same (τ := t) (t := C1) w P hp6 hB6 (fun j hj => by rw [y1 9001 (by decide)]; exact x1 j hj) (fun S hS => by rw [y1 9003 (by decide)]; exact x3 S hS) (fun j hj k hk => by
    rw [y1 _ (by omega), fC _ (by omega)]
    exact F.pcm hj (pkB_lt hk).2)
  have g1 : ∀ q, q ≠ 20000 → g_Cpay C1 wy 20000 (mB t) q = C1 q := fun q hq => fr_Cpay ⟨hq, hB6⟩
  have g2 : ∀ j, j < 6 → g_Cpay C1 wy 20000 (mB t) 20000 j = s (1131 + wy) j := fun j hj => by
    obtain ⟨a1, _, a2⟩ := h6 wy hwy j hj
    rw [a1, a2]
  generalize g_Cpay C1 wy 20000 (mB t) = G at g1 g2 ⊢
  have v6 : ∀ j, j < 6 → uR G 5006 (va_cpy (G 20000) (t 5006) 0 0 6) 5006 j = s (1131 + wy) j := fun j hj => by
    rw [uR_eq, cpy_lo hj]
    exact g2 j hj
  have v5 : ∀ j, j < 6 → uR G 5006 (va_cpy (G 20000) (t 5006) 0 0 6) 5005 j = s 1040 j := fun j hj => by
    rw [uR_ne (by decide), g1 _ (by decide)]
    exact y5 j hj
  have vo : ∀ q, q ≠ 5005 → q ≠ 5006 → q < 9000 → uR G 5006 (va_cpy (G 20000) (t 5006) 0 0 6) q = t q := fun q h1 h2 h3 => by rw [uR_ne h2, g1 _ (by omega), y1 _ h1, fC _ h3]
  generalize uR G 5006 (va_cpy (G 20000) (t 5006) 0 0 6) = v at v5 v6 vo ⊢
  have eBv : mB v = mB t := by
    show cn (v 5002 900) = _
    rw [vo _ (by decide) (by decide) (by decide)]
  have c6 : ∀ j, j < 6 → c j ≤ 6 := fun j hj => Nat.le_trans (c1.1 j hj) (hp6 j hj)
  have cB : ∀ j, j < 6 → c j ≠ 0 → j < mB t ∧ c j - 1 < mpk t j := fun j hj hne => by
    have := c1.1 j hj
    exact pkB_lt (k := c j - 1) (by omega)
  have wk : ∀ r, r < mR t → ∀ j, j < 6 → wK v r j = cDg (Dm t) r c j := fun r hr j hj => by
    obtain ⟨e1, e2⟩ := rwc_at (c6 j hj)
    unfold wK cDg
    rw [eBv, v5 j hj, c3 j hj, vo _ (by omega) (by omega) (by omega)]
    by_cases z : c j = 0
    · rw [if_pos z, if_neg (fun q => q.2 (by rw [z]; rfl))]
    · obtain ⟨f1, f2, f3, f4⟩ := e2 z
      rw [if_neg z, if_pos ⟨(cB j hj z).1, f4⟩, f3]
      rfl
  have H := give_sim (σ := s) (τ := t) (v := v) (w := wK v) (nb := nbK t) (sp := spc) (sp2 := msp t) (R := mR t) (B := mB t) hR5 hB6 (fun r hr j hj => by
    unfold cbw
    rw [(won_c P hp6 c1.1 (c3 j hj) hj).2 r hr (by omega), wk r hr j hj, cn_nI]
    have : cDg (Dm t) r c j ≤ 5 := by
      unfold cDg Dm
      split
      · omega
      · exact dgt_le
    omega) (fun r hr j hj => by
    refine ⟨?_, fun hb => ?_, fun _ e => ?_, fun hb e => ?_⟩
    · unfold wK
      split
      · exact dgt_le
      · omega
    · exact if_neg (fun q => by have := q.1; omega)
    · exact if_neg (fun q => q.2 e)
    · have e9 : wK v r j = dgt (v (5030 + j) (2 * cn (v 5005 j))) r := if_pos ⟨by rw [eBv]; exact hb, e⟩
      rw [e9]
      unfold f_Bcode
      refine of_d ?_ (by omega)
      rw [v5 j hj, c3 j hj] at e ⊢
      have z : c j ≠ 0 := fun z => e (by rw [z]; rfl)
      obtain ⟨f1, f2, f3, f4⟩ := (rwc_at (c6 j hj)).2 z
      rw [f3, vo _ (by omega) (by omega) (by omega)]
      exact ((F.2.2.2 j hb).2.2 _ (cB j hj z).2).1) (fun o ho => ⟨(hsp o ho).symm, by rw [hsp o ho]; exact (F.2.1 o ho).2⟩) (fun r o hr ho => by
    rw [nb_eq (by omega), hn r (by omega)]
    unfold nbK
    cases bt (t (5010 + r) 3) o
    · exact ⟨fun _ => rfl, fun _ z => by cases z⟩
    · exact ⟨fun z => absurd rfl z, fun z => by cases z⟩) (fun r o hr ho => (b_tst1 (by omega)).1)
  obtain ⟨k1, k2, k3⟩ := H
  generalize x_Mkeep_45 t (mB t) (mR t) (msp t) v = u at k1 k2 k3 ⊢
  have uq : ∀ q, q < 9000 → u2 (u2 u 9000 20 0) 20000 20 0 q = u q := fun q hq => by rw [u2_ne (by omega), u2_ne (by omega)]
  have uv : ∀ q, q ≠ 5007 → q < 9000 → u2 (u2 u 9000 20 0) 20000 20 0 q = v q := fun q h1 h2 => by rw [uq q h2, k3 q h1]
  generalize u2 (u2 u 9000 20 0) 20000 20 0 = z at uq uv ⊢
  have eR : mR z = mR t := by
    show cn (z 5001 900) = _
    rw [uv _ (by decide) (by decide), vo _ (by decide) (by decide) (by decide)]
  have eK : wK z = wK v := funext fun r => funext fun j => by
    unfold wK
    rw [show mB z = mB v by show cn (z 5002 900) = _; rw [uv _ (by decide) (by decide)], uv 5005 (by decide) (by decide)]
    by_cases l : j < mB v ∧ v 5005 j ≠ -1
    · rw [eBv] at l
      rw [uv (5030 + j) (by omega) (by omega)]
    · rw [if_neg l, if_neg l]
  have eT : mtn z = fun o => cn (u 5007 o) := funext fun o => by
    show cn (z 5007 o) = _
    rw [uq _ (by decide)]
  have eN : ∀ r o, r < 5 → nbK z r o = nbK t r o := fun r o hr => by
    unfold nbK
    rw [uv _ (by omega) (by omega), vo _ (by omega) (by omega) (by omega)]
  have eS : ∀ r, r < mR t → msp z r = spc r := fun r hr => by
    show cn (z (5010 + r) 0) = _
    rw [uv _ (by omega) (by omega), vo _ (by omega) (by omega) (by omega), hsp r hr]
  refine ⟨⟨fun j hj => by rw [uv _ (by decide) (by decide)]; exact v5 j hj, fun j hj => by rw [uv _ (by decide) (by decide)]; exact v6 j hj⟩, fun r hr b hb => ?_, ?_⟩
  · rw [eR] at hr
    rw [eK, eT, eS r hr]
    exact (k1 r hr).2.2 b hb
  · rw [k2, eR, eK, eT]
    congr 1
    refine nsum_cg fun o ho => nsum_cg fun o2 ho2 => ?_
    unfold clN
    rw [eN o o2 (by omega), eS o (by omega), eS o2 (by omega)]
end
