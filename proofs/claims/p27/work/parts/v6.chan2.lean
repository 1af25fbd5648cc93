/-! ===== the answers of channel ===== -/
section
variable {τ σ s0 t0 : XS9} {x y v : Int32} {C ch : Nat}
theorem pack_hyp (h : RA τ σ) (hb : RB τ) (r : JR τ) (hch : ch ≤ 6) (s1013 : s0 1013 = σ 1013) (s1152 : s0 1152 = g_findDisturbed σ (mC τ) (arg σ) 1152) (z1153 : ∀ c, c < 6 → s0 1153 c = 0) (hm : ∀ a, a < 5 → t0 (5010 + a) = τ (5010 + a)) (ht : t0 20000 = rowN ch) : DISr s0 (mrg τ) (mC τ) s0 ∧ (∀ a b, a < mC τ → b < mC τ → (nearC s0 (mrg τ) a b ↔ nearM t0 (mrg τ) b a)) ∧ STC 20000 ch 0 0 s0 t0 := by
  have hC10 := r.hS.2
  have hrg : ∀ j, j < mC τ → mrg τ j < 5 := fun j hj => Nat.lt_of_lt_of_le (r.hrg j hj).2 r.hR.2
  have erg : ∀ j, j < mC τ → arg σ j = mrg τ j := fun j hj => by
    show cn (σ 1151 j) = cn (τ 5004 (2 * j))
    rw [(h.2.2.2.2.1 j (by omega)).2]
  have hrgC : ∀ j, j < mC τ → arg σ j < 5 := fun j hj => by rw [erg j hj]; exact hrg j hj
  obtain ⟨d1, d2⟩ := dist_all (σ := σ) hrgC hC10
  have nC : ∀ a j, a < mC τ → j < mC τ → (nearC σ (arg σ) a j ↔ nearC σ (mrg τ) a j) := fun a j ha hj => by
    unfold nearC
    rw [erg a ha, erg j hj]
  refine ⟨?_, ?_, ⟨Nat.zero_le _, fun c hc => ?_⟩⟩
  · intro a ha j hj
    rw [s1152, d1 a ha j hj]
    have e9 : ∀ rg : Nat → Nat, nearC s0 rg a j ↔ nearC σ rg a j := fun rg => by
      unfold nearC
      rw [s1013]
    rw [e9]
    exact ⟨fun ⟨p, q, w⟩ => ⟨p, q, (nC a j ha p).mp w⟩, fun ⟨p, q, w⟩ => ⟨p, q, (nC a j ha p).mpr w⟩⟩
  · intro a b ha hb2
    unfold nearC nearM
    rw [s1013, hm _ (hrg b hb2), (h.2.1 _ (hrg a ha)).2.2.2, hb _ _ (hrg a ha) (hrg b hb2)]
    exact ⟨fun z => z.imp Eq.symm id, fun z => z.imp Eq.symm id⟩
  · rw [z1153 c (by omega), ht]
    have : rowN ch c = 0 := by
      unfold rowN
      rw [if_neg (by omega), if_neg (by omega)]
    rw [this]
    exact ⟨rfl, 0, Nat.one_pos, rfl, ⟨fun _ => Nat.zero_le _, fun _ => rfl⟩⟩
theorem chOf_none {j : Nat} (hj : j < 32) (h : ∀ c, c < 6 → bt (σ 1153 c) j = false) : f_channelOf σ (nI j) = -1 := by
  have e : x_channelOf_2 σ (nI j) () = .inl () := by
    unfold x_channelOf_2
    refine (xitR_one 6 0).1 fun k h1 h2 => ?_
    (try dsimp only)
    rw [if_pos ((b_tst2 hj).mpr (h k (by omega)))]
  unfold f_channelOf
  rw [e]
theorem chOf_one {j k : Nat} (hj : j < 32) (hk : k < 6) (h : ∀ c, c < 6 → (bt (σ 1153 c) j = true ↔ c = k)) : f_channelOf σ (nI j) = nI k := by
  have st : ∀ c, c < 6 → (if ((σ 1153 c) &&& (1 <<< ((nI j) &&& 31))) = 0 then (.inl () : Unit ⊕ Int32) else .inr (nI c)) = if c = k then .inr (nI c) else .inl () := fun c hc => by
    by_cases z : c = k
    · rw [if_pos z, if_neg (fun q => by
        have w := (b_tst2 hj).mp q
        rw [(h c hc).mpr z] at w
        cases w)]
    · rw [if_neg z, if_pos ((b_tst2 hj).mpr (by
        cases w : bt (σ 1153 c) j with
        | false => rfl
        | true => exact absurd ((h c hc).mp w) z))]
  have e : x_channelOf_2 σ (nI j) () = .inr (nI k) := by
    unfold x_channelOf_2
    obtain ⟨k', r', a1, a2, a3, a4⟩ := (xitR_one (step := fun i2 (s2 : Unit) => (if ((σ 1153 i2) &&& (1 <<< ((nI j) &&& 31))) = 0 then (.inl () : Unit ⊕ Int32) else .inr (nI i2))) 6 0).2 k (nI k) (Nat.zero_le _) (by omega) ((st k hk).trans (if_pos rfl))
    rw [a4, ← a3]
    have := st k' (by omega)
    refine this.trans ?_
    by_cases z : k' = k
    · rw [if_pos z, z]
    · have a3' : (if ((σ 1153 k') &&& (1 <<< ((nI j) &&& 31))) = 0 then (.inl () : Unit ⊕ Int32) else .inr (nI k')) = .inr r' := a3
      rw [this, if_neg z] at a3'
      cases a3'
  unfold f_channelOf
  rw [e]
theorem chan_eq (h : RA τ σ) (hb : RB τ) (r : JR τ) (hy : cn y ≤ 6) (hv : cn v < mC τ) : (if (f_pack σ (nI (cn x)) (cn y) (mC τ) (arg σ)) = 0 then (-1 : Int32) else f_channelOf (g_pack σ (nI (cn x)) (cn y) (mC τ) (arg σ)) (nI (cn v))) = (if (((nI (cn x)) >>> ((nI (cn v)) &&& 31)) &&& 1) = 0 then (-1) else (if (f_Mcp (uR (u2 τ 5000 0 0) 20000 (rowN (cn y))) (nI (cn x)) 0 (mC τ) (mrg τ) 20000 (cn y)) = 0 then (-1) else (match (x_Mchannel_83 x y v (mC τ) (mrg τ) (g_Mcp (uR (u2 τ 5000 0 0) 20000 (rowN (cn y))) (nI (cn x)) 0 (mC τ) (mrg τ) 20000 (cn y))) with | .inl _ => (-1) | .inr r83 => r83.2))) := by
  have hC10 := r.hS.2
  have hrg : ∀ j, j < mC τ → mrg τ j < 5 := fun j hj => Nat.lt_of_lt_of_le (r.hrg j hj).2 r.hR.2
  rw [pack_eq h hb r hy]
  obtain ⟨t0, et⟩ : ∃ t0, t0 = uR (u2 τ 5000 0 0) 20000 (rowN (cn y)) := ⟨_, rfl⟩
  obtain ⟨s0, es⟩ : ∃ s0, s0 = g_fill (g_findDisturbed σ (mC τ) (arg σ)) 1153 6 0 := ⟨_, rfl⟩
  have z6 : ∀ c, c < 6 → s0 1153 c = 0 := fun c hc => by
    rw [es]
    exact fill_at 6 0 _ (fun q => absurd q (by omega)) (by omega)
  obtain ⟨q1, q2, q3⟩ := pack_hyp (s0 := s0) (t0 := t0) (ch := cn y) h hb r hy (by rw [es, fr_fill (by decide), fr_findDisturbed (by decide)]) (by rw [es, fr_fill (by decide)]) z6 (fun a ha => by rw [et, uR_ne (by omega), u2_ne (by omega)]) (by rw [et, uR_eq])
  have S := (sim (x := nI (cn x)) (qa := 20000) hrg hC10 hy (Nat.le_refl _) q1 q2 10 0 rfl (Nat.zero_le _) s0 t0 0 (fun _ _ => rfl) (fun _ _ => rfl) q3).1
  have eg : g_pack σ (nI (cn x)) (cn y) (mC τ) (arg σ) = (fg_pack (cn y) (nI (cn x)) (mC τ) 10 0).2 s0 0 := by
    rw [es]
    rfl
  have em : g_Mcp t0 (nI (cn x)) 0 (mC τ) (mrg τ) 20000 (cn y) = t0 := pk_same hC10 (mC τ) _ 0 (by omega) (by omega) q3.cln
  rw [← et, em, eg]
  have t12 := b_tst1 (x := nI (cn x)) (j := cn v) (by omega)
  by_cases c0 : f_Mcp t0 (nI (cn x)) 0 (mC τ) (mrg τ) 20000 (cn y) = 0
  · rw [if_pos c0, if_pos c0]
    split <;> rfl
  · rw [if_neg c0, if_neg c0]
    obtain ⟨_, p2, p3, p4⟩ := pack_fin (x := x) (y := y) hrg hC10 hy q1 q2 10 0 rfl (Nat.zero_le _) s0 t0 0 (fun _ _ => rfl) (fun _ _ => rfl) q3 (fun z => c0 (S.symm.trans z))
    cases hbv : bt (nI (cn x)) (cn v) with
    | false =>
      rw [if_pos (t12.2.mpr hbv)]
      refine chOf_none (by omega) fun c hc => ?_
      rcases Nat.lt_or_ge c (cn y) with l | l
      · exact p3 (cn v) (Nat.zero_le _) hbv c l
      · rw [p2 c l, z6 c hc, b_0]
    | true =>
      rw [if_neg (fun z => by rw [t12.2.mp z] at hbv; cases hbv)]
      obtain ⟨k, t', a1, a2, a3⟩ := p4 v (Nat.zero_le _) hv hbv
      have a4 : x_Mchannel_83 x y v (mC τ) (mrg τ) t0 = .inr (t', nI k) := a2
      rw [a4]
      refine chOf_one (by omega) (by omega) fun c hc => ?_
      rcases Nat.lt_or_ge c (cn y) with l | l
      · exact a3 c l
      · rw [p2 c l, z6 c hc, b_0]
        exact ⟨fun z => (by cases z), fun z => absurd z (by omega)⟩
theorem chan_rows {R : Nat} {rg : Nat → Nat} (c0 : n_bt v 0 (nI C - 1)) (c1 : n_lt x (2 ^ C)) (c2 : n_bt y 1 6) : ∀ q, q ≠ 20000 → g_Mchannel τ x y v R C rg q = u2 τ 5000 0 0 q := by
  have hc := cn6 c2
  unfold g_Mchannel
  rw [if_pos c0, if_pos c1, if_pos c2]
  split
  · exact fun q hq => by rw [u2_ne hq, uR_ne hq]
  · split
    · exact fun q hq => by rw [u2_ne hq, fr_Mcp ⟨hq, hc⟩, uR_ne hq]
    · have F : ∀ q, q ≠ 20000 → g_Mcp (uR (u2 τ 5000 0 0) 20000 (rowN (cn y))) (nI (cn x)) 0 C rg 20000 (cn y) q = u2 τ 5000 0 0 q := fun q hq => by rw [fr_Mcp ⟨hq, hc⟩, uR_ne hq]
      generalize g_Mcp (uR (u2 τ 5000 0 0) 20000 (rowN (cn y))) (nI (cn x)) 0 C rg 20000 (cn y) = s0 at F ⊢
      have A : ∀ i s, (∀ q, q ≠ 20000 → s q = u2 τ 5000 0 0 q) → ∀ q, q ≠ 20000 → (x_Mchannel_104 x y C rg i (s, 0)).1 q = u2 τ 5000 0 0 q := fun i s hs => by
        unfold x_Mchannel_104
        refine xitB_all (fun t : XS9 × Nat => ∀ q, q ≠ 20000 → t.1 q = u2 τ 5000 0 0 q) (N := cn y) (fun k t t' hk ht => ?_) (cn y) 0 _ (Nat.zero_add _) hs
        (try dsimp only)
        split
        · intro e
          rcases e with e | e
          · rw [← Sum.inl.inj e]
            exact fun q hq => (fr_MisFits ⟨hq, hc⟩).trans (ht q hq)
          · cases e
        · intro e
          rcases e with e | e
          · cases e
          · rw [← Sum.inr.inj e]
            exact fun q hq => (fr_MisFits ⟨hq, hc⟩).trans (ht q hq)
      have B := xitR_pi (step := s_Mchan x y v C rg) (fun _ s => ∀ q, q ≠ 20000 → s q = u2 τ 5000 0 0 q) (fun r : XS9 × Int32 => ∀ q, q ≠ 20000 → r.1 q = u2 τ 5000 0 0 q) (N := cn v + 1) (fun i s hi hs => by
        unfold s_Mchan
        split
        · exact ⟨fun s' e => (by rw [← Sum.inl.inj e]; exact hs), fun r e => (by cases e)⟩
        · split
          · refine ⟨fun s' e => (by cases e), fun r e => ?_⟩
            rw [← Sum.inr.inj e]
            exact fun q hq => by dsimp only; rw [u2_ne hq, u2_ne hq]; exact A i s hs q hq
          · refine ⟨fun s' e => ?_, fun r e => (by cases e)⟩
            rw [← Sum.inl.inj e]
            exact fun q hq => by rw [u2_ne hq]; exact A i s hs q hq) (cn v + 1) 0 s0 (Nat.zero_add _) F
      have B : (∀ s', x_Mchannel_83 x y v C rg s0 = .inl s' → ∀ q, q ≠ 20000 → s' q = u2 τ 5000 0 0 q) ∧ ∀ r, x_Mchannel_83 x y v C rg s0 = .inr r → ∀ q, q ≠ 20000 → r.1 q = u2 τ 5000 0 0 q := B
      generalize x_Mchannel_83 x y v C rg s0 = w at B ⊢
      cases w with
      | inl s83 => exact fun q hq => by dsimp only; rw [u2_ne hq]; exact B.1 _ rfl q hq
      | inr r83 => exact B.2 _ rfl
theorem says_channel (h : RA τ σ) (hb : RB τ) (r : JR τ) (eC : aC σ = mC τ) : g_Mchannel τ x y v (mR τ) (mC τ) (mrg τ) 5000 0 = lw_k [eIOB, eIAE] (o_channel σ x y v (aC σ) (arg σ)) ∧ ∀ w, o_channel σ x y v (aC σ) (arg σ) = .inl w → w = f_Mchannel τ x y v (mR τ) (mC τ) (mrg τ) := by
  rw [eC]
  have hC10 := r.hS.2
  unfold o_channel f_Mchannel
  by_cases c0 : n_lt v (mC τ)
  · have c0' : n_bt v 0 (nI (mC τ) - 1) := (sub1_lt (by omega)).mpr c0
    by_cases c1 : n_lt x (2 ^ mC τ)
    · by_cases c2 : n_bt y 1 6
      · have hc := cn6 c2
        rw [if_pos c0, if_pos c1, if_pos c2, if_pos c0', if_pos c1, if_pos c2]
        have E := chan_eq (x := x) h hb r hc c0.2
        refine ⟨?_, fun w e => ?_⟩
        · have q0 : g_Mchannel τ x y v (mR τ) (mC τ) (mrg τ) 5000 0 = 0 := by
            rw [chan_rows c0' c1 c2 5000 (by decide), u2_at]
          rw [q0]
          split <;> rfl
        · refine Eq.trans ?_ E
          split at e
          · rename_i z
            rw [if_pos z]
            exact (Sum.inl.inj e).symm
          · rename_i z
            rw [if_neg z]
            exact (Sum.inl.inj e).symm
      · unfold g_Mchannel
        rw [if_pos c0, if_pos c1, if_neg c2, if_pos c0', if_pos c1, if_neg c2]
        exact ⟨u2_at, fun w e => by cases e⟩
    · unfold g_Mchannel
      rw [if_pos c0, if_neg c1, if_pos c0', if_neg c1]
      exact ⟨u2_at, fun w e => by cases e⟩
  · have c0' : ¬ n_bt v 0 (nI (mC τ) - 1) := fun z => c0 ((sub1_lt (by omega)).mp z)
    unfold g_Mchannel
    rw [if_neg c0, if_neg c0']
    exact ⟨u2_at, fun w e => by cases e⟩
end
