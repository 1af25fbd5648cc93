section
/-! ===== the answers of channel ===== -/
section
variable {τ σ s0 t0 : XS9} {x y v : Int32} {C ch : Nat}
theorem pack_hyp (h : RA τ σ) (hb : RB τ) (r : JR τ) (hch : ch ≤ 6) (s1013 : s0 1013 = σ 1013) (s1152 : s0 1152 = g_findDisturbed σ (mC τ) (arg σ) 1152) (z1153 : ∀ c, c < 6 → s0 1153 c = 0) (hm : ∀ a, a < 5 → t0 (5010 + a) = τ (5010 + a)) (ht : t0 20000 = rowN ch) : DISr s0 (mrg τ) (mC τ) s0 ∧ (∀ a b, a < mC τ → b < mC τ → (nearC s0 (mrg τ) a b ↔ nearM t0 (mrg τ) b a)) ∧ STC 20000 ch 0 0 s0 t0 := by
  have hC10 := r.hS.2
  have hrg : ∀ j, j < mC τ → mrg τ j < 5 := fun j hj => Nat.lt_of_lt_of_le (r.hrg j hj).2 r.hR.2
  have erg : ∀ j, j < mC τ → arg σ j = mrg τ j := fun j hj => by
    show cn (σ 1151 j) = cn (τ 5004 (2 * j))
    rw [(h.2.2.2.2.1 j (by omega)).2]
  have hrgC : ∀ j, j < mC τ → arg σ j < 5 := fun j hj => by rw [erg j hj]; exact hrg j hj
  obtain ⟨d1, d2⟩ := dist_all (σ := σ) hrgC hC10
  have nC : ∀ a j, a < mC τ → j < mC τ → (nearC σ (arg σ) a j ↔ nearC σ (mrg τ) a j) := fun a j ha hj => by
    unfold nearC
    rw [erg a ha, erg j hj]
  refine ⟨?_, ?_, ⟨Nat.zero_le _, fun c hc => ?_⟩⟩
  · intro a ha j hj
    rw [s1152, d1 a ha j hj]
    have e9 : ∀ rg : Nat → Nat, nearC s0 rg a j ↔ nearC σ rg a j := fun rg => by
      unfold nearC
      rw [s1013]
    rw [e9]
    exact ⟨fun ⟨p, q, w⟩ => ⟨p, q, (nC a j ha p).mp w⟩, fun ⟨p, q, w⟩ => ⟨p, q, (nC a j ha p).mpr w⟩⟩
  · intro a b ha hb2
    unfold nearC nearM
    rw [s1013, hm _ (hrg b hb2), (h.2.1 _ (hrg a ha)).2.2.2, hb _ _ (hrg a ha) (hrg b hb2)]
    exact ⟨fun z => z.imp Eq.symm id, fun z => z.imp Eq.symm id⟩
  · rw [z1153 c (by omega), ht]
    have : rowN ch c = 0 := by
      unfold rowN
      rw [if_neg (by omega), if_neg (by omega)]
    rw [this]
    exact ⟨rfl, 0, Nat.one_pos, rfl, ⟨fun _ => Nat.zero_le _, fun _ => rfl⟩⟩
theorem chOf_none {j : Nat} (hj : j < 32) (h : ∀ c, c < 6 → bt (σ 1153 c) j = false) : f_channelOf σ (nI j) = -1 := by
  have e : x_channelOf_2 σ (nI j) () = .inl () := by
    unfold x_channelOf_2
    refine (xitR_one 6 0).1 fun k h1 h2 => ?_
    (try dsimp only)
    rw [if_pos ((b_tst2 hj).mpr (h k (by omega)))]
  unfold f_channelOf
  rw [e]
theorem chOf_one {j k : Nat} (hj : j < 32) (hk : k < 6) (h : ∀ c, c < 6 → (bt (σ 1153 c) j = true ↔ c = k)) : f_channelOf σ (nI j) = nI k := by
  have st : ∀ c, c < 6 → (if ((σ 1153 c) &&& (1 <<< ((nI j) &&& 31))) = 0 then (.inl () : Unit ⊕ Int32) else .inr (nI c)) = if c = k then .inr (nI c) else .inl () := fun c hc => by
    by_cases z : c = k
    · rw [if_pos z, if_neg (fun q => by
        have w := (b_tst2 hj).mp q
        rw [(h c hc).mpr z] at w
        cases w)]
    · rw [if_neg z, if_pos ((b_tst2 hj).mpr (by
        cases w : bt (σ 1153 c) j with
        | false => rfl
        | true => exact absurd ((h c hc).mp w) z))]
  have e : x_channelOf_2 σ (nI j) () = .inr (nI k) := by
    unfold x_channelOf_2
    obtain ⟨k', r', a1, a2, a3, a4⟩ := (xitR_one (step := fun i2 (s2 : Unit) => (if ((σ 1153 i2) &&& (1 <<< ((nI j) &&& 31))) = 0 then (.inl () : Unit ⊕ Int32) else .inr (nI i2))) 6 0).2 k (nI k) (Nat.zero_le _) (by omega) ((st k hk).trans (if_pos rfl))
    rw [a4, ← a3]
    have := st k' (by omega)
    refine this.trans ?_
    by_cases z : k' = k
    · rw [if_pos z, z]
    · have a3' : (if ((σ 1153 k') &&& (1 <<< ((nI j) &&& 31))) = 0 then (.inl () : Unit ⊕ Int32) else .inr (nI k')) = .inr r' := a3
      rw [this, if_neg z] at a3'
      cases a3'
  unfold f_channelOf
  rw [e]
theorem chan_eq (h : RA τ σ) (hb : RB τ) (r : JR τ) (hy : cn y ≤ 6) (hv : cn v < mC τ) : (if (f_pack σ (nI (cn x)) (cn y) (mC τ) (arg σ)) = 0 then (-1 : Int32) else f_channelOf (g_pack σ (nI (cn x)) (cn y) (mC τ) (arg σ)) (nI (cn v))) = (if (((nI (cn x)) >>> ((nI (cn v)) &&& 31)) &&& 1) = 0 then (-1) else (if (f_Mcp (uR (u2 τ 5000 0 0) 20000 (rowN (cn y))) (nI (cn x)) 0 (mC τ) (mrg τ) 20000 (cn y)) = 0 then (-1) else (match (x_Mchannel_83 x y v (mC τ) (mrg τ) (g_Mcp (uR (u2 τ 5000 0 0) 20000 (rowN (cn y))) (nI (cn x)) 0 (mC τ) (mrg τ) 20000 (cn y))) with | .inl _ => (-1) | .inr r83 => r83.2))) := by
  have hC10 := r.hS.2
  have hrg : ∀ j, j < mC τ → mrg τ j < 5 := fun j hj => Nat.lt_of_lt_of_le (r.hrg j hj).2 r.hR.2
  rw [pack_eq h hb r hy]
  obtain ⟨t0, et⟩ : ∃ t0, t0 = uR (u2 τ 5000 0 0) 20000 (rowN (cn y)) := ⟨_, rfl⟩
  obtain ⟨s0, es⟩ : ∃ s0, s0 = g_fill (g_findDisturbed σ (mC τ) (arg σ)) 1153 6 0 := ⟨_, rfl⟩
  have z6 : ∀ c, c < 6 → s0 1153 c = 0 := fun c hc => by
    rw [es]
    exact fill_at 6 0 _ (fun q => absurd q (by omega)) (by omega)
  obtain ⟨q1, q2, q3⟩ := pack_hyp (s0 := s0) (t0 := t0) (ch := cn y) h hb r hy (by rw [es, fr_fill (by decide), fr_findDisturbed (by decide)]) (by rw [es, fr_fill (by decide)]) z6 (fun a ha => by rw [et, uR_ne (by omega), u2_ne (by omega)]) (by rw [et, uR_eq])
  have S := (sim (x := nI (cn x)) (qa := 20000) hrg hC10 hy (Nat.le_refl _) q1 q2 10 0 rfl (Nat.zero_le _) s0 t0 0 (fun _ _ => rfl) (fun _ _ => rfl) q3).1
  have eg : g_pack σ (nI (cn x)) (cn y) (mC τ) (arg σ) = (fg_pack (cn y) (nI (cn x)) (mC τ) 10 0).2 s0 0 := by
    rw [es]
    rfl
  have em : g_Mcp t0 (nI (cn x)) 0 (mC τ) (mrg τ) 20000 (cn y) = t0 := pk_same hC10 (mC τ) _ 0 (by omega) (by omega) q3.cln
  rw [← et, em, eg]
  have t12 := b_tst1 (x := nI (cn x)) (j := cn v) (by omega)
  by_cases c0 : f_Mcp t0 (nI (cn x)) 0 (mC τ) (mrg τ) 20000 (cn y) = 0
  · rw [if_pos c0, if_pos c0]
    split <;> rfl
  · rw [if_neg c0, if_neg c0]
    obtain ⟨_, p2, p3, p4⟩ := pack_fin (x := x) (y := y) hrg hC10 hy q1 q2 10 0 rfl (Nat.zero_le _) s0 t0 0 (fun _ _ => rfl) (fun _ _ => rfl) q3 (fun z => c0 (S.symm.trans z))
    cases hbv : bt (nI (cn x)) (cn v) with
    | false =>
      rw [if_pos (t12.2.mpr hbv)]
      refine chOf_none (by omega) fun c hc => ?_
      rcases Nat.lt_or_ge c (cn y) with l | l
      · exact p3 (cn v) (Nat.zero_le _) hbv c l
      · rw [p2 c l, z6 c hc, b_0]
    | true =>
      rw [if_neg (fun z => by rw [t12.2.mp z] at hbv; cases hbv)]
      obtain ⟨k, t', a1, a2, a3⟩ := p4 v (Nat.zero_le _) hv hbv
      have a4 : x_Mchannel_83 x y v (mC τ) (mrg τ) t0 = .inr (t', nI k) := a2
      rw [a4]
      refine chOf_one (by omega) (by omega) fun c hc => ?_
      rcases Nat.lt_or_ge c (cn y) with l | l
      · exact a3 c l
      · rw [p2 c l, z6 c hc, b_0]
        exact ⟨fun z => (by cases z), fun z => absurd z (by omega)⟩
theorem chan_rows {R : Nat} {rg : Nat → Nat} (c0 : n_bt v 0 (nI C - 1)) (c1 : n_lt x (2 ^ C)) (c2 : n_bt y 1 6) : ∀ q, q ≠ 20000 → g_Mchannel τ x y v R C rg q = u2 τ 5000 0 0 q := by
  have hc := cn6 c2
  unfold g_Mchannel
  rw [if_pos c0, if_pos c1, if_pos c2]
  split
  · exact fun q hq => by rw [u2_ne hq, uR_ne hq]
  · split
    · exact fun q hq => by rw [u2_ne hq, fr_Mcp ⟨hq, hc⟩, uR_ne hq]
    · have F : ∀ q, q ≠ 20000 → g_Mcp (uR (u2 τ 5000 0 0) 20000 (rowN (cn y))) (nI (cn x)) 0 C rg 20000 (cn y) q = u2 τ 5000 0 0 q := fun q hq => by rw [fr_Mcp ⟨hq, hc⟩, uR_ne hq]
      generalize g_Mcp (uR (u2 τ 5000 0 0) 20000 (rowN (cn y))) (nI (cn x)) 0 C rg 20000 (cn y) = s0 at F ⊢
      have A : ∀ i s, (∀ q, q ≠ 20000 → s q = u2 τ 5000 0 0 q) → ∀ q, q ≠ 20000 → (x_Mchannel_104 x y C rg i (s, 0)).1 q = u2 τ 5000 0 0 q := fun i s hs => by
        unfold x_Mchannel_104
        refine xitB_all (fun t : XS9 × Nat => ∀ q, q ≠ 20000 → t.1 q = u2 τ 5000 0 0 q) (N := cn y) (fun k t t' hk ht => ?_) (cn y) 0 _ (Nat.zero_add _) hs
        (try dsimp only)
        split
        · intro e
          rcases e with e | e
          · rw [← Sum.inl.inj e]
            exact fun q hq => (fr_MisFits ⟨hq, hc⟩).trans (ht q hq)
          · cases e
        · intro e
          rcases e with e | e
          · cases e
          · rw [← Sum.inr.inj e]
            exact fun q hq => (fr_MisFits ⟨hq, hc⟩).trans (ht q hq)
      have B := xitR_pi (step := s_Mchan x y v C rg) (fun _ s => ∀ q, q ≠ 20000 → s q = u2 τ 5000 0 0 q) (fun r : XS9 × Int32 => ∀ q, q ≠ 20000 → r.1 q = u2 τ 5000 0 0 q) (N := cn v + 1) (fun i s hi hs => by
        unfold s_Mchan
        split
        · exact ⟨fun s' e => (by rw [← Sum.inl.inj e]; exact hs), fun r e => (by cases e)⟩
        · split
          · refine ⟨fun s' e => (by cases e), fun r e => ?_⟩
            rw [← Sum.inr.inj e]
            exact fun q hq => by dsimp only; rw [u2_ne hq, u2_ne hq]; exact A i s hs q hq
          · refine ⟨fun s' e => ?_, fun r e => (by cases e)⟩
            rw [← Sum.inl.inj e]
            exact fun q hq => by rw [u2_ne hq]; exact A i s hs q hq) (cn v + 1) 0 s0 (Nat.zero_add _) F
      have B : (∀ s', x_Mchannel_83 x y v C rg s0 = .inl s' → ∀ q, q ≠ 20000 → s' q = u2 τ 5000 0 0 q) ∧ ∀ r, x_Mchannel_83 x y v C rg s0 = .inr r → ∀ q, q ≠ 20000 → r.1 q = u2 τ 5000 0 0 q := B
      generalize x_Mchannel_83 x y v C rg s0 = w at B ⊢
      cases w with
      | inl s83 => exact fun q hq => by dsimp only; rw [u2_ne hq]; exact B.1 _ rfl q hq
      | inr r83 => exact B.2 _ rfl
theorem says_channel (h : RA τ σ) (hb : RB τ) (r : JR τ) (eC : aC σ = mC τ) : g_Mchannel τ x y v (mR τ) (mC τ) (mrg τ) 5000 0 = lw_k [eIOB, eIAE] (o_channel σ x y v (aC σ) (arg σ)) ∧ ∀ w, o_channel σ x y v (aC σ) (arg σ) = .inl w → w = f_Mchannel τ x y v (mR τ) (mC τ) (mrg τ) := by
  rw [eC]
  have hC10 := r.hS.2
  unfold o_channel f_Mchannel
  by_cases c0 : n_lt v (mC τ)
  · have c0' : n_bt v 0 (nI (mC τ) - 1) := (sub1_lt (by omega)).mpr c0
    by_cases c1 : n_lt x (2 ^ mC τ)
    · by_cases c2 : n_bt y 1 6
      · have hc := cn6 c2
        rw [if_pos c0, if_pos c1, if_pos c2, if_pos c0', if_pos c1, if_pos c2]
        have E := chan_eq (x := x) h hb r hc c0.2
        refine ⟨?_, fun w e => ?_⟩
        · have q0 : g_Mchannel τ x y v (mR τ) (mC τ) (mrg τ) 5000 0 = 0 := by
            rw [chan_rows c0' c1 c2 5000 (by decide), u2_at]
          rw [q0]
          split <;> rfl
        · refine Eq.trans ?_ E
          split at e
          · rename_i z
            rw [if_pos z]
            exact (Sum.inl.inj e).symm
          · rename_i z
            rw [if_neg z]
            exact (Sum.inl.inj e).symm
      · unfold g_Mchannel
        rw [if_pos c0, if_pos c1, if_neg c2, if_pos c0', if_pos c1, if_neg c2]
        exact ⟨u2_at, fun w e => by cases e⟩
    · unfold g_Mchannel
      rw [if_pos c0, if_neg c1, if_pos c0', if_neg c1]
      exact ⟨u2_at, fun w e => by cases e⟩
  · have c0' : ¬ n_bt v 0 (nI (mC τ) - 1) := fun z => c0 ((sub1_lt (by omega)).mp z)
    unfold g_Mchannel
    rw [if_neg c0, if_neg c0']
    exact ⟨u2_at, fun w e => by cases e⟩
end
end
section
/-! ===== clear, alike on both sides ===== -/
section
variable {τ σ : XS9} {x : Int32} {C ch : Nat}
theorem bt_nt {m j : Nat} (hj : j < 32) : bt (nI m) j = m.testBit j := by
  show (BitVec.ofNat 32 m).getLsbD j = m.testBit j
  rw [BitVec.getLsbD_ofNat, decide_eq_true hj, Bool.true_and]
/-- the asks of a set -/
def asN (t : Nat → Nat) (m C : Nat) : Nat := nsum (fun j => if m.testBit j then t j else 0) C
theorem asN_c {s : XS9} {t : Nat → Nat} {m : Nat} (hC10 : C ≤ 10) (h : ∀ j, j < C → s 1150 j = nI (t j)) : f_asksOf s (nI m) C = nI (asN t m C) := by
  have e : f_asksOf s (nI m) C = xsum (fun j => if m.testBit j then nI (t j) else 0) C := by
    unfold f_asksOf x_asksOf_4 xsum
    refine xit_cg (N := C) (fun j a hj => ?_) C 0 0 (Nat.zero_add _)
    have q := b_tst2 (x := nI m) (j := j) (by omega)
    rw [bt_nt (by omega)] at q
    (try dsimp only)
    cases z : m.testBit j with
    | true =>
      rw [if_neg (fun y => by rw [q.mp y] at z; cases z), if_pos rfl, h j hj]
    | false =>
      rw [if_pos (q.mpr z), if_neg (by decide), Int32.add_zero]
  rw [e]
  exact xsum_n fun j hj => by
    (try dsimp only)
    split <;> rfl
theorem asN_m {s : XS9} {p : XS9 × Int32 × Int32} {t : Nat → Nat} {m : Nat} (hC10 : C ≤ 10) (h : ∀ j, j < C → s 5004 (2 * j + 1) = nI (t j)) : x_MclearNow_41 s C p m 0 = nI (asN t m C) := by
  have e : x_MclearNow_41 s C p m 0 = xsum (fun j => if m.testBit j then nI (t j) else 0) C := by
    unfold x_MclearNow_41 xsum
    refine xit_cg (N := C) (fun j a hj => ?_) C 0 0 (Nat.zero_add _)
    have q := b_tst1 (x := nI m) (j := j) (by omega)
    rw [bt_nt (by omega)] at q
    (try dsimp only)
    cases z : m.testBit j with
    | true => rw [q.1.mpr z, Int32.one_mul, h j hj, if_pos rfl]
    | false => rw [q.2.mpr z, Int32.zero_mul, if_neg (by decide)]
  rw [e]
  exact xsum_n fun j hj => by
    (try dsimp only)
    split <;> rfl
theorem nsum_mono {d d2 : Nat → Nat} {N : Nat} (h : ∀ i, i < N → d i ≤ d2 i) : nsum d N ≤ nsum d2 N := by
  induction N with
  | zero => exact Nat.le_refl _
  | succ n ih =>
    have a := ih fun i hi => h i (by omega)
    have b := h n (by omega)
    show nsum d n + d n ≤ nsum d2 n + d2 n
    omega
theorem nsum_lt {d d2 : Nat → Nat} {N i : Nat} (h : ∀ i, i < N → d i ≤ d2 i) (hi : i < N) (hl : d i < d2 i) : nsum d N < nsum d2 N := by
  induction N with
  | zero => omega
  | succ n ih =>
    have b := h n (by omega)
    show nsum d n + d n < nsum d2 n + d2 n
    by_cases e : i = n
    · subst e
      have a := nsum_mono (d := d) (d2 := d2) (N := i) fun k hk => h k (by omega)
      omega
    · have a := ih (fun k hk => h k (by omega)) (by omega)
      omega
theorem all_bit {j : Nat} (hj : j < C) : (2 ^ C - 1).testBit j = true := by
  rw [Nat.testBit_two_pow_sub_one]
  exact decide_eq_true hj
theorem miss_bit : ∀ (C m : Nat), m < 2 ^ C - 1 → ∃ j, j < C ∧ m.testBit j = false := by
  intro C m h
  refine Classical.byContradiction fun n => ?_
  have e : m = 2 ^ C - 1 := by
    refine Nat.eq_of_testBit_eq fun j => ?_
    rw [Nat.testBit_two_pow_sub_one]
    rcases Nat.lt_or_ge j C with z | z
    · rw [decide_eq_true z]
      cases y : m.testBit j with
      | true => rfl
      | false => exact absurd ⟨j, z, y⟩ n
    · rw [decide_eq_false (Nat.not_lt_of_le z)]
      exact Nat.testBit_lt_two_pow (Nat.lt_of_lt_of_le (by omega) (Nat.pow_le_pow_right (by decide) z))
  omega
theorem asN_lt {t : Nat → Nat} {m : Nat} (h1 : ∀ j, j < C → 1 ≤ t j) (hm : m < 2 ^ C - 1) : asN t m C < asN t (2 ^ C - 1) C := by
  obtain ⟨j, hj, hb⟩ := miss_bit C m hm
  refine nsum_lt (i := j) (fun i hi => ?_) hj ?_
  · (try dsimp only)
    rw [all_bit hi, if_pos rfl]
    split
    · exact Nat.le_refl _
    · exact Nat.zero_le _
  · (try dsimp only)
    rw [all_bit hj, if_pos rfl, hb, if_neg (by decide)]
    exact h1 j hj
theorem asN_le {t : Nat → Nat} {m k : Nat} (h : ∀ j, j < C → t j ≤ k) : asN t m C ≤ k * C := nsum_le fun j hj => by
  (try dsimp only)
  split
  · exact h j hj
  · exact Nat.zero_le _
/-- the set that is left -/
theorem left_eq {C m : Nat} (hC10 : C ≤ 10) (hm : m < 2 ^ C) : nI (2 ^ C - 1) - nI m = nI (2 ^ C - 1) &&& (nI m ^^^ (-1)) := by
  rw [nI_minus (by omega)]
  have p10 := pow_le10 hC10
  refine b_ext fun i hi => ?_
  rw [b_and, b_xor, b_m1 i hi, bt_nt hi, bt_nt hi, bt_nt hi, Nat.testBit_two_pow_sub_one, show 2 ^ C - 1 - m = 2 ^ C - (m + 1) by omega, Nat.testBit_two_pow_sub_succ hm, Bool.xor_true]
end
end
section
def stK (ch C i : Nat) (p : XS9 × Int32 × Int32) : XS9 × Int32 × Int32 := (if p.2.2 ≤ (f_asksOf p.1 (nI i) C) then (p.1, p.2.1, p.2.2) else (if (f_packAgain p.1 ((nI (2 ^ C - 1)) - (nI i)) ch C) = 0 then (g_packAgain p.1 ((nI (2 ^ C - 1)) - (nI i)) ch C, p.2.1, p.2.2) else (g_packAgain p.1 ((nI (2 ^ C - 1)) - (nI i)) ch C, nI i, f_asksOf p.1 (nI i) C)))
def stKM (σ : XS9) (ch C : Nat) (rg : Nat → Nat) (i : Nat) (p : XS9 × Int32 × Int32) : XS9 × Int32 × Int32 := (if p.2.2 ≤ (x_MclearNow_41 σ C p i 0) then (p.1, p.2.1, p.2.2) else (if (f_Mcp p.1 ((nI (2 ^ C - 1)) &&& ((nI i) ^^^ (-1))) 0 C rg 20000 ch) = 0 then (g_Mcp p.1 ((nI (2 ^ C - 1)) &&& ((nI i) ^^^ (-1))) 0 C rg 20000 ch, p.2.1, p.2.2) else (g_Mcp p.1 ((nI (2 ^ C - 1)) &&& ((nI i) ^^^ (-1))) 0 C rg 20000 ch, nI i, (x_MclearNow_41 σ C p i 0))))
section
variable {τ σ : XS9} {x : Int32} {C ch R : Nat}
/-- both searches so far -/
def KI (D t0 : XS9) (t : Nat → Nat) (C : Nat) (pc pm : XS9 × Int32 × Int32) : Prop := (∀ q, q ≠ 1153 → pc.1 q = D q) ∧ pm.1 = t0 ∧ ((pm.2 = (nI (2 ^ C - 1), 2147483647) ∧ pc.2 = (nI (2 ^ C - 1), nI (asN t (2 ^ C - 1) C))) ∨ ∃ m, asN t m C < asN t (2 ^ C - 1) C ∧ pc.2 = (nI m, nI (asN t m C)) ∧ pm.2 = pc.2)
theorem cheap_eq (h : RA τ σ) (hb : RB τ) (r : JR τ) (rs : RS τ) (hch : ch ≤ 6) : f_cheapest σ ch (mC τ) (arg σ) = f_MclearNow (u2 τ 5000 0 0) ch R (mC τ) (mrg τ) := by
  have hC10 := r.hS.2
  obtain ⟨p1, p2⟩ := pow_le10 hC10
  obtain ⟨t, et⟩ : ∃ t : Nat → Nat, t = fun j => cn (τ 5004 (2 * j + 1)) := ⟨_, rfl⟩
  have tb : ∀ j, j < mC τ → t j ≤ 9999 := fun j hj => by rw [et]; exact (rs j hj).1.2
  have t1 : ∀ j, j < mC τ → 1 ≤ t j := fun j hj => by
    rw [et]
    exact Nat.pos_of_ne_zero fun e => (rs j hj).2 (by rw [(rs j hj).1.1, (show cn (τ 5004 (2 * j + 1)) = 0 from e)]; rfl)
  have tm : ∀ j, j < mC τ → τ 5004 (2 * j + 1) = nI (t j) := fun j hj => by rw [et]; exact (rs j hj).1.1
  have tc : ∀ j, j < mC τ → σ 1150 j = nI (t j) := fun j hj => by rw [(h.2.2.2.2.1 j (by omega)).1]; exact tm j hj
  have al : ∀ m, asN t m (mC τ) ≤ 99990 := fun m => Nat.le_trans (asN_le tb) (by omega)
  obtain ⟨D, eD⟩ : ∃ D, D = g_findDisturbed σ (mC τ) (arg σ) := ⟨_, rfl⟩
  obtain ⟨t0, e0⟩ : ∃ t0, t0 = uR (u2 τ 5000 0 0) 20000 (rowN ch) := ⟨_, rfl⟩
  have d1150 : D 1150 = σ 1150 := by rw [eD, fr_findDisturbed (by decide)]
  have m0 : ∀ a, a < 5 → t0 (5010 + a) = τ (5010 + a) := fun a ha => by rw [e0, uR_ne (by omega), u2_ne (by omega)]
  have mr : t0 20000 = rowN ch := by rw [e0, uR_eq]
  have same : ∀ x, g_Mcp t0 x 0 (mC τ) (mrg τ) 20000 ch = t0 := fun x => pk_same hC10 (mC τ) t0 0 (Nat.zero_le _) (by omega) fun c hc => ⟨0, Nat.one_pos, by
    rw [mr]
    unfold rowN
    rw [if_neg (by omega), if_neg (by omega)]
    rfl⟩
  have av : ∀ m (p : XS9 × Int32 × Int32), x_MclearNow_41 (u2 τ 5000 0 0) (mC τ) p m 0 = nI (asN t m (mC τ)) := fun m p => asN_m hC10 fun j hj => by rw [u2_ne (by decide)]; exact tm j hj
  have pcs : ∀ m (p : XS9 × Int32 × Int32), (∀ q, q ≠ 1153 → p.1 q = D q) → f_asksOf p.1 (nI m) (mC τ) = nI (asN t m (mC τ)) := fun m p e => asN_c hC10 fun j hj => by rw [e 1150 (by decide), d1150]; exact tc j hj
  have pks : ∀ m (p : XS9 × Int32 × Int32), m < 2 ^ mC τ → (∀ q, q ≠ 1153 → p.1 q = D q) → f_packAgain p.1 (nI (2 ^ mC τ - 1) - nI m) ch (mC τ) = f_Mcp t0 (nI (2 ^ mC τ - 1) &&& (nI m ^^^ (-1))) 0 (mC τ) (mrg τ) 20000 ch := fun m p hm e => by
    rw [left_eq hC10 hm]
    exact again_any h hb r hch (fun q hq => by rw [e q hq, eD]) m0 mr
  have pfr : ∀ (s : XS9) y q, q ≠ 1153 → g_packAgain s y ch (mC τ) q = s q := fun s y q hq => by
    show (fg_pack ch y (mC τ) 10 0).2 (g_fill s 1153 6 0) 0 q = s q
    rw [fr_pack 10 0 hq, fr_fill hq]
  have L : ∀ k, k ≤ 2 ^ mC τ - 1 → KI D t0 t (mC τ) (xit (stK ch (mC τ)) k 0 (D, nI (2 ^ mC τ - 1), nI (asN t (2 ^ mC τ - 1) (mC τ)))) (xit (stKM (u2 τ 5000 0 0) ch (mC τ) (mrg τ)) k 0 (t0, nI (2 ^ mC τ - 1), 2147483647)) := by
    intro k
    induction k with
    | zero => exact fun _ => ⟨fun _ _ => rfl, rfl, .inl ⟨rfl, rfl⟩⟩
    | succ k ih =>
      intro hk
      have I := ih (by omega)
      rw [xit_last, xit_last]
      generalize xit (stK ch (mC τ)) k 0 (D, nI (2 ^ mC τ - 1), nI (asN t (2 ^ mC τ - 1) (mC τ))) = pc at I ⊢
      generalize xit (stKM (u2 τ 5000 0 0) ch (mC τ) (mrg τ)) k 0 (t0, nI (2 ^ mC τ - 1), 2147483647) = pm at I ⊢
      obtain ⟨i1, i2, i3⟩ := I
      have lt : asN t k (mC τ) < asN t (2 ^ mC τ - 1) (mC τ) := asN_lt t1 (by omega)
      have ak := al k
      have aN := al (2 ^ mC τ - 1)
      have eC : stK ch (mC τ) k pc = (if pc.2.2 ≤ nI (asN t k (mC τ)) then (pc.1, pc.2.1, pc.2.2) else (if f_Mcp t0 (nI (2 ^ mC τ - 1) &&& (nI k ^^^ (-1))) 0 (mC τ) (mrg τ) 20000 ch = 0 then (g_packAgain pc.1 ((nI (2 ^ mC τ - 1)) - (nI k)) ch (mC τ), pc.2.1, pc.2.2) else (g_packAgain pc.1 ((nI (2 ^ mC τ - 1)) - (nI k)) ch (mC τ), nI k, nI (asN t k (mC τ))))) := by
        unfold stK
        rw [pcs k pc i1, pks k pc (by omega) i1]
      have eM : stKM (u2 τ 5000 0 0) ch (mC τ) (mrg τ) k pm = (if pm.2.2 ≤ nI (asN t k (mC τ)) then (pm.1, pm.2.1, pm.2.2) else (if f_Mcp t0 (nI (2 ^ mC τ - 1) &&& (nI k ^^^ (-1))) 0 (mC τ) (mrg τ) 20000 ch = 0 then (t0, pm.2.1, pm.2.2) else (t0, nI k, nI (asN t k (mC τ))))) := by
        unfold stKM
        rw [av k pm, i2, same]
      rw [eC, eM]
      rcases i3 with ⟨j1, j2⟩ | ⟨m, j1, j2, j3⟩
      · have n1 : ¬ pc.2.2 ≤ nI (asN t k (mC τ)) := by
          rw [j2]
          exact fun z => absurd ((nle (by omega) (by omega)).mp z) (by omega)
        have n2 : ¬ pm.2.2 ≤ nI (asN t k (mC τ)) := by
          rw [j1]
          show ¬ (nI 2147483647) ≤ nI (asN t k (mC τ))
          exact fun z => absurd ((nle (by omega) (by omega)).mp z) (by omega)
        rw [if_neg n1, if_neg n2]
        split
        · exact ⟨fun q hq => (pfr _ _ q hq).trans (i1 q hq), rfl, .inl ⟨j1, j2⟩⟩
        · exact ⟨fun q hq => (pfr _ _ q hq).trans (i1 q hq), rfl, .inr ⟨k, lt, rfl, rfl⟩⟩
      · rw [j3]
        by_cases c : pc.2.2 ≤ nI (asN t k (mC τ))
        · rw [if_pos c, if_pos c]
          exact ⟨i1, i2, .inr ⟨m, j1, j2, rfl⟩⟩
        · rw [if_neg c, if_neg c]
          split
          · exact ⟨fun q hq => (pfr _ _ q hq).trans (i1 q hq), rfl, .inr ⟨m, j1, j2, rfl⟩⟩
          · exact ⟨fun q hq => (pfr _ _ q hq).trans (i1 q hq), rfl, .inr ⟨k, lt, rfl, rfl⟩⟩
  have I := L (2 ^ mC τ - 1) (Nat.le_refl _)
  have eA : f_asksOf D (nI (2 ^ mC τ - 1)) (mC τ) = nI (asN t (2 ^ mC τ - 1) (mC τ)) := asN_c hC10 fun j hj => by rw [d1150]; exact tc j hj
  have ec : f_cheapest σ ch (mC τ) (arg σ) = (xit (stK ch (mC τ)) (2 ^ mC τ - 1) 0 (D, nI (2 ^ mC τ - 1), nI (asN t (2 ^ mC τ - 1) (mC τ)))).2.1 := by
    rw [← eA, eD]
    rfl
  have e2 : f_MclearNow (u2 τ 5000 0 0) ch R (mC τ) (mrg τ) = (xit (stKM (u2 τ 5000 0 0) ch (mC τ) (mrg τ)) (2 ^ mC τ) 0 (t0, nI (2 ^ mC τ - 1), 2147483647)).2.1 := by
    rw [e0]
    rfl
  rw [ec, e2, show xit (stKM (u2 τ 5000 0 0) ch (mC τ) (mrg τ)) (2 ^ mC τ) 0 (t0, nI (2 ^ mC τ - 1), 2147483647) = stKM (u2 τ 5000 0 0) ch (mC τ) (mrg τ) (2 ^ mC τ - 1) (xit (stKM (u2 τ 5000 0 0) ch (mC τ) (mrg τ)) (2 ^ mC τ - 1) 0 (t0, nI (2 ^ mC τ - 1), 2147483647)) from by
    have z := xit_last (step := stKM (u2 τ 5000 0 0) ch (mC τ) (mrg τ)) (a := 2 ^ mC τ - 1) (s := (t0, nI (2 ^ mC τ - 1), 2147483647))
    rw [show 2 ^ mC τ - 1 + 1 = 2 ^ mC τ by omega] at z
    exact z]
  generalize xit (stK ch (mC τ)) (2 ^ mC τ - 1) 0 (D, nI (2 ^ mC τ - 1), nI (asN t (2 ^ mC τ - 1) (mC τ))) = pc at I ⊢
  generalize xit (stKM (u2 τ 5000 0 0) ch (mC τ) (mrg τ)) (2 ^ mC τ - 1) 0 (t0, nI (2 ^ mC τ - 1), 2147483647) = pm at I ⊢
  obtain ⟨i1, i2, i3⟩ := I
  have aN := al (2 ^ mC τ - 1)
  unfold stKM
  rw [av (2 ^ mC τ - 1) pm]
  rcases i3 with ⟨j1, j2⟩ | ⟨m, j1, j2, j3⟩
  · rw [j2, j1]
    (repeat' split) <;> rfl
  · have am := al m
    rw [j3, j2, if_pos ((nle (by omega) (by omega)).mpr (Nat.le_of_lt j1))]
end
end
section
section
variable {τ σ : XS9} {x : Int32} {C ch R : Nat}
theorem says_clear (h : RA τ σ) (hb : RB τ) (r : JR τ) (rs : RS τ) (eC : aC σ = mC τ) : g_Mclear τ x (mR τ) (mC τ) (mrg τ) 5000 0 = lw_k [eIAE] (o_clear σ x (aC σ) (arg σ)) ∧ ∀ w, o_clear σ x (aC σ) (arg σ) = .inl w → w = f_Mclear τ x (mR τ) (mC τ) (mrg τ) := by
  rw [eC]
  unfold g_Mclear o_clear f_Mclear
  by_cases c1 : n_bt x 1 6
  · have hc := cn6 c1
    simp only [if_pos c1]
    refine ⟨?_, fun w e => ?_⟩
    · rw [fr_MclearNow ⟨by decide, hc⟩, u2_at]
      rfl
    · rw [← Sum.inl.inj e]
      exact cheap_eq h hb r rs hc
  · simp only [if_neg c1]
    exact bad rfl
/-! asks are kept from 1 to 9999 -/
theorem RS.kept {τ2 : XS9} (h : RS τ) (m : MA τ τ2) : RS τ2 := fun k hk => by
  have M : ∀ q i, kb q i → τ2 q i = τ q i := m
  have e : mC τ2 = mC τ := by
    show cn (τ2 5004 900) / 2 = cn (τ 5004 900) / 2
    rw [M _ _ (by unfold kb; omega)]
  rw [e] at hk
  rw [M _ _ (by unfold kb; omega)]
  exact h k hk
theorem RS.row {τ2 : XS9} (h : RS τ) (e : τ2 5004 = τ 5004) : RS τ2 := fun k hk => by
  have e2 : mC τ2 = mC τ := by
    show cn (τ2 5004 900) / 2 = cn (τ 5004 900) / 2
    rw [e]
  rw [e2] at hk
  rw [e]
  exact h k hk
theorem RS.init : RS s0M := fun k hk => absurd hk (Nat.not_lt_zero _)
theorem bd9999 {y : Int32} (h : n_bt y 1 9999) : bd 9999 y ∧ y ≠ 0 := by
  have a : n_bt y 0 9999 := ⟨by
    have := h.1
    exact Int32.le_trans (by decide) this, h.2⟩
  exact ⟨bd.bt (m := 9999) a (by decide) rfl (by decide), fun e => by
    have := h.1
    rw [e] at this
    exact absurd this (by decide)⟩
theorem RS.s00 {x : Int32} (h : RS τ) : RS (u2 (u2 τ 5000 0 0) 5000 0 x) := h.kept MA.s00
theorem RS.station {x y : Int32} {R C : Nat} (h : RS τ) (hC : τ 5004 900 = nI (2 * C)) (hC10 : C ≤ 10) : RS (g_Mstation τ x y R C) := by
  unfold g_Mstation g_addI
  split
  · split
    · rename_i hy
      split
      · exact h.s00
      · intro k hk
        have e : mC τ = C := by
          show cn (τ 5004 900) / 2 = C
          rw [hC, cn_nI (by omega)]
          omega
        have hk : cn (u2 _ 5004 900 (nI (2 * C + 1 + 1)) 5004 900) / 2 > k := hk
        rw [u2_at, cn_nI (by omega)] at hk
        by_cases e9 : k = C
        · subst e9
          rw [u2_oi (by omega), u2_at]
          exact bd9999 hy
        · rw [u2_oi (by omega), u2_oi (by omega), u2_oi (by omega), u2_oi (by omega), u2_ne (by decide)]
          exact h k (by omega)
    · exact h.s00
  · exact h.s00
theorem RS.ask {x y : Int32} {C : Nat} (h : RS τ) (hC10 : mC τ ≤ 10) : RS (g_Mask τ x y C) := by
  unfold g_Mask g_setS
  split
  · split
    · rename_i hy
      intro k hk
      have hk : k < cn (u2 (u2 (u2 τ 5000 0 0) 5004 (2 * cn x + 1) y) 5004 (100 + (2 * cn x + 1)) _ 5004 900) / 2 := hk
      rw [u2_oi (by omega), u2_oi (by omega), u2_ne (by decide)] at hk
      have hk : k < mC τ := hk
      by_cases e9 : k = cn x
      · subst e9
        rw [u2_oi (by omega), u2_at]
        exact bd9999 hy
      · rw [u2_oi (by omega), u2_oi (by omega), u2_ne (by decide)]
        exact h k hk
    · exact h.s00
  · exact h.s00
theorem RS.rules {x y : Int32} (h : RS τ) : RS (g_Mrules τ x y) := by
  unfold g_Mrules
  (repeat' split) <;> first | with_reducible exact h.s00 | exact h.row (by rw [u2_ne (by decide), u2_ne (by decide), u2_ne (by decide)]) | exact h.s00
theorem RS.knock (h : RS τ) : RS (g_Mknock τ) := by
  unfold g_Mknock
  exact h.row (by rw [u2_ne (by decide), u2_ne (by decide)])
theorem RS.border {x y : Int32} {R : Nat} (h : RS τ) (hR5 : R ≤ 5) : RS (g_Mborder τ x y R) := by
  unfold g_Mborder
  split
  · rename_i hx
    have hx2 := hx.2
    split
    · rename_i hy
      have hy2 := hy.2
      split
      · exact h.s00
      · split
        · exact h.row (by rw [u2_ne (by omega), u2_ne (by omega), u2_ne (by decide)])
        · exact h.s00
    · exact h.s00
  · exact h.s00
theorem RS.region {x y v : Int32} {R : Nat} (h : RS τ) (hR5 : R ≤ 5) : RS (g_Mregion τ x y v R) := by
  unfold g_Mregion
  (repeat' split) <;> first | with_reducible exact h.s00 | exact h.row (by rw [u2_ne (by decide), uR_ne (by omega), u2_ne (by decide)]) | exact h.s00
theorem RS.bidder {x y v u : Int32} {B : Nat} (h : RS τ) (hB6 : B ≤ 6) : RS (g_Mbidder τ x y v u B) := by
  unfold g_Mbidder
  (repeat' split) <;> first | with_reducible exact h.s00 | exact h.row (by rw [u2_ne (by decide), u2_ne (by omega), uR_ne (by omega), u2_ne (by decide)]) | exact h.s00
end
end
section
/-! ===== choices: 0 is none, k + 1 is the package k ===== -/
def cUp (c : Nat → Nat) (i v : Nat) : Nat → Nat := fun j => if j = i then v else c j
def cDg (D : Nat → Nat → Nat → Nat) (r : Nat) (c : Nat → Nat) (j : Nat) : Nat := if c j = 0 then 0 else D j (c j - 1) r
def cGd (D : Nat → Nat → Nat → Nat) (gr : Nat → Nat) (g r : Nat) (c : Nat → Nat) (j : Nat) : Nat := if gr j = g then cDg D r c j else 0
def cAd (A : Nat → Nat → Nat) (c : Nat → Nat) (j : Nat) : Nat := if c j = 0 then 0 else A j (c j - 1)
def cSb (c : Nat → Nat) (j : Nat) : Nat := if c j = 0 then 0 else 2 ^ j
def cTk (D : Nat → Nat → Nat → Nat) (r : Nat) (c : Nat → Nat) : Nat := nsum (cDg D r c) 6
def cTg (D : Nat → Nat → Nat → Nat) (gr : Nat → Nat) (g r : Nat) (c : Nat → Nat) : Nat := nsum (cGd D gr g r c) 6
def cAm (A : Nat → Nat → Nat) (c : Nat → Nat) : Nat := nsum (cAd A c) 6
def cSp (c : Nat → Nat) : Nat := nsum (cSb c) 6
def lx (c d : Nat → Nat) : Prop := ∃ i, i < 6 ∧ (∀ j, j < i → c j = d j) ∧ c i < d i
def e6 (c d : Nat → Nat) : Prop := ∀ j, j < 6 → c j = d j
def rwc (v : Nat) : Int32 := if v = 0 then -1 else nI (v - 1)
/-- at least as good -/
def btr (A : Nat → Nat → Nat) (c d : Nat → Nat) : Prop := cAm A d < cAm A c ∨ (cAm A d = cAm A c ∧ ¬ lx d c)
def cFe (D : Nat → Nat → Nat → Nat) (gr q : Nat → Nat) (cap R : Nat) (c : Nat → Nat) : Prop := ∀ r, r < R → cTk D r c ≤ q r ∧ ∀ g, 0 < g → cTg D gr g r c ≤ cap
def cOk (pk : Nat → Nat) (c : Nat → Nat) : Prop := ∀ j, j < 6 → c j ≤ pk j
section
variable {D : Nat → Nat → Nat → Nat} {A : Nat → Nat → Nat} {gr q pk : Nat → Nat} {cap R r g i k : Nat} {c d e : Nat → Nat}
theorem cUp_at {v : Nat} : cUp c i v i = v := if_pos rfl
theorem cUp_ne {v j : Nat} (h : j ≠ i) : cUp c i v j = c j := if_neg h
theorem e6.symm (h : e6 c d) : e6 d c := fun j hj => (h j hj).symm
theorem e6.tk (h : e6 c d) : cTk D r c = cTk D r d := nsum_cg fun j hj => by
  unfold cDg
  rw [h j hj]
theorem e6.tg (h : e6 c d) : cTg D gr g r c = cTg D gr g r d := nsum_cg fun j hj => by
  unfold cGd cDg
  rw [h j hj]
theorem e6.am (h : e6 c d) : cAm A c = cAm A d := nsum_cg fun j hj => by
  unfold cAd
  rw [h j hj]
theorem e6.sp (h : e6 c d) : cSp c = cSp d := nsum_cg fun j hj => by
  unfold cSb
  rw [h j hj]
theorem e6.fe (h : e6 c d) (f : cFe D gr q cap R c) : cFe D gr q cap R d := fun r hr => by
  rw [← h.tk]
  refine ⟨(f r hr).1, fun g hg => ?_⟩
  rw [← h.tg]
  exact (f r hr).2 g hg
theorem e6.ok (h : e6 c d) (f : cOk pk c) : cOk pk d := fun j hj => by
  rw [← h j hj]
  exact f j hj
theorem e6.lxl (h : e6 c d) (l : lx c e) : lx d e := by
  obtain ⟨i, h1, h2, h3⟩ := l
  exact ⟨i, h1, fun j hj => by rw [← h j (by omega)]; exact h2 j hj, by rw [← h i h1]; exact h3⟩
theorem e6.lxr (h : e6 c d) (l : lx e c) : lx e d := by
  obtain ⟨i, h1, h2, h3⟩ := l
  exact ⟨i, h1, fun j hj => by rw [← h j (by omega)]; exact h2 j hj, by rw [← h i h1]; exact h3⟩
theorem nsum_mo {d d2 : Nat → Nat} {N : Nat} (h : ∀ i, i < N → d i ≤ d2 i) : nsum d N ≤ nsum d2 N := by
  induction N with
  | zero => exact Nat.le_refl _
  | succ n ih =>
    have a := ih (fun i hi => h i (by omega))
    have b := h n (by omega)
    show nsum d n + d n ≤ nsum d2 n + d2 n
    omega
theorem nsum_z {N : Nat} {d : Nat → Nat} (h : ∀ i, i < N → d i = 0) : nsum d N = 0 := by
  induction N with
  | zero => rfl
  | succ n ih =>
    show nsum d n + d n = 0
    rw [ih (fun i hi => h i (by omega)), h n (by omega)]
theorem cTk_up (hi : i < 6) (h0 : c i = 0) : cTk D r (cUp c i (k + 1)) = cTk D r c + D i k r := by
  have := nsum_set (d := cDg D r c) (d2 := cDg D r (cUp c i (k + 1))) hi (fun j _ e => by
    unfold cDg
    rw [cUp_ne e])
  rw [show cDg D r c i = 0 from if_pos h0, show cDg D r (cUp c i (k + 1)) i = D i k r from by
    unfold cDg
    rw [cUp_at, if_neg (by omega), Nat.add_sub_cancel]] at this
  exact this
theorem cTg_up (hi : i < 6) (h0 : c i = 0) : cTg D gr g r (cUp c i (k + 1)) = cTg D gr g r c + if gr i = g then D i k r else 0 := by
  have := nsum_set (d := cGd D gr g r c) (d2 := cGd D gr g r (cUp c i (k + 1))) hi (fun j _ e => by
    unfold cGd cDg
    rw [cUp_ne e])
  rw [show cGd D gr g r c i = 0 from by
    unfold cGd cDg
    rw [if_pos h0]
    split <;> rfl, show cGd D gr g r (cUp c i (k + 1)) i = if gr i = g then D i k r else 0 from by
    unfold cGd cDg
    rw [cUp_at, if_neg (show ¬ k + 1 = 0 by omega), Nat.add_sub_cancel]] at this
  exact this
theorem cAm_up (hi : i < 6) (h0 : c i = 0) : cAm A (cUp c i (k + 1)) = cAm A c + A i k := by
  have := nsum_set (d := cAd A c) (d2 := cAd A (cUp c i (k + 1))) hi (fun j _ e => by
    unfold cAd
    rw [cUp_ne e])
  rw [show cAd A c i = 0 from if_pos h0, show cAd A (cUp c i (k + 1)) i = A i k from by
    unfold cAd
    rw [cUp_at, if_neg (by omega), Nat.add_sub_cancel]] at this
  exact this
theorem cSp_up (hi : i < 6) (h0 : c i = 0) : cSp (cUp c i (k + 1)) = cSp c + 2 ^ i := by
  have := nsum_set (d := cSb c) (d2 := cSb (cUp c i (k + 1))) hi (fun j _ e => by
    unfold cSb
    rw [cUp_ne e])
  rw [show cSb c i = 0 from if_pos h0, show cSb (cUp c i (k + 1)) i = 2 ^ i from by
    unfold cSb
    rw [cUp_at, if_neg (by omega)]] at this
  exact this
theorem cAm_le {m : Nat} (h : ∀ j, j < 6 → cAd A c j ≤ m) : cAm A c ≤ m * 6 := nsum_le h
/-! the set of those who have something -/
def bsum6 (b0 b1 b2 b3 b4 b5 : Bool) : Nat := (((((0 + (if b0 = true then 2 ^ 0 else 0)) + (if b1 = true then 2 ^ 1 else 0)) + (if b2 = true then 2 ^ 2 else 0)) + (if b3 = true then 2 ^ 3 else 0)) + (if b4 = true then 2 ^ 4 else 0)) + (if b5 = true then 2 ^ 5 else 0)
theorem bsum6_ok (b0 b1 b2 b3 b4 b5 : Bool) : bsum6 b0 b1 b2 b3 b4 b5 < 64 ∧ (bsum6 b0 b1 b2 b3 b4 b5).testBit 0 = b0 ∧ (bsum6 b0 b1 b2 b3 b4 b5).testBit 1 = b1 ∧ (bsum6 b0 b1 b2 b3 b4 b5).testBit 2 = b2 ∧ (bsum6 b0 b1 b2 b3 b4 b5).testBit 3 = b3 ∧ (bsum6 b0 b1 b2 b3 b4 b5).testBit 4 = b4 ∧ (bsum6 b0 b1 b2 b3 b4 b5).testBit 5 = b5 := by
  revert b0 b1 b2 b3 b4 b5
  decide +kernel
theorem cSb_b {j : Nat} : cSb c j = if decide (c j ≠ 0) = true then 2 ^ j else 0 := by
  unfold cSb
  by_cases h : c j = 0
  · rw [if_pos h, if_neg (by simp [h])]
  · rw [if_neg h, if_pos (by simp [h])]
theorem cSp_b : cSp c = bsum6 (decide (c 0 ≠ 0)) (decide (c 1 ≠ 0)) (decide (c 2 ≠ 0)) (decide (c 3 ≠ 0)) (decide (c 4 ≠ 0)) (decide (c 5 ≠ 0)) := by
  show (((((0 + cSb c 0) + cSb c 1) + cSb c 2) + cSb c 3) + cSb c 4) + cSb c 5 = _
  rw [cSb_b, cSb_b, cSb_b, cSb_b, cSb_b, cSb_b]
  rfl
theorem cSp_lt : cSp c < 64 := by
  rw [cSp_b]
  exact (bsum6_ok _ _ _ _ _ _).1
theorem cSp_bit (hi : i < 6) : (cSp c).testBit i = decide (c i ≠ 0) := by
  have h := bsum6_ok (decide (c 0 ≠ 0)) (decide (c 1 ≠ 0)) (decide (c 2 ≠ 0)) (decide (c 3 ≠ 0)) (decide (c 4 ≠ 0)) (decide (c 5 ≠ 0))
  rw [← cSp_b] at h
  match i, hi with
  | 0, _ => exact h.2.1
  | 1, _ => exact h.2.2.1
  | 2, _ => exact h.2.2.2.1
  | 3, _ => exact h.2.2.2.2.1
  | 4, _ => exact h.2.2.2.2.2.1
  | 5, _ => exact h.2.2.2.2.2.2
theorem or_plus {S : Nat} (hS : S < 64) (hi : i < 6) (hb : S.testBit i = false) : S ||| 2 ^ i = S + 2 ^ i := by
  have : ∀ S, S < 64 → ∀ i, i < 6 → S.testBit i = false → S ||| 2 ^ i = S + 2 ^ i := by decide +kernel
  exact this S hS i hi hb
theorem cSp_or (hi : i < 6) (h0 : c i = 0) : cSp c ||| 2 ^ i = cSp (cUp c i (k + 1)) := by
  rw [cSp_up hi h0]
  exact or_plus cSp_lt hi (by rw [cSp_bit hi]; simp [h0])
/-! order -/
theorem lx_no : ¬ lx c c := fun ⟨_, _, _, h⟩ => absurd h (Nat.lt_irrefl _)
theorem lx_cut : ∀ n, n ≤ 6 → (∀ j, j < n → c j = d j) ∨ lx c d ∨ lx d c := by
  intro n
  induction n with
  | zero => exact fun _ => .inl fun j hj => absurd hj (by omega)
  | succ n ih =>
    intro hn
    rcases ih (by omega) with h | h
    · rcases Nat.lt_trichotomy (c n) (d n) with l | l | l
      · exact .inr (.inl ⟨n, by omega, h, l⟩)
      · refine .inl fun j hj => ?_
        by_cases e : j = n
        · rw [e]
          exact l
        · exact h j (by omega)
      · exact .inr (.inr ⟨n, by omega, fun j hj => (h j hj).symm, l⟩)
    · exact .inr h
theorem lx_tri : e6 c d ∨ lx c d ∨ lx d c := lx_cut 6 (Nat.le_refl _)
theorem lx_trans (h1 : lx c d) (h2 : lx d e) : lx c e := by
  obtain ⟨i, a1, a2, a3⟩ := h1
  obtain ⟨j, b1, b2, b3⟩ := h2
  rcases Nat.lt_trichotomy i j with l | l | l
  · exact ⟨i, a1, fun k hk => (a2 k hk).trans (b2 k (by omega)), by rw [← b2 i l]; exact a3⟩
  · subst l
    exact ⟨i, a1, fun k hk => (a2 k hk).trans (b2 k hk), Nat.lt_trans a3 b3⟩
  · exact ⟨j, b1, fun k hk => (a2 k (by omega)).trans (b2 k hk), by rw [a2 j l]; exact b3⟩
theorem lx_asym (h1 : lx c d) (h2 : lx d c) : False := lx_no (lx_trans h1 h2)
theorem btr.rfl' : btr A c c := .inr ⟨rfl, lx_no⟩
theorem btr.le (h : btr A c d) : cAm A d ≤ cAm A c := by
  rcases h with h | h
  · exact Nat.le_of_lt h
  · exact Nat.le_of_eq h.1
theorem btr.trans (h1 : btr A c d) (h2 : btr A d e) : btr A c e := by
  have l1 := h1.le
  have l2 := h2.le
  rcases h1 with h1 | ⟨a1, a2⟩
  · exact .inl (by omega)
  · rcases h2 with h2 | ⟨b1, b2⟩
    · exact .inl (by omega)
    · refine .inr ⟨by omega, fun l => ?_⟩
      rcases lx_tri (c := c) (d := d) with t | t | t
      · exact b2 (t.lxr l)
      · exact b2 (lx_trans l t)
      · exact a2 t
theorem btr.tot : btr A c d ∨ btr A d c := by
  rcases Nat.lt_trichotomy (cAm A c) (cAm A d) with l | l | l
  · exact .inr (.inl l)
  · rcases Classical.em (lx c d) with t | t
    · exact .inl (.inr ⟨l.symm, fun z => lx_asym t z⟩)
    · exact .inr (.inr ⟨l, t⟩)
  · exact .inl (.inl l)
theorem btr.anti (h1 : btr A c d) (h2 : btr A d c) : e6 c d := by
  have l1 := h1.le
  have l2 := h2.le
  rcases h1 with h1 | ⟨_, a⟩
  · omega
  · rcases h2 with h2 | ⟨_, b⟩
    · omega
    · rcases lx_tri (c := c) (d := d) with t | t | t
      · exact t
      · exact absurd t b
      · exact absurd t a
theorem e6.btr (h : e6 c d) : btr A c d := .inr ⟨h.symm.am, fun l => lx_no (h.symm.lxl l)⟩
theorem cLe_tk (h : ∀ j, j < 6 → c j = 0 ∨ c j = d j) : cTk D r c ≤ cTk D r d := nsum_mo fun j hj => by
  unfold cDg
  rcases h j hj with e | e
  · rw [if_pos e]
    exact Nat.zero_le _
  · rw [e]
    exact Nat.le_refl _
theorem cLe_tg (h : ∀ j, j < 6 → c j = 0 ∨ c j = d j) : cTg D gr g r c ≤ cTg D gr g r d := nsum_mo fun j hj => by
  unfold cGd cDg
  rcases h j hj with e | e
  · rw [if_pos e]
    split <;> exact Nat.zero_le _
  · rw [e]
    exact Nat.le_refl _
theorem cLe_fe (h : ∀ j, j < 6 → c j = 0 ∨ c j = d j) (f : cFe D gr q cap R d) : cFe D gr q cap R c := fun r hr => ⟨Nat.le_trans (cLe_tk h) (f r hr).1, fun g hg => Nat.le_trans (cLe_tg h) ((f r hr).2 g hg)⟩
/-- one more package is let, when it fits with what is taken -/
theorem cFe_up (hi : i < 6) (h0 : c i = 0) (f : cFe D gr q cap R c) : cFe D gr q cap R (cUp c i (k + 1)) ↔ ∀ r, r < R → cTk D r c + D i k r ≤ q r ∧ (gr i ≠ 0 → cTg D gr (gr i) r c + D i k r ≤ cap) := by
  refine ⟨fun h r hr => ?_, fun h r hr => ?_⟩
  · have a := h r hr
    rw [cTk_up hi h0] at a
    refine ⟨a.1, fun hg => ?_⟩
    have b := a.2 (gr i) (by omega)
    rw [cTg_up hi h0, if_pos rfl] at b
    exact b
  · rw [cTk_up hi h0]
    refine ⟨(h r hr).1, fun g hg => ?_⟩
    rw [cTg_up hi h0]
    by_cases e : gr i = g
    · rw [if_pos e, ← e]
      exact (h r hr).2 (by omega)
    · rw [if_neg e, Nat.add_zero]
      exact (f r hr).2 g hg
/-! rows of numbers of packages -/
theorem rwc_eq {a b : Nat} (ha : a ≤ 6) (hb : b ≤ 6) : (rwc a = rwc b ↔ a = b) ∧ (rwc b ≤ rwc a ↔ b ≤ a) := by
  have : ∀ a : Fin 7, ∀ b : Fin 7, (rwc a.1 = rwc b.1 ↔ a.1 = b.1) ∧ (rwc b.1 ≤ rwc a.1 ↔ b.1 ≤ a.1) := by decide +kernel
  exact this ⟨a, by omega⟩ ⟨b, by omega⟩
theorem ahead_go {f g : Nat → Int32} (hc : ∀ j, j < 6 → f j = rwc (c j) ∧ c j ≤ 6) (hd : ∀ j, j < 6 → g j = rwc (d j) ∧ d j ≤ 6) : ∀ (n i : Nat), i + n = 6 → (∀ j, j < i → c j = d j) → ((match xitR (fun i2 (_ : Unit) => (if (f i2) = (g i2) then (.inl () : Unit ⊕ Int32) else (if (g i2) ≤ (f i2) then .inr 0 else .inr 1))) n i () with | .inl _ => (0 : Int32) | .inr r2 => r2) = 0 ↔ ¬ lx c d)
  | 0, i, e, h => by
    refine ⟨fun _ l => ?_, fun _ => rfl⟩
    obtain ⟨k, h1, h2, h3⟩ := l
    have := h k (by omega)
    omega
  | n + 1, i, e, h => by
    have hi : i < 6 := by omega
    obtain ⟨c1, c2⟩ := hc i hi
    obtain ⟨d1, d2⟩ := hd i hi
    obtain ⟨q1, q2⟩ := rwc_eq c2 d2
    unfold xitR
    (try dsimp only)
    rw [c1, d1]
    by_cases e1 : c i = d i
    · rw [if_pos (q1.mpr e1)]
      exact ahead_go hc hd n (i + 1) (by omega) (fun j hj => by
        by_cases e2 : j = i
        · rw [e2]
          exact e1
        · exact h j (by omega))
    · rw [if_neg (fun z => e1 (q1.mp z))]
      by_cases e2 : d i ≤ c i
      · rw [if_pos (q2.mpr e2)]
        refine ⟨fun _ l => ?_, fun _ => rfl⟩
        obtain ⟨k, h1, h2, h3⟩ := l
        rcases Nat.lt_trichotomy k i with l | l | l
        · have := h k l
          omega
        · subst l
          omega
        · exact e1 (h2 i l)
      · rw [if_neg (fun z => e2 (q2.mp z))]
        exact ⟨fun z => absurd (show (1 : Int32) = 0 from z) (by decide), fun z => absurd ⟨i, hi, h, by omega⟩ z⟩
theorem ahead_eq {f g : Nat → Int32} (hc : ∀ j, j < 6 → f j = rwc (c j) ∧ c j ≤ 6) (hd : ∀ j, j < 6 → g j = rwc (d j) ∧ d j ≤ 6) : f_isAhead f g = 0 ↔ ¬ lx c d := ahead_go hc hd 6 0 rfl (fun j hj => absurd hj (by omega))
end
end
section
/-! ===== digits of a code, region by region: what fits, what is taken ===== -/
def fOK (x : Int32) (q t u : Nat → Nat) (cap g r : Nat) : Prop := t r + dgt x r ≤ q r ∧ (g ≠ 0 → u r + dgt x r ≤ cap)
section
variable {σ s : XS9} {x y : Int32} {R i k cap : Nat} {gr q t u : Nat → Nat} {D : Nat → Nat → Nat → Nat} {c : Nat → Nat}
theorem div6z {n : Nat} (hn : n ≤ 7775) : nI n / 6 = nI (n / 6) := nI_div (m := n) (k := 6) (by omega) (by decide) (by decide)
theorem pow6s {n k : Nat} : n / 6 ^ k / 6 = n / 6 ^ (k + 1) := by rw [Nat.div_div_eq_div_mul, ← Nat.pow_succ]
theorem at6 (hx : bd 7775 x) : (nI (cn x / 6 ^ k)) - (nI (cn x / 6 ^ k)) / 6 * 6 = nI (dgt x k) ∧ (nI (cn x / 6 ^ k)) / 6 = nI (cn x / 6 ^ (k + 1)) := by
  have h2 := hx.2
  have l : cn x / 6 ^ k ≤ cn x := Nat.div_le_self _ _
  refine ⟨mod6x (by omega), ?_⟩
  rw [div6z (by omega), pow6s]
theorem fits_go (hx : bd 7775 x) (ht : ∀ r, r < R → σ 1010 r = nI (q r) ∧ q r ≤ 5 ∧ σ 1044 r = nI (t r) ∧ t r ≤ q r) (hu : gr i ≠ 0 → ∀ r, r < R → σ (1121 + gr i) r = nI (u r) ∧ u r ≤ cap) (hcap : σ 1001 10 = nI cap) (hc5 : cap ≤ 5) (hg : gr i < 4) : ∀ (n k : Nat), k + n = R → (∀ r, r < k → fOK x q t u cap (gr i) r) → ((match xitR (fun i19 (s19 : Int32) => (if ((σ 1010 i19) - (σ 1044 i19)) < (s19 - s19 / 6 * 6) then (.inr 0 : Int32 ⊕ Int32) else (if (nI (gr i)) = 0 then .inl (s19 / 6) else (if (s19 - s19 / 6 * 6) ≤ ((σ 1001 10) - (σ (1121 + gr i) i19)) then .inl (s19 / 6) else .inr 0)))) n k (nI (cn x / 6 ^ k)) with | .inl _ => (1 : Int32) | .inr r19 => r19) = 0 ↔ ¬ ∀ r, r < R → fOK x q t u cap (gr i) r)
  | 0, k, e, h => by
    obtain rfl : k = R := by omega
    exact ⟨fun z => absurd (show (1 : Int32) = 0 from z) (by decide), fun z => absurd h z⟩
  | n + 1, k, e, h => by
    have hk : k < R := by omega
    obtain ⟨a1, a2, a3, a4⟩ := ht k hk
    obtain ⟨e1, e2⟩ := at6 (k := k) hx
    have d5 := dgt_le (c := x) (r := k)
    unfold xitR
    (try dsimp only)
    rw [e1, e2, a1, a3, nI_minus a4, hcap]
    by_cases c1 : q k - t k < dgt x k
    · rw [if_pos ((nlt (by omega) (by omega)).mpr c1)]
      exact ⟨fun _ z => by have := (z k hk).1; omega, fun _ => rfl⟩
    · rw [if_neg (fun z => c1 ((nlt (by omega) (by omega)).mp z))]
      have nx : ∀ (w : fOK x q t u cap (gr i) k), ((match xitR (fun i19 (s19 : Int32) => (if ((σ 1010 i19) - (σ 1044 i19)) < (s19 - s19 / 6 * 6) then (.inr 0 : Int32 ⊕ Int32) else (if (nI (gr i)) = 0 then .inl (s19 / 6) else (if (s19 - s19 / 6 * 6) ≤ ((σ 1001 10) - (σ (1121 + gr i) i19)) then .inl (s19 / 6) else .inr 0)))) n (k + 1) (nI (cn x / 6 ^ (k + 1))) with | .inl _ => (1 : Int32) | .inr r19 => r19) = 0 ↔ ¬ ∀ r, r < R → fOK x q t u cap (gr i) r) := fun w => fits_go hx ht hu hcap hc5 hg n (k + 1) (by omega) (fun r hr => by
        by_cases e3 : r = k
        · rw [e3]
          exact w
        · exact h r (by omega))
      rw [hcap] at nx
      by_cases c2 : gr i = 0
      · rw [if_pos (show nI (gr i) = 0 by rw [c2]; rfl)]
        exact nx ⟨by omega, fun z => absurd c2 z⟩
      · obtain ⟨b1, b2⟩ := hu c2 k hk
        rw [if_neg (show ¬ nI (gr i) = 0 from fun z => c2 (nI_inj (a := gr i) (b := 0) (by omega) (by decide) z)), b1, nI_minus b2]
        by_cases c3 : dgt x k ≤ cap - u k
        · rw [if_pos ((nle (by omega) (by omega)).mpr c3)]
          exact nx ⟨by omega, fun _ => by omega⟩
        · rw [if_neg (fun z => c3 ((nle (by omega) (by omega)).mp z))]
          exact ⟨fun _ z => by have := (z k hk).2 c2; omega, fun _ => rfl⟩
theorem fits_eq (hx : bd 7775 x) (ht : ∀ r, r < R → σ 1010 r = nI (q r) ∧ q r ≤ 5 ∧ σ 1044 r = nI (t r) ∧ t r ≤ q r) (hu : gr i ≠ 0 → ∀ r, r < R → σ (1121 + gr i) r = nI (u r) ∧ u r ≤ cap) (hcap : σ 1001 10 = nI cap) (hc5 : cap ≤ 5) (hg : gr i < 4) : f_fits σ i x R gr = 0 ↔ ¬ ∀ r, r < R → fOK x q t u cap (gr i) r := by
  have := fits_go hx ht hu hcap hc5 hg R 0 (Nat.zero_add _) (fun r hr => absurd hr (by omega))
  rw [Nat.pow_zero, Nat.div_one, ← hx.1] at this
  exact this
/-! what is taken moves -/
theorem moved (hx : bd 7775 x) (hg : gr i < 4) : (∀ r, r < R → g_moveTaken σ i x y R gr 1044 r = σ 1044 r + nI (dgt x r) * y ∧ g_moveTaken σ i x y R gr (1121 + gr i) r = σ (1121 + gr i) r + nI (dgt x r) * y) ∧ ∀ a, a ≠ 1044 → a ≠ 1121 + gr i → g_moveTaken σ i x y R gr a = σ a := by
  refine ⟨?_, fun a h1 h2 => fr_moveTaken' ⟨h1, h2⟩⟩
  have H : (fun (k : Nat) (p : XS9 × Int32) => p.2 = nI (cn x / 6 ^ k) ∧ (∀ r, r < k → p.1 1044 r = σ 1044 r + nI (dgt x r) * y ∧ p.1 (1121 + gr i) r = σ (1121 + gr i) r + nI (dgt x r) * y) ∧ ∀ r, k ≤ r → p.1 1044 r = σ 1044 r ∧ p.1 (1121 + gr i) r = σ (1121 + gr i) r) R (x_moveTaken_19 σ i x y R gr (σ, x)) := by
    unfold x_moveTaken_19
    refine xit_ind (fun (k : Nat) (p : XS9 × Int32) => p.2 = nI (cn x / 6 ^ k) ∧ (∀ r, r < k → p.1 1044 r = σ 1044 r + nI (dgt x r) * y ∧ p.1 (1121 + gr i) r = σ (1121 + gr i) r + nI (dgt x r) * y) ∧ ∀ r, k ≤ r → p.1 1044 r = σ 1044 r ∧ p.1 (1121 + gr i) r = σ (1121 + gr i) r) (N := R) (fun k p hk hP => ?_) R 0 (σ, x) (Nat.zero_add _) ⟨by rw [Nat.pow_zero, Nat.div_one]; exact hx.1, fun r hr => absurd hr (by omega), fun r _ => ⟨rfl, rfl⟩⟩
    obtain ⟨p1, p2, p3⟩ := hP
    obtain ⟨e1, e2⟩ := at6 (k := k) hx
    (try dsimp only)
    rw [p1, e1, e2]
    refine ⟨rfl, fun r hr => ?_, fun r hr => ?_⟩
    · by_cases e : r = k
      · subst e
        rw [u2_at, u2_ne (show (1044 : Nat) ≠ 1121 + gr i by omega), u2_at, (p3 r (Nat.le_refl _)).1, (p3 r (Nat.le_refl _)).2]
        exact ⟨rfl, rfl⟩
      · rw [u2_oi e, u2_ne (show (1044 : Nat) ≠ 1121 + gr i by omega), u2_oi e, u2_ne (show 1121 + gr i ≠ 1044 by omega)]
        exact p2 r (by omega)
    · rw [u2_oi (show r ≠ k by omega), u2_ne (show (1044 : Nat) ≠ 1121 + gr i by omega), u2_oi (show r ≠ k by omega), u2_ne (show 1121 + gr i ≠ 1044 by omega)]
      exact p3 r (by omega)
  exact H.2.1
/-- the search's own rows are those of a choice -/
def SCc (D : Nat → Nat → Nat → Nat) (gr : Nat → Nat) (R : Nat) (c : Nat → Nat) (s : XS9) : Prop := (∀ j, j < 6 → s 1043 j = rwc (c j)) ∧ (∀ r, r < R → s 1044 r = nI (cTk D r c)) ∧ ∀ g, g < 4 → ∀ r, r < R → s (1121 + g) r = nI (cTg D gr g r c)
theorem SCc.of (h : SCc D gr R c σ) (e : ∀ a, (a = 1043 ∨ a = 1044 ∨ (1121 ≤ a ∧ a ≤ 1124)) → s a = σ a) : SCc D gr R c s := ⟨fun j hj => by rw [e _ (by omega)]; exact h.1 j hj, fun r hr => by rw [e _ (by omega)]; exact h.2.1 r hr, fun g hg r hr => by rw [e _ (by omega)]; exact h.2.2 g hg r hr⟩
theorem SCc.take (h : SCc D gr R c s) (hi : i < 6) (h0 : c i = 0) (hx : bd 7775 (s (1022 + i) k)) (hD : ∀ r, r < R → D i k r = dgt (s (1022 + i) k) r) (hg : gr i < 4) : SCc D gr R (cUp c i (k + 1)) (g_take s i k R gr) := by
  obtain ⟨m1, m2⟩ := moved (σ := u2 s 1043 i (nI k)) (R := R) (y := 1) hx hg
  unfold g_take
  refine ⟨fun j hj => ?_, fun r hr => ?_, fun g hg4 r hr => ?_⟩
  · rw [m2 1043 (by decide) (by omega)]
    by_cases e : j = i
    · rw [e, u2_at, cUp_at]
      unfold rwc
      rw [if_neg (by omega), Nat.add_sub_cancel]
    · rw [u2_oi e, cUp_ne e]
      exact h.1 j hj
  · rw [(m1 r hr).1, u2_ne (by decide), h.2.1 r hr, cTk_up hi h0, hD r hr, Int32.mul_one, nI_plus]
  · by_cases e : gr i = g
    · rw [← e, (m1 r hr).2, u2_ne (by omega), h.2.2 (gr i) hg r hr, cTg_up hi h0, if_pos rfl, hD r hr, Int32.mul_one, nI_plus]
    · rw [m2 _ (by omega) (by omega), u2_ne (by omega), h.2.2 g hg4 r hr, cTg_up hi h0, if_neg e, Nat.add_zero]
theorem back1 {a d : Nat} : nI (a + d) + nI d * (-1) = nI a := by rw [Int32.mul_comm, Int32.neg_mul, Int32.one_mul, ← Int32.sub_eq_add_neg, nI_minus (by omega), Nat.add_sub_cancel]
theorem SCc.back (h : SCc D gr R (cUp c i (k + 1)) s) (hi : i < 6) (h0 : c i = 0) (hx : bd 7775 (s (1022 + i) k)) (hD : ∀ r, r < R → D i k r = dgt (s (1022 + i) k) r) (hg : gr i < 4) : SCc D gr R c (g_giveBack s i k R gr) := by
  obtain ⟨m1, m2⟩ := moved (σ := u2 s 1043 i (-1)) (R := R) (y := -1) hx hg
  unfold g_giveBack
  refine ⟨fun j hj => ?_, fun r hr => ?_, fun g hg4 r hr => ?_⟩
  · rw [m2 1043 (by decide) (by omega)]
    by_cases e : j = i
    · rw [e, u2_at, h0]
      rfl
    · rw [u2_oi e, h.1 j hj, cUp_ne e]
  · rw [(m1 r hr).1, u2_ne (by decide), h.2.1 r hr, cTk_up hi h0, hD r hr, back1]
  · by_cases e : gr i = g
    · rw [← e, (m1 r hr).2, u2_ne (by omega), h.2.2 (gr i) hg r hr, cTg_up hi h0, if_pos rfl, hD r hr, back1]
    · rw [m2 _ (by omega) (by omega), u2_ne (by omega), h.2.2 g hg4 r hr, cTg_up hi h0, if_neg e, Nat.add_zero]
/-! the reference's -/
theorem can_go {n : Nat} (hn : n ≤ 7775) (hR5 : R ≤ 5) (hnR : n < 6 ^ R) (hx : dgt x = fun r => n / 6 ^ r % 6) (ht : ∀ r, r < R → σ 9004 r = nI (q r - t r) ∧ q r ≤ 5 ∧ t r ≤ q r) {g : Nat} (hu : g ≠ 0 → ∀ r, r < R → σ (9005) (5 * g + r) = nI (u r) ∧ u r ≤ cap) (hcap : σ 5000 2 = nI cap) (hc5 : cap ≤ 5) (hg : g < 4) : ∀ (f k : Nat), k + f = 5 → (∀ r, r < k → r < R → fOK x q t u cap g r) → ((match xitR (fun i5 (s5 : Nat) => (if (nI s5) ≤ 0 then (.inr 1 : Nat ⊕ Int32) else (if (σ 9004 i5) < (nI (s5 % 6)) then .inr 0 else (if (nI g) ≤ 0 then .inl (s5 / 6) else (if (nI (s5 % 6)) ≤ 0 then .inl (s5 / 6) else (if ((σ 9005 (5 * g + i5)) + (nI (s5 % 6))) ≤ (σ 5000 2) then .inl (s5 / 6) else .inr 0)))))) f k (n / 6 ^ k) with | .inl _ => (1 : Int32) | .inr r5 => r5) = 0 ↔ ¬ ∀ r, r < R → fOK x q t u cap g r)
  | 0, k, e, h => ⟨fun z => absurd (show (1 : Int32) = 0 from z) (by decide), fun z => absurd (fun r hr => h r (by omega) hr) z⟩
  | f + 1, k, e, h => by
    have l : n / 6 ^ k ≤ n := Nat.div_le_self _ _
    have m6 : n / 6 ^ k % 6 < 6 := Nat.mod_lt _ (by decide)
    unfold xitR
    (try dsimp only)
    by_cases c0 : n / 6 ^ k = 0
    · rw [if_pos ((nI_le0 (by omega)).mpr c0)]
      refine ⟨fun z => absurd (show (1 : Int32) = 0 from z) (by decide), fun z => absurd (fun r hr => ?_) z⟩
      rcases Nat.lt_or_ge r k with w | w
      · exact h r w hr
      · have z0 : dgt x r = 0 := by
          rw [hx]
          show n / 6 ^ r % 6 = 0
          have p : 6 ^ r = 6 ^ k * 6 ^ (r - k) := by rw [← Nat.pow_add]; congr 1; omega
          rw [p, ← Nat.div_div_eq_div_mul, c0, Nat.zero_div]
        obtain ⟨a1, a2, a3⟩ := ht r hr
        refine ⟨by omega, fun hg0 => ?_⟩
        have := (hu hg0 r hr).2
        omega
    · have hk : k < R := by
        rcases Nat.lt_or_ge k R with w | w
        · exact w
        · exact absurd (Nat.div_eq_of_lt (Nat.lt_of_lt_of_le hnR (Nat.pow_le_pow_right (by decide) w))) c0
      obtain ⟨a1, a2, a3⟩ := ht k hk
      have ed : dgt x k = n / 6 ^ k % 6 := congrFun hx k
      rw [if_neg (fun z => c0 ((nI_le0 (by omega)).mp z)), a1, hcap, ← ed]
      rw [← ed] at m6
      have nx : ∀ (w : fOK x q t u cap g k), ((match xitR (fun i5 (s5 : Nat) => (if (nI s5) ≤ 0 then (.inr 1 : Nat ⊕ Int32) else (if (σ 9004 i5) < (nI (s5 % 6)) then .inr 0 else (if (nI g) ≤ 0 then .inl (s5 / 6) else (if (nI (s5 % 6)) ≤ 0 then .inl (s5 / 6) else (if ((σ 9005 (5 * g + i5)) + (nI (s5 % 6))) ≤ (σ 5000 2) then .inl (s5 / 6) else .inr 0)))))) f (k + 1) (n / 6 ^ (k + 1)) with | .inl _ => (1 : Int32) | .inr r5 => r5) = 0 ↔ ¬ ∀ r, r < R → fOK x q t u cap g r) := fun w => can_go hn hR5 hnR hx ht hu hcap hc5 hg f (k + 1) (by omega) (fun r hr hR => by
        by_cases e3 : r = k
        · rw [e3]
          exact w
        · exact h r (by omega) hR)
      rw [hcap] at nx
      rw [pow6s]
      by_cases c1 : q k - t k < dgt x k
      · rw [if_pos ((nlt (by omega) (by omega)).mpr c1)]
        exact ⟨fun _ z => by have := (z k hk).1; omega, fun _ => rfl⟩
      · rw [if_neg (fun z => c1 ((nlt (by omega) (by omega)).mp z))]
        by_cases c2 : g = 0
        · rw [if_pos ((nI_le0 (by omega)).mpr c2)]
          exact nx ⟨by omega, fun z => absurd c2 z⟩
        · obtain ⟨b1, b2⟩ := hu c2 k hk
          rw [if_neg (fun z => c2 ((nI_le0 (by omega)).mp z)), b1, nI_plus]
          by_cases c4 : dgt x k = 0
          · rw [if_pos ((nI_le0 (by omega)).mpr c4)]
            exact nx ⟨by omega, fun _ => by omega⟩
          · rw [if_neg (fun z => c4 ((nI_le0 (by omega)).mp z))]
            by_cases c3 : u k + dgt x k ≤ cap
            · rw [if_pos ((nle (by omega) (by omega)).mpr c3)]
              exact nx ⟨by omega, fun _ => c3⟩
            · rw [if_neg (fun z => c3 ((nle (by omega) (by omega)).mp z))]
              exact ⟨fun _ z => by have := (z k hk).2 c2; omega, fun _ => rfl⟩
theorem can_eq {j n g : Nat} (hn : n ≤ 7775) (hR5 : R ≤ 5) (hnR : n < 6 ^ R) (hx : dgt x = fun r => n / 6 ^ r % 6) (ht : ∀ r, r < R → σ 9004 r = nI (q r - t r) ∧ q r ≤ 5 ∧ t r ≤ q r) (hu : g ≠ 0 → ∀ r, r < R → σ (9005) (5 * g + r) = nI (u r) ∧ u r ≤ cap) (hcap : σ 5000 2 = nI cap) (hc5 : cap ≤ 5) (hg : g < 4) : f_CcanTake σ j n g = 0 ↔ ¬ ∀ r, r < R → fOK x q t u cap g r := by
  have := can_go hn hR5 hnR hx ht hu hcap hc5 hg 5 0 rfl (fun r hr => absurd hr (by omega))
  rw [Nat.pow_zero, Nat.div_one] at this
  exact this
theorem took {j n g : Nat} (hn : n ≤ 7775) : (∀ r, r < 5 → g_Ctake σ j n y g 9004 r = σ 9004 r - y * nI (n / 6 ^ r % 6) ∧ g_Ctake σ j n y g 9005 (5 * g + r) = σ 9005 (5 * g + r) + y * nI (n / 6 ^ r % 6)) ∧ ∀ z, (z < 5 * g ∨ 5 * g + 5 ≤ z) → g_Ctake σ j n y g 9005 z = σ 9005 z := by
  unfold g_Ctake x_Ctake_6
  have H := xitB_fin (step := fun i6 (s6 : XS9 × Nat) => (if (nI (s6.2)) ≤ 0 then (.inr (s6.1, s6.2) : (XS9 × Nat) ⊕ (XS9 × Nat)) else .inl (u2 (u2 s6.1 9004 i6 ((s6.1 9004 i6) - (y * (nI (s6.2 % 6))))) 9005 (5 * g + i6) ((s6.1 9005 (5 * g + i6)) + (y * (nI (s6.2 % 6)))), s6.2 / 6)))
    (fun k p => p.2 = n / 6 ^ k ∧ (∀ r, r < k → p.1 9004 r = σ 9004 r - y * nI (n / 6 ^ r % 6) ∧ p.1 9005 (5 * g + r) = σ 9005 (5 * g + r) + y * nI (n / 6 ^ r % 6)) ∧ (∀ r, k ≤ r → p.1 9004 r = σ 9004 r ∧ p.1 9005 (5 * g + r) = σ 9005 (5 * g + r)) ∧ ∀ z, (z < 5 * g ∨ 5 * g + 5 ≤ z) → p.1 9005 z = σ 9005 z)
    (fun p => (∀ r, r < 5 → p.1 9004 r = σ 9004 r - y * nI (n / 6 ^ r % 6) ∧ p.1 9005 (5 * g + r) = σ 9005 (5 * g + r) + y * nI (n / 6 ^ r % 6)) ∧ ∀ z, (z < 5 * g ∨ 5 * g + 5 ≤ z) → p.1 9005 z = σ 9005 z) (N := 5) (fun k p hk hP => ?_) (fun p hP => ⟨hP.2.1, hP.2.2.2⟩) 5 0 (σ, n) rfl ⟨by rw [Nat.pow_zero, Nat.div_one], fun r hr => absurd hr (by omega), fun r _ => ⟨rfl, rfl⟩, fun _ _ => rfl⟩
  · exact H
  · obtain ⟨p1, p2, p3, p4⟩ := hP
    have l : n / 6 ^ k ≤ n := Nat.div_le_self _ _
    (try dsimp only)
    rw [p1]
    by_cases c0 : n / 6 ^ k = 0
    · rw [if_pos ((nI_le0 (by omega)).mpr c0)]
      refine ⟨fun s' e => (by cases e), fun s' e => ?_⟩
      rw [← Sum.inr.inj e]
      refine ⟨fun r hr => ?_, p4⟩
      rcases Nat.lt_or_ge r k with w | w
      · exact p2 r w
      · have z0 : n / 6 ^ r % 6 = 0 := by
          have p : 6 ^ r = 6 ^ k * 6 ^ (r - k) := by rw [← Nat.pow_add]; congr 1; omega
          rw [p, ← Nat.div_div_eq_div_mul, c0, Nat.zero_div]
        rw [z0, show y * nI 0 = 0 from Int32.mul_zero, Int32.sub_zero, Int32.add_zero]
        exact p3 r w
    · rw [if_neg (fun z => c0 ((nI_le0 (by omega)).mp z))]
      refine ⟨fun s' e => ?_, fun s' e => (by cases e)⟩
      rw [← Sum.inl.inj e]
      refine ⟨pow6s, fun r hr => ?_, fun r hr => ?_, fun z hz => ?_⟩
      · (try dsimp only)
        by_cases e : r = k
        · subst e
          rw [u2_at, u2_ne (show (9004 : Nat) ≠ 9005 by decide), u2_at, (p3 r (Nat.le_refl _)).1, (p3 r (Nat.le_refl _)).2]
          exact ⟨rfl, rfl⟩
        · rw [u2_oi (show 5 * g + r ≠ 5 * g + k by omega), u2_ne (show (9004 : Nat) ≠ 9005 by decide), u2_oi e, u2_ne (show (9005 : Nat) ≠ 9004 by decide)]
          exact p2 r (by omega)
      · (try dsimp only)
        rw [u2_oi (show 5 * g + r ≠ 5 * g + k by omega), u2_ne (show (9004 : Nat) ≠ 9005 by decide), u2_oi (show r ≠ k by omega), u2_ne (show (9005 : Nat) ≠ 9004 by decide)]
        exact p3 r (by omega)
      · (try dsimp only)
        rw [u2_oi (show z ≠ 5 * g + k by omega), u2_ne (show (9005 : Nat) ≠ 9004 by decide)]
        exact p4 z hz
end
end
section
/-! ===== the search of the program: what is kept for each set is the best ===== -/
def PCx (D : Nat → Nat → Nat → Nat) (A : Nat → Nat → Nat) (q : Nat → Nat) (cap R : Nat) (pk : Nat → Nat) (s : XS9) : Prop := (∀ r, r < R → s 1010 r = nI (q r) ∧ q r ≤ 5) ∧ (s 1001 10 = nI cap ∧ cap ≤ 5) ∧ ∀ j, j < 6 → ∀ k, k < pk j → bd 7775 (s (1022 + j) k) ∧ (∀ r, r < R → D j k r = dgt (s (1022 + j) k) r) ∧ s (1031 + j) k = nI (A j k) ∧ A j k ≤ 300000
def BOc (A : Nat → Nat → Nat) (X : (Nat → Nat) → Prop) (s : XS9) : Prop := ∀ S, S < 64 → (s 1042 S = -1 ∧ ∀ c, X c → cSp c ≠ S) ∨ ∃ c, X c ∧ cSp c = S ∧ s 1042 S = nI (cAm A c) ∧ (∀ j, j < 6 → s (1051 + S) j = rwc (c j)) ∧ ∀ d, X d → cSp d = S → btr A c d
def pEx (D : Nat → Nat → Nat → Nat) (gr q : Nat → Nat) (cap R : Nat) (pk : Nat → Nat) (fx i : Nat) (c d : Nat → Nat) : Prop := cOk pk d ∧ cFe D gr q cap R d ∧ (∀ j, j < i → d j = c j) ∧ d fx = c fx
section
variable {σ s s2 : XS9} {D : Nat → Nat → Nat → Nat} {A : Nat → Nat → Nat} {gr q pk : Nat → Nat} {cap R B fx : Nat} {X Y : (Nat → Nat) → Prop} {c d : Nat → Nat}
theorem nI_j {a b : Nat} (ha : a < 2147483648) (hb : b < 2147483648) (h : nI a = nI b) : a = b := by rw [← cn_nI ha, ← cn_nI hb, h]
theorem m1_lt {a : Nat} (ha : a < 2147483648) : (-1 : Int32) < nI a := by
  rw [i_lt, toI_nI ha]
  show (-1 : Int) < a
  omega
theorem m1_ne {a : Nat} (ha : a < 2147483648) : ¬ (-1 : Int32) = nI a := fun z => by
  have := m1_lt ha
  rw [← z] at this
  exact absurd this (by decide)
theorem PCx.of (h : PCx D A q cap R pk s) (e : ∀ a, (a = 1001 ∨ a = 1010 ∨ (1022 ≤ a ∧ a ≤ 1036)) → s2 a = s a) : PCx D A q cap R pk s2 := by
  refine ⟨fun r hr => ?_, ?_, fun j hj k hk => ?_⟩
  · rw [e _ (by omega)]
    exact h.1 r hr
  · rw [e _ (by omega)]
    exact h.2.1
  · rw [e _ (by omega), e _ (by omega)]
    exact h.2.2 j hj k hk
theorem PCx.am (h : PCx D A q cap R pk s) (hc : cOk pk c) : cAm A c ≤ 1800000 := cAm_le (m := 300000) fun j hj => by
  unfold cAd
  split
  · exact Nat.zero_le _
  · have := hc j hj
    exact (h.2.2 j hj (c j - 1) (by omega)).2.2.2
theorem BOc.of (h : BOc A X s) (e : ∀ a, (a = 1042 ∨ (1051 ≤ a ∧ a ≤ 1114)) → s2 a = s a) : BOc A X s2 := fun S hS => by
  rw [e 1042 (by omega), e (1051 + S) (by omega)]
  exact h S hS
theorem BOc.iff (h : BOc A X s) (e : ∀ d, X d ↔ Y d) : BOc A Y s := by
  rw [← show X = Y from funext fun d => propext (e d)]
  exact h
/-- one more choice -/
theorem BOc.leaf {S : Nat} {x : Int32} (h : BOc A X s) (hX : ∀ d, X d → (∀ j, j < 6 → d j ≤ 6) ∧ cAm A d ≤ 1800000) (hc : ∀ j, j < 6 → c j ≤ 6) (hm : cAm A c ≤ 1800000) (hp : ∀ j, j < 6 → s 1043 j = rwc (c j)) (hS : S = cSp c) (hx : x = nI (cAm A c)) : BOc A (fun d => X d ∨ e6 d c) (g_keepIfBetter s S x) := by
  have hS64 : S < 64 := by rw [hS]; exact cSp_lt
  have oth : ∀ S2, S2 < 64 → S2 ≠ S → (s 1042 S2 = -1 ∧ ∀ d, (X d ∨ e6 d c) → cSp d ≠ S2) ∨ ∃ c0, (X c0 ∨ e6 c0 c) ∧ cSp c0 = S2 ∧ s 1042 S2 = nI (cAm A c0) ∧ (∀ j, j < 6 → s (1051 + S2) j = rwc (c0 j)) ∧ ∀ d, (X d ∨ e6 d c) → cSp d = S2 → btr A c0 d := fun S2 h2 hn => by
    rcases h S2 h2 with ⟨a, b⟩ | ⟨c0, a, b, e, f, g⟩
    · refine .inl ⟨a, fun d hd => ?_⟩
      rcases hd with hd | hd
      · exact b d hd
      · rw [hd.sp, ← hS]
        exact fun z => hn z.symm
    · refine .inr ⟨c0, .inl a, b, e, f, fun d hd hs => ?_⟩
      rcases hd with hd | hd
      · exact g d hd hs
      · rw [hd.sp, ← hS] at hs
        exact absurd hs.symm hn
  have put : (∀ d, X d → cSp d = S → btr A c d) → BOc A (fun d => X d ∨ e6 d c) (uR (u2 s 1042 S x) (1051 + S) (va_cpy (s 1043) (s (1051 + S)) 0 0 6)) := fun hb S2 h2 => by
    by_cases e : S2 = S
    · subst e
      refine .inr ⟨c, .inr (fun _ _ => rfl), hS.symm, ?_, fun j hj => ?_, fun d hd hs => ?_⟩
      · rw [uR_ne (by omega), u2_at]
        exact hx
      · rw [uR_eq, cpy_lo hj]
        exact hp j hj
      · rcases hd with hd | hd
        · exact hb d hd hs
        · exact hd.symm.btr
    · rw [uR_ne (show (1042 : Nat) ≠ 1051 + S by omega), u2_oi e, uR_ne (show 1051 + S2 ≠ 1051 + S by omega), u2_ne (show 1051 + S2 ≠ 1042 by omega)]
      exact oth S2 h2 e
  unfold g_keepIfBetter
  rcases h S hS64 with ⟨a, b⟩ | ⟨c0, a, b, e, f, g⟩
  · rw [if_pos (show s 1042 S < x by rw [a, hx]; exact m1_lt (by omega))]
    exact put fun d hd hs => absurd hs (b d hd)
  · obtain ⟨k1, k2⟩ := hX c0 a
    have keep : btr A c0 c → BOc A (fun d => X d ∨ e6 d c) s := fun hb S2 h2 => by
      by_cases e9 : S2 = S
      · subst e9
        refine .inr ⟨c0, .inl a, b, e, f, fun d hd hs => ?_⟩
        rcases hd with hd | hd
        · exact g d hd hs
        · exact hb.trans hd.symm.btr
      · exact oth S2 h2 e9
    rw [e, hx]
    by_cases c1 : cAm A c0 < cAm A c
    · rw [if_pos ((nlt (by omega) (by omega)).mpr c1), ← hx]
      exact put fun d hd hs => (show btr A c c0 from .inl c1).trans (g d hd hs)
    · rw [if_neg (fun z => c1 ((nlt (by omega) (by omega)).mp z))]
      by_cases c2 : cAm A c = cAm A c0
      · rw [if_pos (congrArg nI c2)]
        have ah := ahead_eq (f := s 1043) (g := s (1051 + S)) (c := c) (d := c0) (fun j hj => ⟨hp j hj, hc j hj⟩) (fun j hj => ⟨f j hj, k1 j hj⟩)
        by_cases c3 : lx c c0
        · rw [if_neg (fun z => ah.mp z c3), ← hx]
          exact put fun d hd hs => (show btr A c c0 from .inr ⟨c2.symm, fun z => lx_asym c3 z⟩).trans (g d hd hs)
        · rw [if_pos (ah.mpr c3)]
          exact keep (.inr ⟨c2, c3⟩)
      · rw [if_neg (fun z => c2 (nI_j (by omega) (by omega) z))]
        exact keep (.inl (by omega))
theorem pEx.leaf {i : Nat} (hc : cOk pk c) (hf : cFe D gr q cap R c) (hz : ∀ j, i ≤ j → j < 6 → j ≠ fx → c j = 0) (hB : B ≤ i) (hi : i ≤ 6) (hfx : fx < 6) (hpk : ∀ j, B ≤ j → j < 6 → pk j = 0) : e6 d c ↔ pEx D gr q cap R pk fx i c d := by
  refine ⟨fun h => ⟨h.symm.ok hc, h.symm.fe hf, fun j hj => h j (by omega), h fx hfx⟩, fun ⟨h1, _, h3, h4⟩ j hj => ?_⟩
  rcases Nat.lt_or_ge j i with l | l
  · exact h3 j l
  · by_cases e : j = fx
    · rw [e]
      exact h4
    · rw [hz j l hj e]
      have := h1 j hj
      rw [hpk j (by omega) hj] at this
      omega
theorem pf_ok (hg : ∀ j, j < 6 → gr j < 4) (hp6 : ∀ j, j < 6 → pk j ≤ 6) (hpk : ∀ j, B ≤ j → j < 6 → pk j = 0) (hfB : fx < B) (hB6 : B ≤ 6) : ∀ (f i : Nat), i + f = 6 → ∀ (s : XS9) (S : Nat) (x : Int32) (c : Nat → Nat) (X : (Nat → Nat) → Prop), PCx D A q cap R pk s → SCc D gr R c s → BOc A X s → (∀ d, X d → cOk pk d) → cOk pk c → cFe D gr q cap R c → (∀ j, i ≤ j → j < 6 → j ≠ fx → c j = 0) → c fx ≠ 0 → S = cSp c → x = nI (cAm A c) → SCc D gr R c (g_pickFrom fx R B gr pk f i s S x) ∧ BOc A (fun d => X d ∨ pEx D gr q cap R pk fx i c d) (g_pickFrom fx R B gr pk f i s S x) := by
  have leaf : ∀ (i : Nat), B ≤ i → i ≤ 6 → ∀ (s : XS9) (S : Nat) (x : Int32) (c : Nat → Nat) (X : (Nat → Nat) → Prop), PCx D A q cap R pk s → SCc D gr R c s → BOc A X s → (∀ d, X d → cOk pk d) → cOk pk c → cFe D gr q cap R c → (∀ j, i ≤ j → j < 6 → j ≠ fx → c j = 0) → S = cSp c → x = nI (cAm A c) → SCc D gr R c (g_keepIfBetter s S x) ∧ BOc A (fun d => X d ∨ pEx D gr q cap R pk fx i c d) (g_keepIfBetter s S x) := fun i hBi hi6 s S x c X P C O hX hc hf hz hS hx => by
    have hS64 : S < 64 := by rw [hS]; exact cSp_lt
    refine ⟨C.of fun a ha => fr_keepIfBetter (by omega), ?_⟩
    refine (O.leaf (c := c) (fun d hd => ⟨fun j hj => Nat.le_trans (hX d hd j hj) (hp6 j hj), P.am (hX d hd)⟩) (fun j hj => Nat.le_trans (hc j hj) (hp6 j hj)) (P.am hc) C.1 hS hx).iff fun d => ?_
    rw [pEx.leaf (d := d) hc hf hz hBi hi6 (by omega) hpk]
  intro f
  induction f with
  | zero =>
    intro i e s S x c X P C O hX hc hf hz hfx hS hx
    obtain rfl : i = 6 := by omega
    exact leaf 6 hB6 (Nat.le_refl _) s S x c X P C O hX hc hf hz hS hx
  | succ f ih =>
    intro i e s S x c X P C O hX hc hf hz hfx hS hx
    have hi : i < 6 := by omega
    have hS64 : S < 64 := by rw [hS]; exact cSp_lt
    show SCc D gr R c (g_pickStep s (fun σ S x => g_pickFrom fx R B gr pk f (i + 1) σ S x) i fx S x R B gr pk) ∧ BOc A (fun d => X d ∨ pEx D gr q cap R pk fx i c d) (g_pickStep s (fun σ S x => g_pickFrom fx R B gr pk f (i + 1) σ S x) i fx S x R B gr pk)
    unfold g_pickStep
    by_cases c1 : B ≤ i
    · rw [if_pos ((nle (by omega) (by omega)).mpr c1)]
      exact leaf i c1 (by omega) s S x c X P C O hX hc hf hz hS hx
    · rw [if_neg (fun z => c1 ((nle (by omega) (by omega)).mp z))]
      by_cases c2 : i = fx
      · rw [if_pos (congrArg nI c2)]
        obtain ⟨a, b⟩ := ih (i + 1) (by omega) s S x c X P C O hX hc hf (fun j h1 h2 h3 => hz j (by omega) h2 h3) hfx hS hx
        refine ⟨a, b.iff fun d => ?_⟩
        refine or_congr Iff.rfl ⟨fun ⟨h1, h2, h3, h4⟩ => ⟨h1, h2, fun j hj => h3 j (by omega), h4⟩, fun ⟨h1, h2, h3, h4⟩ => ⟨h1, h2, fun j hj => ?_, h4⟩⟩
        by_cases e9 : j = i
        · rw [e9, c2]
          exact h4
        · exact h3 j (by omega)
      · rw [if_neg (fun z => c2 (nI_j (by omega) (by omega) z))]
        have h0 : c i = 0 := hz i (Nat.le_refl _) hi c2
        have frow : ∀ (s : XS9) (S : Nat) (x : Int32) (a : Nat), S < 64 → (a = 1001 ∨ a = 1010 ∨ (1022 ≤ a ∧ a ≤ 1036)) → g_pickFrom fx R B gr pk f (i + 1) s S x a = s a := fun s S x a hS ha => fr_pickF hg f (i + 1) (by omega) ⟨hS, by omega, by omega, by omega, by omega, by omega⟩
        obtain ⟨r1, r2⟩ := ih (i + 1) (by omega) s S x c X P C O hX hc hf (fun j h1 h2 h3 => hz j (by omega) h2 h3) hfx hS hx
        have r0 : PCx D A q cap R pk (g_pickFrom fx R B gr pk f (i + 1) s S x) := P.of fun a ha => frow s S x a hS64 ha
        have H := xit_ind (step := fun i45 s45 => (if (f_fits s45 i (s45 (1022 + i) i45) R gr) = 0 then s45 else g_giveBack (g_pickFrom fx R B gr pk f (i + 1) (g_take s45 i i45 R gr) (S ||| 2 ^ i) (x + (s45 (1031 + i) i45))) i i45 R gr)) (fun k s2 => PCx D A q cap R pk s2 ∧ SCc D gr R c s2 ∧ BOc A (fun d => X d ∨ (pEx D gr q cap R pk fx i c d ∧ d i ≤ k)) s2) (N := pk i) (fun k s2 hk hP => ?_) (pk i) 0 (g_pickFrom fx R B gr pk f (i + 1) s S x) (Nat.zero_add _) ⟨r0, r1, r2.iff fun d => ?_⟩
        · obtain ⟨_, h1, h2⟩ := H
          refine ⟨h1, h2.iff fun d => ?_⟩
          exact or_congr Iff.rfl ⟨fun h => h.1, fun h => ⟨h, h.1 i hi⟩⟩
        · obtain ⟨P2, C2, O2⟩ := hP
          obtain ⟨d1, d2, d3, d4⟩ := P2.2.2 i hi k hk
          have gi := hg i hi
          have fi := fits_eq (σ := s2) (i := i) (x := s2 (1022 + i) k) (R := R) (q := q) (t := fun r => cTk D r c) (u := fun r => cTg D gr (gr i) r c) (cap := cap) (gr := gr) d1 (fun r hr => ⟨(P2.1 r hr).1, (P2.1 r hr).2, C2.2.1 r hr, (hf r hr).1⟩) (fun hn r hr => ⟨C2.2.2 (gr i) gi r hr, (hf r hr).2 (gr i) (by omega)⟩) P2.2.1.1 P2.2.1.2 gi
          have ff : cFe D gr q cap R (cUp c i (k + 1)) ↔ ∀ r, r < R → fOK (s2 (1022 + i) k) q (fun r => cTk D r c) (fun r => cTg D gr (gr i) r c) cap (gr i) r := by
            rw [cFe_up hi h0 hf]
            refine forall_congr' fun r => forall_congr' fun hr => ?_
            unfold fOK
            rw [d2 r hr]
          by_cases c3 : cFe D gr q cap R (cUp c i (k + 1))
          · rw [if_neg (fun z => fi.mp z (ff.mp c3))]
            have T := C2.take (k := k) hi h0 d1 d2 gi
            have tr : ∀ a, (a = 1001 ∨ a = 1010 ∨ (1022 ≤ a ∧ a ≤ 1036) ∨ a = 1042 ∨ (1051 ≤ a ∧ a ≤ 1114)) → g_take s2 i k R gr a = s2 a := fun a ha => fr_take ⟨by omega, by omega, by omega⟩
            have PT : PCx D A q cap R pk (g_take s2 i k R gr) := P2.of fun a ha => tr a (by omega)
            have OT := O2.of (s2 := g_take s2 i k R gr) fun a ha => tr a (by omega)
            have cu : ∀ j, j ≠ i → cUp c i (k + 1) j = c j := fun j hj => cUp_ne hj
            have hS2 : S ||| 2 ^ i = cSp (cUp c i (k + 1)) := by rw [hS]; exact cSp_or hi h0
            have hS2' : S ||| 2 ^ i < 64 := by rw [hS2]; exact cSp_lt
            have hx2 : x + s2 (1031 + i) k = nI (cAm A (cUp c i (k + 1))) := by rw [hx, d3, nI_plus, cAm_up hi h0]
            obtain ⟨u1, u2'⟩ := ih (i + 1) (by omega) (g_take s2 i k R gr) (S ||| 2 ^ i) (x + s2 (1031 + i) k) (cUp c i (k + 1)) _ PT T OT (fun d hd => hd.elim (hX d) (fun z => z.1.1)) (fun j hj => by
              by_cases e9 : j = i
              · rw [e9, cUp_at]
                omega
              · rw [cu j e9]
                exact hc j hj) c3 (fun j h1 h2 h3 => by
              rw [cu j (by omega)]
              exact hz j (by omega) h2 h3) (by
              rw [cu fx (fun z => c2 z.symm)]
              exact hfx) hS2 hx2
            have fr2 := fun a ha => frow (g_take s2 i k R gr) (S ||| 2 ^ i) (x + s2 (1031 + i) k) a hS2' ha
            have P3 : PCx D A q cap R pk (g_pickFrom fx R B gr pk f (i + 1) (g_take s2 i k R gr) (S ||| 2 ^ i) (x + s2 (1031 + i) k)) := PT.of fr2
            generalize g_pickFrom fx R B gr pk f (i + 1) (g_take s2 i k R gr) (S ||| 2 ^ i) (x + s2 (1031 + i) k) = s3 at u1 u2' P3 ⊢
            obtain ⟨v1, v2, v3, v4⟩ := P3.2.2 i hi k hk
            have br : ∀ a, (a = 1001 ∨ a = 1010 ∨ (1022 ≤ a ∧ a ≤ 1036) ∨ a = 1042 ∨ (1051 ≤ a ∧ a ≤ 1114)) → g_giveBack s3 i k R gr a = s3 a := fun a ha => fr_giveBack ⟨by omega, by omega, by omega⟩
            refine ⟨P3.of fun a ha => br a (by omega), u1.back hi h0 v1 v2 gi, (u2'.of fun a ha => br a (by omega)).iff fun d => ?_⟩
            refine ⟨fun h => ?_, fun h => ?_⟩
            · rcases h with (h | h) | h
              · exact .inl h
              · exact .inr ⟨h.1, by omega⟩
              · obtain ⟨h1, h2, h3, h4⟩ := h
                refine .inr ⟨⟨h1, h2, fun j hj => by rw [h3 j (by omega), cu j (by omega)], by rw [h4, cu fx (fun z => c2 z.symm)]⟩, ?_⟩
                rw [h3 i (by omega), cUp_at]
                exact Nat.le_refl _
            · rcases h with h | ⟨⟨h1, h2, h3, h4⟩, h5⟩
              · exact .inl (.inl h)
              · by_cases e9 : d i ≤ k
                · exact .inl (.inr ⟨⟨h1, h2, h3, h4⟩, e9⟩)
                · refine .inr ⟨h1, h2, fun j hj => ?_, by rw [h4, cu fx (fun z => c2 z.symm)]⟩
                  by_cases e8 : j = i
                  · rw [e8, cUp_at]
                    omega
                  · rw [cu j e8]
                    exact h3 j (by omega)
          · rw [if_pos (fi.mpr (fun z => c3 (ff.mpr z)))]
            refine ⟨P2, C2, O2.iff fun d => or_congr Iff.rfl ⟨fun h => ⟨h.1, by omega⟩, fun h => ⟨h.1, ?_⟩⟩⟩
            obtain ⟨⟨h1, h2, h3, h4⟩, h5⟩ := h
            rcases Nat.lt_or_ge k (d i) with l | l
            · exfalso
              refine c3 (cLe_fe (d := d) (fun j hj => ?_) h2)
              by_cases e9 : j = i
              · rw [e9, cUp_at]
                exact .inr (by omega)
              · rw [cUp_ne e9]
                by_cases e8 : j < i
                · exact .inr (h3 j e8).symm
                · by_cases e7 : j = fx
                  · rw [e7]
                    exact .inr h4.symm
                  · exact .inl (hz j (by omega) hj e7)
            · exact l
        · refine or_congr Iff.rfl ⟨fun ⟨h1, h2, h3, h4⟩ => ⟨⟨h1, h2, fun j hj => h3 j (by omega), h4⟩, by rw [h3 i (by omega), h0]; exact Nat.le_refl _⟩, fun ⟨⟨h1, h2, h3, h4⟩, h5⟩ => ⟨h1, h2, fun j hj => ?_, h4⟩⟩
          by_cases e9 : j = i
          · rw [e9, h0]
            omega
          · exact h3 j (by omega)
end
end
section
/-! ===== the search of the reference: the first best of all, and the greatest for each set ===== -/
def SCm (D : Nat → Nat → Nat → Nat) (gr q : Nat → Nat) (R i : Nat) (c : Nat → Nat) (s : XS9) : Prop := (∀ j, j < i → s 9002 j = rwc (c j)) ∧ (∀ r, r < R → s 9004 r = nI (q r - cTk D r c)) ∧ ∀ g, g < 4 → ∀ r, r < R → s 9005 (5 * g + r) = nI (cTg D gr g r c)
def PCm (D : Nat → Nat → Nat → Nat) (A : Nat → Nat → Nat) (q : Nat → Nat) (cap R B : Nat) (pk : Nat → Nat) (cd : Nat → Nat → Nat) (t : XS9) : Prop := (∀ r, r < R → q r ≤ 5) ∧ (t 5000 2 = nI cap ∧ cap ≤ 5) ∧ ∀ j, j < B → ∀ k, k < pk j → cd j k ≤ 7775 ∧ cd j k < 6 ^ R ∧ (∀ r, r < R → D j k r = cd j k / 6 ^ r % 6) ∧ t (5030 + j) (2 * k + 1) = nI (A j k) ∧ A j k ≤ 300000
def BOm (A : Nat → Nat → Nat) (X : (Nat → Nat) → Prop) (s : XS9) : Prop := (∀ S, S < 64 → ∃ w, s 9003 S = nI w ∧ w ≤ 1800000 ∧ (∀ d, X d → cSp d = S → cAm A d ≤ w) ∧ (w = 0 ∨ ∃ c, X c ∧ cSp c = S ∧ cAm A c = w)) ∧ ((s 9000 5 = -1 ∧ ∀ c, ¬ X c) ∨ ∃ c, X c ∧ s 9000 5 = nI (cAm A c) ∧ (∀ j, j < 6 → s 9001 j = rwc (c j)) ∧ ∀ d, X d → btr A c d)
def mEx (D : Nat → Nat → Nat → Nat) (gr q : Nat → Nat) (cap R : Nat) (pk : Nat → Nat) (t : XS9) (i : Nat) (c d : Nat → Nat) : Prop := cOk pk d ∧ cFe D gr q cap R d ∧ (∀ j, j < i → d j = c j) ∧ ∀ j, j < 6 → d j ≠ 0 → t (5020 + j) 4 = 0
section
variable {σ s s2 t : XS9} {D : Nat → Nat → Nat → Nat} {A : Nat → Nat → Nat} {gr grM q pk pkM : Nat → Nat} {cd : Nat → Nat → Nat} {cap R B : Nat} {X Y : (Nat → Nat) → Prop} {c d : Nat → Nat}
theorem BOm.of (h : BOm A X s) (e : ∀ a, (a = 9000 ∨ a = 9001 ∨ a = 9003) → s2 a = s a) : BOm A X s2 := by
  refine ⟨fun S hS => ?_, ?_⟩
  · rw [e 9003 (by omega)]
    exact h.1 S hS
  · rw [e 9000 (by omega), e 9001 (by omega)]
    exact h.2
theorem BOm.iff (h : BOm A X s) (e : ∀ d, X d ↔ Y d) : BOm A Y s := by
  rw [← show X = Y from funext fun d => propext (e d)]
  exact h
theorem PCm.am (h : PCm D A q cap R B pk cd t) (hpk : ∀ j, B ≤ j → j < 6 → pk j = 0) (hc : cOk pk c) : cAm A c ≤ 1800000 := cAm_le (m := 300000) fun j hj => by
  unfold cAd
  split
  · exact Nat.zero_le _
  · have h1 := hc j hj
    rcases Nat.lt_or_ge j B with l | l
    · exact (h.2.2 j l (c j - 1) (by omega)).2.2.2.2
    · rw [hpk j l hj] at h1
      omega
theorem BOm.leaf {S : Nat} {x : Int32} (h : BOm A X s) (hX : ∀ d, X d → lx d c ∧ cAm A d ≤ 1800000) (hm : cAm A c ≤ 1800000) (hB6 : B ≤ 6) (hp : ∀ j, j < B → s 9002 j = rwc (c j)) (hz : ∀ j, B ≤ j → j < 6 → c j = 0) (hS : S = cSp c) (hx : x = nI (cAm A c)) : BOm A (fun d => X d ∨ e6 d c) (g_CpickBase s S x B) := by
  have wpart : ∀ s2 : XS9, s2 9003 = u2 s 9003 S (if s 9003 S < x then x else s 9003 S) 9003 → ∀ S2, S2 < 64 → ∃ w, s2 9003 S2 = nI w ∧ w ≤ 1800000 ∧ (∀ d, (X d ∨ e6 d c) → cSp d = S2 → cAm A d ≤ w) ∧ (w = 0 ∨ ∃ c0, (X c0 ∨ e6 c0 c) ∧ cSp c0 = S2 ∧ cAm A c0 = w) := fun s2 e S2 h2 => by
    obtain ⟨w, w1, w2, w3, w4⟩ := h.1 S2 h2
    rw [e]
    by_cases e2 : S2 = S
    · subst e2
      rw [u2_at, w1, hx]
      by_cases l : w < cAm A c
      · rw [if_pos ((nlt (by omega) (by omega)).mpr l)]
        refine ⟨_, rfl, hm, fun d hd hs => ?_, .inr ⟨c, .inr (fun _ _ => rfl), hS.symm, rfl⟩⟩
        rcases hd with hd | hd
        · have := w3 d hd hs
          omega
        · rw [hd.am]
          exact Nat.le_refl _
      · rw [if_neg (fun z => l ((nlt (by omega) (by omega)).mp z))]
        refine ⟨w, rfl, w2, fun d hd hs => ?_, w4.elim .inl (fun ⟨c0, a, b⟩ => .inr ⟨c0, .inl a, b⟩)⟩
        rcases hd with hd | hd
        · exact w3 d hd hs
        · rw [hd.am]
          omega
    · rw [u2_oi e2]
      refine ⟨w, w1, w2, fun d hd hs => ?_, w4.elim .inl (fun ⟨c0, a, b⟩ => .inr ⟨c0, .inl a, b⟩)⟩
      rcases hd with hd | hd
      · exact w3 d hd hs
      · rw [hd.sp, ← hS] at hs
        exact absurd hs.symm e2
  have f62 : ∀ (s9 : XS9) (a : Nat), a ≠ 9001 → x_CpickBase_62 s S x B s9 a = s9 a := fun s9 a ha => xit_keep (fun s : XS9 => s a) (fun i s => by (try dsimp only); rw [u2_ne ha]) _ _ _
  have r62 : ∀ (s9 : XS9) (j : Nat), j < 6 → x_CpickBase_62 s S x B s9 9001 j = if j < B then s9 9001 j else -1 := fun s9 j hj => by
    have H : ∀ (f i : Nat) (s8 : XS9), xit (fun i62 (s62 : XS9) => u2 s62 9001 (B + i62) (-1)) f i s8 9001 j = if B + i ≤ j ∧ j < B + i + f then -1 else s8 9001 j := by
      intro f
      induction f with
      | zero => exact fun i s8 => (if_neg (by omega)).symm
      | succ f ih =>
        intro i s8
        refine (ih (i + 1) (u2 s8 9001 (B + i) (-1))).trans ?_
        by_cases e : j = B + i
        · rw [if_neg (by omega), if_pos (by omega), e, u2_at]
        · rw [u2_oi e]
          by_cases e2 : B + i ≤ j ∧ j < B + i + (f + 1)
          · rw [if_pos e2, if_pos (by omega)]
          · rw [if_neg e2, if_neg (by omega)]
    refine (H (6 - B) 0 s9).trans ?_
    by_cases e : j < B
    · rw [if_neg (by omega), if_pos e]
    · rw [if_pos (by omega), if_neg e]
  have put : (∀ d, X d → btr A c d) → BOm A (fun d => X d ∨ e6 d c) (x_CpickBase_62 s S x B (uR (u2 (u2 s 9003 S (if s 9003 S < x then x else s 9003 S)) 9000 5 x) 9001 (va_cpy (s 9002) (s 9001) 0 0 6))) := fun hb => by
    refine ⟨wpart _ (by rw [f62 _ _ (by decide), uR_ne (by decide), u2_ne (by decide)]), .inr ⟨c, .inr (fun _ _ => rfl), ?_, fun j hj => ?_, fun d hd => ?_⟩⟩
    · rw [f62 _ _ (by decide), uR_ne (by decide), u2_at]
      exact hx
    · rw [r62 _ j hj]
      by_cases e : j < B
      · rw [if_pos e, uR_eq, cpy_lo hj]
        exact hp j e
      · rw [if_neg e, hz j (by omega) hj]
        rfl
    · rcases hd with hd | hd
      · exact hb d hd
      · exact hd.symm.btr
  unfold g_CpickBase
  rcases h.2 with ⟨a, b⟩ | ⟨c0, a, b, e, f⟩
  · rw [if_pos (show s 9000 5 < x by rw [a, hx]; exact m1_lt (by omega))]
    exact put fun d hd => absurd hd (b d)
  · obtain ⟨k1, k2⟩ := hX c0 a
    by_cases c1 : cAm A c0 < cAm A c
    · rw [if_pos (show s 9000 5 < x by rw [b, hx]; exact (nlt (by omega) (by omega)).mpr c1)]
      exact put fun d hd => (show btr A c c0 from .inl c1).trans (f d hd)
    · rw [if_neg (show ¬ s 9000 5 < x by rw [b, hx]; exact fun z => c1 ((nlt (by omega) (by omega)).mp z))]
      have hb : btr A c0 c := by
        by_cases c2 : cAm A c = cAm A c0
        · exact .inr ⟨c2, fun z => lx_asym k1 z⟩
        · exact .inl (by omega)
      refine ⟨wpart _ rfl, .inr ⟨c0, .inl a, ?_, fun j hj => ?_, fun d hd => ?_⟩⟩
      · rw [u2_ne (by decide)]
        exact b
      · rw [u2_ne (by decide)]
        exact e j hj
      · rcases hd with hd | hd
        · exact f d hd
        · exact hb.trans hd.symm.btr
theorem SCm.of {i : Nat} (h : SCm D gr q R i c s) (e : ∀ a, (a = 9002 ∨ a = 9004 ∨ a = 9005) → s2 a = s a) : SCm D gr q R i c s2 := ⟨fun j hj => by rw [e _ (by omega)]; exact h.1 j hj, fun r hr => by rw [e _ (by omega)]; exact h.2.1 r hr, fun g hg r hr => by rw [e _ (by omega)]; exact h.2.2 g hg r hr⟩
theorem cp_ok (hg : ∀ j, j < 6 → gr j < 4) (hp6 : ∀ j, j < 6 → pk j ≤ 6) (hpk : ∀ j, B ≤ j → j < 6 → pk j = 0) (hB6 : B ≤ 6) (hR5 : R ≤ 5) (eg : ∀ j, j < B → grM j = gr j) (ep : ∀ j, j < B → pkM j = pk j) (P : PCm D A q cap R B pk cd t) : ∀ (f i : Nat), i + f = B → ∀ (s : XS9) (S : Nat) (x : Int32) (c : Nat → Nat) (X : (Nat → Nat) → Prop), (∀ a, a < 9000 → s a = t a) → SCm D gr q R i c s → BOm A X s → (∀ d, X d → cOk pk d ∧ ∃ m, m < i ∧ (∀ j, j < m → d j = c j) ∧ d m < c m) → cOk pk c → cFe D gr q cap R c → (∀ j, i ≤ j → j < 6 → c j = 0) → (∀ j, j < 6 → c j ≠ 0 → t (5020 + j) 4 = 0) → S = cSp c → x = nI (cAm A c) → (∀ a, a < 9000 → g_Cpick B pkM grM cd f i s S x a = t a) ∧ SCm D gr q R i c (g_Cpick B pkM grM cd f i s S x) ∧ BOm A (fun d => X d ∨ mEx D gr q cap R pk t i c d) (g_Cpick B pkM grM cd f i s S x) := by
  intro f
  induction f with
  | zero =>
    intro i e s S x c X rows C O hX hc hf hz ho hS hx
    obtain rfl : i = B := by omega
    show (∀ a, a < 9000 → g_CpickBase s S x i a = t a) ∧ SCm D gr q R i c (g_CpickBase s S x i) ∧ BOm A (fun d => X d ∨ mEx D gr q cap R pk t i c d) (g_CpickBase s S x i)
    have kp : ∀ a, a ≠ 9000 → a ≠ 9001 → a ≠ 9003 → g_CpickBase s S x i a = s a := fun a h0 h1 h3 => by
      unfold g_CpickBase
      split
      · refine (xit_keep (fun s : XS9 => s a) (fun i s => by (try dsimp only); rw [u2_ne h1]) _ _ _).trans ?_
        (try dsimp only)
        rw [uR_ne h1, u2_ne h0, u2_ne h3]
      · rw [u2_ne h3]
    refine ⟨fun a ha => (kp a (by omega) (by omega) (by omega)).trans (rows a ha), C.of fun a ha => kp a (by omega) (by omega) (by omega), ?_⟩
    refine (O.leaf (c := c) (B := i) (fun d hd => ⟨?_, P.am hpk (hX d hd).1⟩) (P.am hpk hc) hB6 C.1 hz hS hx).iff fun d => or_congr Iff.rfl ⟨fun h => ⟨h.symm.ok hc, h.symm.fe hf, fun j hj => h j (by omega), fun j hj hn => ho j hj (by rw [← h j hj]; exact hn)⟩, fun ⟨h1, _, h3, _⟩ j hj => ?_⟩
    · obtain ⟨_, m, m1, m2, m3⟩ := hX d hd
      exact ⟨m, by omega, m2, m3⟩
    · rcases Nat.lt_or_ge j i with l | l
      · exact h3 j l
      · rw [hz j l hj]
        have := h1 j hj
        rw [hpk j l hj] at this
        omega
  | succ f ih =>
    intro i e s S x c X rows C O hX hc hf hz ho hS hx
    have hiB : i < B := by omega
    have hi : i < 6 := by omega
    have h0 : c i = 0 := hz i (Nat.le_refl _) hi
    have gi := hg i hi
    show (∀ a, a < 9000 → x_CpickStep_119 s (fun σ S x => g_Cpick B pkM grM cd f (i + 1) σ S x) i S x B pkM grM cd (g_Cpick B pkM grM cd f (i + 1) (u2 s 9002 i (-1)) S x) a = t a) ∧ SCm D gr q R i c (x_CpickStep_119 s (fun σ S x => g_Cpick B pkM grM cd f (i + 1) σ S x) i S x B pkM grM cd (g_Cpick B pkM grM cd f (i + 1) (u2 s 9002 i (-1)) S x)) ∧ BOm A (fun d => X d ∨ mEx D gr q cap R pk t i c d) (x_CpickStep_119 s (fun σ S x => g_Cpick B pkM grM cd f (i + 1) σ S x) i S x B pkM grM cd (g_Cpick B pkM grM cd f (i + 1) (u2 s 9002 i (-1)) S x))
    have R0 := ih (i + 1) (by omega) (u2 s 9002 i (-1)) S x c X (fun a ha => by rw [u2_ne (by omega)]; exact rows a ha) ⟨fun j hj => by
      by_cases e9 : j = i
      · rw [e9, u2_at, h0]
        rfl
      · rw [u2_oi e9]
        exact C.1 j (by omega), fun r hr => by rw [u2_ne (by decide)]; exact C.2.1 r hr, fun g hg4 r hr => by rw [u2_ne (by decide)]; exact C.2.2 g hg4 r hr⟩ (O.of fun a ha => u2_ne (by omega)) (fun d hd => ⟨(hX d hd).1, by
      obtain ⟨_, m, m1, m2, m3⟩ := hX d hd
      exact ⟨m, by omega, m2, m3⟩⟩) hc hf (fun j h1 h2 => hz j (by omega) h2) ho hS hx
    generalize g_Cpick B pkM grM cd f (i + 1) (u2 s 9002 i (-1)) S x = s1 at R0 ⊢
    obtain ⟨r1, r2, r3⟩ := R0
    unfold x_CpickStep_119
    refine xitB_fin (fun k s2 => (∀ a, a < 9000 → s2 a = t a) ∧ SCm D gr q R i c s2 ∧ BOm A (fun d => X d ∨ (mEx D gr q cap R pk t i c d ∧ d i ≤ k)) s2) (fun s2 => (∀ a, a < 9000 → s2 a = t a) ∧ SCm D gr q R i c s2 ∧ BOm A (fun d => X d ∨ mEx D gr q cap R pk t i c d) s2) (N := pkM i) (fun k s2 hk hP => ?_) (fun s2 hP => ?_) (pkM i) 0 s1 (Nat.zero_add _) ⟨r1, ⟨fun j hj => r2.1 j (by omega), r2.2⟩, r3.iff fun d => ?_⟩
    · obtain ⟨P1, C2, O2⟩ := hP
      rw [ep i hiB] at hk
      obtain ⟨d1, d2, d3, d4, d5⟩ := P.2.2 i hiB k hk
      (try dsimp only)
      rw [rows _ (by omega), eg i hiB]
      by_cases c0 : t (5020 + i) 4 = 0
      · rw [if_pos c0]
        have fi := can_eq (σ := s2) (j := i) (n := cd i k) (x := nI (cd i k)) (R := R) (q := q) (t := fun r => cTk D r c) (u := fun r => cTg D gr (gr i) r c) (cap := cap) (g := gr i) d1 hR5 d2 (funext fun r => by
          unfold dgt
          rw [cn_nI (by omega)]) (fun r hr => ⟨C2.2.1 r hr, P.1 r hr, (hf r hr).1⟩) (fun hn r hr => ⟨C2.2.2 (gr i) gi r hr, (hf r hr).2 (gr i) (by omega)⟩) (by rw [P1 5000 (by decide)]; exact P.2.1.1) P.2.1.2 gi
        have ff : cFe D gr q cap R (cUp c i (k + 1)) ↔ ∀ r, r < R → fOK (nI (cd i k)) q (fun r => cTk D r c) (fun r => cTg D gr (gr i) r c) cap (gr i) r := by
          rw [cFe_up hi h0 hf]
          refine forall_congr' fun r => forall_congr' fun hr => ?_
          unfold fOK
          rw [d3 r hr, show dgt (nI (cd i k)) r = cd i k / 6 ^ r % 6 by unfold dgt; rw [cn_nI (by omega)]]
        by_cases c3 : cFe D gr q cap R (cUp c i (k + 1))
        · rw [if_neg (fun z => fi.mp z (ff.mp c3))]
          refine ⟨fun s' e9 => ?_, fun s' e9 => (by cases e9)⟩
          rw [← Sum.inl.inj e9]
          have cu : ∀ j, j ≠ i → cUp c i (k + 1) j = c j := fun j hj => cUp_ne hj
          obtain ⟨t1, t2⟩ := took (σ := s2) (j := i) (n := cd i k) (y := 1) (g := gr i) d1
          have tr : ∀ a, a ≠ 9004 → a ≠ 9005 → g_Ctake s2 i (cd i k) 1 (gr i) a = s2 a := fun a h1 h2 => fr_Ctake ⟨h1, h2⟩
          have hS2 : S ||| 2 ^ i = cSp (cUp c i (k + 1)) := by rw [hS]; exact cSp_or hi h0
          have hb : f_Bamount (u2 (g_Ctake s2 i (cd i k) 1 (gr i)) 9002 i (nI k)) i k = nI (A i k) := by
            unfold f_Bamount
            rw [u2_ne (by omega), tr _ (by omega) (by omega), P1 _ (by omega)]
            exact d4
          rw [hb]
          have hx2 : x + nI (A i k) = nI (cAm A (cUp c i (k + 1))) := by rw [hx, nI_plus, cAm_up hi h0]
          have U := ih (i + 1) (by omega) (u2 (g_Ctake s2 i (cd i k) 1 (gr i)) 9002 i (nI k)) (S ||| 2 ^ i) (x + nI (A i k)) (cUp c i (k + 1)) _ (fun a ha => by rw [u2_ne (by omega), tr _ (by omega) (by omega)]; exact P1 a ha) ⟨fun j hj => by
              by_cases e8 : j = i
              · rw [e8, u2_at, cUp_at]
                unfold rwc
                rw [if_neg (by omega), Nat.add_sub_cancel]
              · rw [u2_oi e8, tr _ (by decide) (by decide), cu j e8]
                exact C2.1 j (by omega), fun r hr => by
              have a1 := (c3 r hr).1
              rw [cTk_up hi h0] at a1
              rw [u2_ne (by decide), (t1 r (by omega)).1, C2.2.1 r hr, cTk_up hi h0, ← d3 r hr, Int32.one_mul, nI_minus (by omega)]
              congr 1
              omega, fun g hg4 r hr => by
              rw [u2_ne (by decide), cTg_up hi h0]
              by_cases e8 : gr i = g
              · rw [← e8, (t1 r (by omega)).2, C2.2.2 (gr i) gi r hr, if_pos rfl, d3 r hr, Int32.one_mul, nI_plus]
              · rw [t2 _ (by omega), C2.2.2 g hg4 r hr, if_neg e8, Nat.add_zero]⟩ (O2.of fun a ha => by rw [u2_ne (by omega), tr _ (by omega) (by omega)]) (fun d hd => by
              rcases hd with hd | ⟨hd, hd2⟩
              · obtain ⟨h1, m, m1, m2, m3⟩ := hX d hd
                exact ⟨h1, m, by omega, fun j hj => by rw [cu j (by omega)]; exact m2 j hj, by rw [cu m (by omega)]; exact m3⟩
              · exact ⟨hd.1, i, by omega, fun j hj => by rw [cu j (by omega)]; exact hd.2.2.1 j hj, by rw [cUp_at]; omega⟩) (fun j hj => by
              by_cases e8 : j = i
              · rw [e8, cUp_at]
                omega
              · rw [cu j e8]
                exact hc j hj) c3 (fun j h1 h2 => by
              rw [cu j (by omega)]
              exact hz j (by omega) h2) (fun j hj hn => by
              by_cases e8 : j = i
              · rw [e8]
                exact c0
              · rw [cu j e8] at hn
                exact ho j hj hn) hS2 hx2
          generalize g_Cpick B pkM grM cd f (i + 1) (u2 (g_Ctake s2 i (cd i k) 1 (gr i)) 9002 i (nI k)) (S ||| 2 ^ i) (x + nI (A i k)) = s3 at U ⊢
          obtain ⟨u1, u2', u3⟩ := U
          obtain ⟨b1, b2⟩ := took (σ := s3) (j := i) (n := cd i k) (y := -1) (g := gr i) d1
          have br : ∀ a, a ≠ 9004 → a ≠ 9005 → g_Ctake s3 i (cd i k) (-1) (gr i) a = s3 a := fun a h1 h2 => fr_Ctake ⟨h1, h2⟩
          refine ⟨fun a ha => (br a (by omega) (by omega)).trans (u1 a ha), ⟨fun j hj => ?_, fun r hr => ?_, fun g hg4 r hr => ?_⟩, (u3.of fun a ha => br a (by omega) (by omega)).iff fun d => ⟨fun h => ?_, fun h => ?_⟩⟩
          · rw [br _ (by decide) (by decide), u2'.1 j (by omega), cu j (by omega)]
          · have a1 := (c3 r hr).1
            rw [cTk_up hi h0] at a1
            rw [(b1 r (by omega)).1, u2'.2.1 r hr, cTk_up hi h0, ← d3 r hr, Int32.neg_mul, Int32.one_mul, Int32.sub_eq_add_neg, Int32.neg_neg, nI_plus]
            congr 1
            omega
          · by_cases e8 : gr i = g
            · rw [← e8, (b1 r (by omega)).2, u2'.2.2 (gr i) gi r hr, cTg_up hi h0, if_pos rfl, ← d3 r hr, Int32.neg_mul, Int32.one_mul, ← Int32.sub_eq_add_neg, nI_minus (by omega), Nat.add_sub_cancel]
            · rw [b2 _ (by omega), u2'.2.2 g hg4 r hr, cTg_up hi h0, if_neg e8, Nat.add_zero]
          · rcases h with (h | h) | h
            · exact .inl h
            · exact .inr ⟨h.1, by omega⟩
            · obtain ⟨h1, h2, h3, h4⟩ := h
              refine .inr ⟨⟨h1, h2, fun j hj => by rw [h3 j (by omega), cu j (by omega)], h4⟩, ?_⟩
              rw [h3 i (by omega), cUp_at]
              exact Nat.le_refl _
          · rcases h with h | ⟨⟨h1, h2, h3, h4⟩, h5⟩
            · exact .inl (.inl h)
            · by_cases e8 : d i ≤ k
              · exact .inl (.inr ⟨⟨h1, h2, h3, h4⟩, e8⟩)
              · refine .inr ⟨h1, h2, fun j hj => ?_, h4⟩
                by_cases e7 : j = i
                · rw [e7, cUp_at]
                  omega
                · rw [cu j e7]
                  exact h3 j (by omega)
        · rw [if_pos (fi.mpr (fun z => c3 (ff.mpr z)))]
          refine ⟨fun s' e9 => ?_, fun s' e9 => (by cases e9)⟩
          rw [← Sum.inl.inj e9]
          refine ⟨P1, C2, O2.iff fun d => or_congr Iff.rfl ⟨fun h => ⟨h.1, by omega⟩, fun h => ⟨h.1, ?_⟩⟩⟩
          obtain ⟨⟨h1, h2, h3, h4⟩, h5⟩ := h
          rcases Nat.lt_or_ge k (d i) with l | l
          · exfalso
            refine c3 (cLe_fe (d := d) (fun j hj => ?_) h2)
            by_cases e8 : j = i
            · rw [e8, cUp_at]
              exact .inr (by omega)
            · rw [cUp_ne e8]
              by_cases e7 : j < i
              · exact .inr (h3 j e7).symm
              · exact .inl (hz j (by omega) hj)
          · exact l
      · rw [if_neg c0]
        refine ⟨fun s' e9 => (by cases e9), fun s' e9 => ?_⟩
        rw [← Sum.inr.inj e9]
        refine ⟨P1, C2, O2.iff fun d => or_congr Iff.rfl ⟨fun h => h.1, fun h => ⟨h, ?_⟩⟩⟩
        by_cases z : d i = 0
        · omega
        · exact absurd (h.2.2.2 i hi z) c0
    · obtain ⟨P1, C2, O2⟩ := hP
      rw [ep i hiB] at O2
      exact ⟨P1, C2, O2.iff fun d => or_congr Iff.rfl ⟨fun h => h.1, fun h => ⟨h, h.1 i hi⟩⟩⟩
    · refine or_congr Iff.rfl ⟨fun ⟨h1, h2, h3, h4⟩ => ⟨⟨h1, h2, fun j hj => h3 j (by omega), h4⟩, by rw [h3 i (by omega), h0]; exact Nat.le_refl _⟩, fun ⟨⟨h1, h2, h3, h4⟩, h5⟩ => ⟨h1, h2, fun j hj => ?_, h4⟩⟩
      by_cases e9 : j = i
      · rw [e9, h0]
        omega
      · exact h3 j (by omega)
end
end
section
/-! ===== worths of sets, and who wins ===== -/
def sbt (T S : Nat) : Prop := ∀ j, j < 6 → T.testBit j = true → S.testBit j = true
def IsW (b : Nat → Nat) (S w : Nat) : Prop := (∀ T, T < 64 → sbt T S → b T ≤ w) ∧ ∃ T, T < 64 ∧ sbt T S ∧ b T = w
def IsB (A : Nat → Nat → Nat) (X : (Nat → Nat) → Prop) (b : Nat → Nat) : Prop := ∀ S, S < 64 → (∀ d, X d → cSp d = S → cAm A d ≤ b S) ∧ (b S = 0 ∨ ∃ c, X c ∧ cSp c = S ∧ cAm A c = b S)
def WW (A : Nat → Nat → Nat) (X : (Nat → Nat) → Prop) (row : Nat → Int32) : Prop := ∃ b : Nat → Nat, IsB A X b ∧ ∀ S, S < 64 → ∃ w, row S = nI w ∧ w ≤ 1800000 ∧ IsW b S w
def WN (A : Nat → Nat → Nat) (X : (Nat → Nat) → Prop) (row : Nat → Int32) : Prop := ∃ c, X c ∧ (∀ d, X d → btr A c d) ∧ ∀ j, j < 6 → row j = rwc (c j)
section
variable {σ s s2 t : XS9} {A : Nat → Nat → Nat} {X Y : (Nat → Nat) → Prop} {b b2 : Nat → Nat} {S T w w2 k m : Nat} {row row2 : Nat → Int32}
theorem IsB.uniq (h : IsB A X b) (h2 : IsB A X b2) (hS : S < 64) : b S = b2 S := by
  obtain ⟨a1, a2⟩ := h S hS
  obtain ⟨c1, c2⟩ := h2 S hS
  have l1 : b S ≤ b2 S := by
    rcases a2 with z | ⟨c, x1, x2, x3⟩
    · omega
    · rw [← x3]
      exact c1 c x1 x2
  have l2 : b2 S ≤ b S := by
    rcases c2 with z | ⟨c, x1, x2, x3⟩
    · omega
    · rw [← x3]
      exact a1 c x1 x2
  omega
theorem IsW.uniq (h : IsW b S w) (h2 : IsW b2 S w2) (e : ∀ T, T < 64 → b T = b2 T) : w = w2 := by
  obtain ⟨a1, T1, t1, t2, t3⟩ := h
  obtain ⟨c1, T2, u1, u2', u3⟩ := h2
  have l1 := c1 T1 t1 t2
  have l2 := a1 T2 u1 u2'
  rw [← e T1 t1] at l1
  rw [e T2 u1] at l2
  omega
theorem WW.uniq (h : WW A X row) (h2 : WW A X row2) (hS : S < 64) : row S = row2 S := by
  obtain ⟨b, x1, x2⟩ := h
  obtain ⟨b2, y1, y2⟩ := h2
  obtain ⟨w, p1, _, p2⟩ := x2 S hS
  obtain ⟨w2, r1, _, r2⟩ := y2 S hS
  rw [p1, r1, p2.uniq r2 (fun T hT => x1.uniq y1 hT)]
theorem WN.uniq (h : WN A X row) (h2 : WN A X row2) {j : Nat} (hj : j < 6) : row j = row2 j := by
  obtain ⟨c, x1, x2, x3⟩ := h
  obtain ⟨d, y1, y2, y3⟩ := h2
  rw [x3 j hj, y3 j hj, (x2 d y1).anti (y2 c x1) j hj]
theorem WW.iff (h : WW A X row) (e : ∀ d, X d ↔ Y d) : WW A Y row := by
  rw [← show X = Y from funext fun d => propext (e d)]
  exact h
theorem WN.iff (h : WN A X row) (e : ∀ d, X d ↔ Y d) : WN A Y row := by
  rw [← show X = Y from funext fun d => propext (e d)]
  exact h
theorem WW.onto (h : WW A X row) (e : ∀ S, S < 64 → row2 S = row S) : WW A X row2 := by
  obtain ⟨b, x1, x2⟩ := h
  exact ⟨b, x1, fun S hS => by rw [e S hS]; exact x2 S hS⟩
theorem WN.onto (h : WN A X row) (e : ∀ j, j < 6 → row2 j = row j) : WN A X row2 := by
  obtain ⟨c, x1, x2, x3⟩ := h
  exact ⟨c, x1, x2, fun j hj => by rw [e j hj]; exact x3 j hj⟩
/-! bits of sets below 64 -/
theorem bclr_bits (hS : S < 64) (hk : k < 6) : (∀ j, j < 6 → (bclr S k).testBit j = (S.testBit j && decide (j ≠ k))) ∧ bclr S k < 64 ∧ (S.testBit k = true → bclr S k < S ∧ bsub S k = bclr S k) := by
  have : ∀ S, S < 64 → ∀ k, k < 6 → (∀ j, j < 6 → (bclr S k).testBit j = (S.testBit j && decide (j ≠ k))) ∧ bclr S k < 64 ∧ (S.testBit k = true → bclr S k < S ∧ bsub S k = bclr S k) := by decide +kernel
  exact this S hS k hk
theorem tst_m (hS : S < 64) (hk : k < 6) : (((nI S) >>> ((nI k) &&& 31)) &&& 1) = 1 ↔ S.testBit k = true := by
  have : ∀ S, S < 64 → ∀ k, k < 6 → ((((nI S) >>> ((nI k) &&& 31)) &&& 1) = 1 ↔ S.testBit k = true) := by decide +kernel
  exact this S hS k hk
theorem tst_c (hS : S < 64) (hk : k < 6) : ((nI S) &&& (1 <<< ((nI k) &&& 31))) = 0 ↔ S.testBit k = false := by
  have : ∀ S, S < 64 → ∀ k, k < 6 → (((nI S) &&& (1 <<< ((nI k) &&& 31))) = 0 ↔ S.testBit k = false) := by decide +kernel
  exact this S hS k hk
theorem eq_bits (hS : S < 64) (hT : T < 64) (h : ∀ j, j < 6 → T.testBit j = S.testBit j) : T = S := by
  refine Nat.eq_of_testBit_eq fun j => ?_
  rcases Nat.lt_or_ge j 6 with l | l
  · exact h j l
  · have p : 64 ≤ 2 ^ j := Nat.pow_le_pow_right (n := 2) (by decide) l
    rw [Nat.testBit_lt_two_pow (by omega), Nat.testBit_lt_two_pow (by omega)]
/-- what a set is worth after m of its members were looked at -/
def Wm (b : Nat → Nat) (S m w : Nat) : Prop := (∀ T, T < 64 → sbt T S → (T = S ∨ ∃ k, k < m ∧ S.testBit k = true ∧ T.testBit k = false) → b T ≤ w) ∧ ∃ T, T < 64 ∧ sbt T S ∧ b T = w
theorem Wm.start (hS : S < 64) : Wm b S 0 (b S) := ⟨fun T _ _ h => by
  rcases h with h | ⟨k, hk, _⟩
  · rw [h]
    exact Nat.le_refl _
  · omega, S, hS, fun _ _ h => h, rfl⟩
theorem Wm.skip (h : Wm b S m w) (hb : S.testBit m = false) : Wm b S (m + 1) w := ⟨fun T h1 h2 h3 => h.1 T h1 h2 (h3.elim .inl fun ⟨k, k1, k2, k3⟩ => .inr ⟨k, by
  by_cases e : k = m
  · rw [e, hb] at k2
    cases k2
  · omega, k2, k3⟩), h.2⟩
theorem Wm.more (h : Wm b S m w) (hS : S < 64) (hm : m < 6) (hb : S.testBit m = true) (h2 : IsW b (bclr S m) w2) : Wm b S (m + 1) (if w < w2 then w2 else w) := by
  obtain ⟨b1, b2, b3⟩ := bclr_bits hS hm
  have up : ∀ T, sbt T (bclr S m) → sbt T S := fun T hT j hj ht => by
    have := hT j hj ht
    rw [b1 j hj] at this
    exact (Bool.and_eq_true_iff.mp this).1
  have key : ∀ T, T < 64 → sbt T S → (T = S ∨ ∃ k, k < m + 1 ∧ S.testBit k = true ∧ T.testBit k = false) → b T ≤ w ∨ b T ≤ w2 := fun T t1 t2 t3 => by
    rcases t3 with t3 | ⟨k, k1, k2, k3⟩
    · exact .inl (h.1 T t1 t2 (.inl t3))
    · by_cases e : k = m
      · subst e
        refine .inr (h2.1 T t1 fun j hj ht => ?_)
        rw [b1 j hj, t2 j hj ht]
        have : j ≠ k := fun z => by
          rw [z, k3] at ht
          cases ht
        simp [this]
      · exact .inl (h.1 T t1 t2 (.inr ⟨k, by omega, k2, k3⟩))
  by_cases l : w < w2
  · rw [if_pos l]
    refine ⟨fun T t1 t2 t3 => by have := key T t1 t2 t3; omega, ?_⟩
    obtain ⟨_, T, t1, t2, t3⟩ := h2
    exact ⟨T, t1, up T t2, t3⟩
  · rw [if_neg l]
    exact ⟨fun T t1 t2 t3 => by have := key T t1 t2 t3; omega, h.2⟩
theorem Wm.fin (h : Wm b S 6 w) (hS : S < 64) : IsW b S w := ⟨fun T h1 h2 => by
  refine h.1 T h1 h2 ?_
  by_cases e : T = S
  · exact .inl e
  · refine .inr (Classical.byContradiction fun n => e (eq_bits hS h1 fun j hj => ?_))
    cases hs : S.testBit j with
    | true =>
      cases ht : T.testBit j with
      | true => rfl
      | false => exact absurd ⟨j, hj, hs, ht⟩ n
    | false =>
      cases ht : T.testBit j with
      | true => rw [h2 j hj ht] at hs; cases hs
      | false => rfl, h.2⟩
/-- the reference's sets -/
theorem clo_m (h : ∀ S, S < 64 → s 9003 S = nI (b S) ∧ b S ≤ 1800000) : (∀ S, S < 64 → ∃ w, x_CinitA_138 σ s 9003 S = nI w ∧ w ≤ 1800000 ∧ IsW b S w) ∧ ∀ a, a ≠ 9003 → x_CinitA_138 σ s a = s a := by
  have H := xit_ind (step := fun i138 s138 => (x_CinitA_149 σ i138 s138)) (fun i s2 => (∀ S, S < 64 → S < i → ∃ w, s2 9003 S = nI w ∧ w ≤ 1800000 ∧ IsW b S w) ∧ (∀ S, S < 64 → i ≤ S → s2 9003 S = nI (b S)) ∧ ∀ a, a ≠ 9003 → s2 a = s a) (N := 64) (fun i s2 hi hP => ?_) 64 0 s rfl ⟨fun S _ h => absurd h (by omega), fun S hS _ => (h S hS).1, fun _ _ => rfl⟩
  · exact ⟨fun S hS => H.1 S hS hS, H.2.2⟩
  · obtain ⟨p1, p2, p3⟩ := hP
    have G := xit_ind (step := fun i149 (s149 : XS9) => (if (((nI i) >>> ((nI i149) &&& 31)) &&& 1) = 1 then u2 s149 9003 i (if (s149 9003 i) < (s149 9003 (bclr i i149)) then (s149 9003 (bclr i i149)) else (s149 9003 i)) else s149)) (fun m s3 => (∃ w, s3 9003 i = nI w ∧ w ≤ 1800000 ∧ Wm b i m w) ∧ (∀ S, S ≠ i → s3 9003 S = s2 9003 S) ∧ ∀ a, a ≠ 9003 → s3 a = s2 a) (N := 6) (fun m s3 hm hQ => ?_) 6 0 s2 rfl ⟨⟨b i, p2 i hi (Nat.le_refl _), (h i hi).2, Wm.start hi⟩, fun _ _ => rfl, fun _ _ => rfl⟩
    · obtain ⟨⟨w, g1, g2, g3⟩, g4, g5⟩ := G
      refine ⟨fun S hS hl => ?_, fun S hS hl => ?_, fun a ha => ?_⟩
      · by_cases e : S = i
        · rw [e]
          exact ⟨w, g1, g2, g3.fin hi⟩
        · show ∃ w, x_CinitA_149 σ i s2 9003 S = nI w ∧ _
          rw [show x_CinitA_149 σ i s2 9003 S = s2 9003 S from g4 S e]
          exact p1 S hS (by omega)
      · show x_CinitA_149 σ i s2 9003 S = _
        rw [show x_CinitA_149 σ i s2 9003 S = s2 9003 S from g4 S (by omega)]
        exact p2 S hS (by omega)
      · exact (g5 a ha).trans (p3 a ha)
    · obtain ⟨⟨w, g1, g2, g3⟩, g4, g5⟩ := hQ
      (try dsimp only)
      cases hb : i.testBit m with
      | false =>
        rw [if_neg (fun z => by rw [(tst_m hi hm).mp z] at hb; cases hb)]
        exact ⟨⟨w, g1, g2, g3.skip hb⟩, g4, g5⟩
      | true =>
        rw [if_pos ((tst_m hi hm).mpr hb)]
        obtain ⟨b1, b2, b3⟩ := bclr_bits hi hm
        have b4 := (b3 hb).1
        obtain ⟨w2, r1, r2, r3⟩ := p1 (bclr i m) b2 b4
        rw [g4 (bclr i m) (by omega), g1, r1]
        refine ⟨⟨if w < w2 then w2 else w, ?_, by split <;> omega, g3.more hi hm hb r3⟩, fun S hS => ?_, fun a ha => ?_⟩
        · rw [u2_at]
          by_cases l : w < w2
          · rw [if_pos l, if_pos ((nlt (by omega) (by omega)).mpr l)]
          · rw [if_neg l, if_neg (fun z => l ((nlt (by omega) (by omega)).mp z))]
        · rw [u2_oi hS]
          exact g4 S hS
        · rw [u2_ne ha]
          exact g5 a ha
/-- one set's worth -/
theorem worth_c {y : Int32} {v : Nat} (hS : S < 64) (hv : y = nI v) (hv2 : v ≤ 1800000) (hb : b S = v) (h : ∀ T, T < S → ∃ w, σ 1041 T = nI w ∧ w ≤ 1800000 ∧ IsW b T w) : ∃ w, x_worthOf_26 σ S y = nI w ∧ w ≤ 1800000 ∧ IsW b S w := by
  have G := xit_ind (step := fun i26 (s26 : Int32) => (if ((nI S) &&& (1 <<< ((nI i26) &&& 31))) = 0 then s26 else if s26 < (σ 1041 (bsub S i26)) then (σ 1041 (bsub S i26)) else s26)) (fun m s3 => ∃ w, s3 = nI w ∧ w ≤ 1800000 ∧ Wm b S m w) (N := 6) (fun m s3 hm hQ => ?_) 6 0 y rfl ⟨v, hv, hv2, by rw [← hb]; exact Wm.start hS⟩
  · obtain ⟨w, g1, g2, g3⟩ := G
    exact ⟨w, g1, g2, g3.fin hS⟩
  · obtain ⟨w, g1, g2, g3⟩ := hQ
    (try dsimp only)
    cases hb2 : S.testBit m with
    | false =>
      rw [if_pos ((tst_c hS hm).mpr hb2)]
      exact ⟨w, g1, g2, g3.skip hb2⟩
    | true =>
      rw [if_neg (fun z => by rw [(tst_c hS hm).mp z] at hb2; cases hb2)]
      obtain ⟨b1, b2, b3⟩ := bclr_bits hS hm
      obtain ⟨b4, b5⟩ := b3 hb2
      obtain ⟨w2, r1, r2, r3⟩ := h (bclr S m) b4
      rw [b5, g1, r1]
      refine ⟨if w < w2 then w2 else w, ?_, by split <;> omega, g3.more hS hm hb2 r3⟩
      by_cases l : w < w2
      · rw [if_pos l, if_pos ((nlt (by omega) (by omega)).mpr l)]
      · rw [if_neg l, if_neg (fun z => l ((nlt (by omega) (by omega)).mp z))]
/-! the program's winners -/
def ouX (X : (Nat → Nat) → Prop) (o : Int32) (d : Nat → Nat) : Prop := X d ∧ ∀ j, j < 6 → d j ≠ 0 → bt o j = false
theorem bt_lo {S j : Nat} (hS : S < 64) (hj : j < 32) : bt (nI S) j = S.testBit j := by
  show (BitVec.ofNat 32 S).getLsbD j = _
  rw [BitVec.getLsbD_ofNat, decide_eq_true hj, Bool.true_and]
theorem ou_and {d : Nat → Nat} {o : Int32} : ((nI (cSp d)) &&& o) = 0 ↔ ∀ j, j < 6 → d j ≠ 0 → bt o j = false := by
  rw [b_dis]
  refine ⟨fun h j hj hn => h j (by omega) ?_, fun h i hi hb => ?_⟩
  · rw [bt_lo cSp_lt (by omega), cSp_bit hj]
    simp [hn]
  · rw [bt_lo cSp_lt hi] at hb
    rcases Nat.lt_or_ge i 6 with l | l
    · rw [cSp_bit l] at hb
      exact h i l (of_decide_eq_true hb)
    · have p : 64 ≤ 2 ^ i := Nat.pow_le_pow_right (n := 2) (by decide) l
      have q := cSp_lt (c := d)
      rw [Nat.testBit_lt_two_pow (by omega)] at hb
      cases hb
/-- what a set of its own is worth on the program's side -/
def bsC (s : XS9) (S : Nat) : Nat := if ((nI S) &&& (s 1003 5)) = 0 then (if 0 < (s 1042 S) then cn (s 1042 S) else 0) else 0
theorem bsC_ok (h : BOc A X s) (hm : ∀ d, X d → cAm A d ≤ 1800000) : IsB A (ouX X (s 1003 5)) (bsC s) ∧ ∀ S, S < 64 → bsC s S ≤ 1800000 ∧ (if ((nI S) &&& (s 1003 5)) = 0 then (if 0 < (s 1042 S) then (s 1042 S) else 0) else 0) = nI (bsC s S) := by
  have key : ∀ S, S < 64 → (((nI S) &&& (s 1003 5)) = 0 → (s 1042 S = -1 ∧ bsC s S = 0 ∧ ∀ c, X c → cSp c ≠ S) ∨ ∃ c, X c ∧ cSp c = S ∧ s 1042 S = nI (cAm A c) ∧ cAm A c ≤ 1800000 ∧ bsC s S = cAm A c ∧ ∀ d, X d → cSp d = S → btr A c d) := fun S hS ho => by
    rcases h S hS with ⟨a, b⟩ | ⟨c, a, b, e, _, g⟩
    · refine .inl ⟨a, ?_, b⟩
      unfold bsC
      rw [if_pos ho, a]
      rfl
    · have m := hm c a
      refine .inr ⟨c, a, b, e, m, ?_, g⟩
      unfold bsC
      rw [if_pos ho, e]
      by_cases z : 0 < cAm A c
      · rw [if_pos (show (0 : Int32) < nI (cAm A c) from (nlt (a := 0) (by omega) (by omega)).mpr z), cn_nI (by omega)]
      · rw [if_neg (show ¬ (0 : Int32) < nI (cAm A c) from fun y => z ((nlt (a := 0) (by omega) (by omega)).mp y))]
        omega
  refine ⟨fun S hS => ?_, fun S hS => ?_⟩
  · by_cases ho : ((nI S) &&& (s 1003 5)) = 0
    · rcases key S hS ho with ⟨a, b, e⟩ | ⟨c, a, b, e, m, f, g⟩
      · rw [b]
        exact ⟨fun d hd hs => absurd hs (e d hd.1), .inl rfl⟩
      · rw [f]
        refine ⟨fun d hd hs => (g d hd.1 hs).le, .inr ⟨c, ⟨a, ou_and.mp (by rw [b]; exact ho)⟩, b, rfl⟩⟩
    · rw [show bsC s S = 0 from if_neg ho]
      refine ⟨fun d hd hs => absurd (ou_and.mpr hd.2) (by rw [hs]; exact ho), .inl rfl⟩
  · by_cases ho : ((nI S) &&& (s 1003 5)) = 0
    · rw [if_pos ho]
      rcases key S hS ho with ⟨a, b, e⟩ | ⟨c, a, b, e, m, f, g⟩
      · rw [b, a]
        exact ⟨by omega, rfl⟩
      · rw [f, e]
        refine ⟨m, ?_⟩
        by_cases z : 0 < cAm A c
        · rw [if_pos (show (0 : Int32) < nI (cAm A c) from (nlt (a := 0) (by omega) (by omega)).mpr z)]
        · rw [if_neg (show ¬ (0 : Int32) < nI (cAm A c) from fun y => z ((nlt (a := 0) (by omega) (by omega)).mp y)), show cAm A c = 0 by omega]
          rfl
    · rw [if_neg ho, show bsC s S = 0 from if_neg ho]
      exact ⟨by omega, rfl⟩
theorem find_w (h : BOc A X s) (hX : ∀ d, X d → (∀ j, j < 6 → d j ≤ 6) ∧ cAm A d ≤ 1800000) (h0 : ∃ c, X c ∧ cSp c = 0) : WN A (ouX X (s 1003 5)) (g_findWinners s 1040) ∧ WW A (ouX X (s 1003 5)) (g_findWinners s 1041) := by
  obtain ⟨B1, B2⟩ := bsC_ok h fun d hd => (hX d hd).2
  obtain ⟨c0, z1, z2⟩ := h0
  have z3 : ∃ c, ouX X (s 1003 5) c ∧ cSp c = 0 ∧ s 1042 0 = nI (cAm A c) ∧ ∀ j, j < 6 → s 1051 j = rwc (c j) := by
    rcases h 0 (by decide) with ⟨a, b⟩ | ⟨c, a, b, e, f, g⟩
    · exact absurd z2 (b c0 z1)
    · refine ⟨c, ⟨a, ou_and.mp ?_⟩, b, e, f⟩
      rw [b]
      exact Int32.zero_and
  have H := xit_ind (step := fun i4 (s4 : XS9 × Nat) => (if ((nI i4) &&& (s4.1 1003 5)) = 0 then (if (s4.1 1042 i4) = (-1) then (u2 s4.1 1041 i4 (f_worthOf s4.1 i4), s4.2) else (if (s4.1 1042 s4.2) < (s4.1 1042 i4) then (u2 s4.1 1041 i4 (f_worthOf s4.1 i4), i4) else (if (s4.1 1042 i4) = (s4.1 1042 s4.2) then (if (f_isAhead (s4.1 (1051 + i4)) (s4.1 (1051 + s4.2))) = 0 then (u2 s4.1 1041 i4 (f_worthOf s4.1 i4), s4.2) else (u2 s4.1 1041 i4 (f_worthOf s4.1 i4), i4)) else (u2 s4.1 1041 i4 (f_worthOf s4.1 i4), s4.2)))) else (u2 s4.1 1041 i4 (f_worthOf s4.1 i4), s4.2)))
    (fun i p => (∀ S, S < i → ∃ w, p.1 1041 S = nI w ∧ w ≤ 1800000 ∧ IsW (bsC s) S w) ∧ (∀ a, a ≠ 1041 → p.1 a = s a) ∧ p.2 < 64 ∧ ∃ c, ouX X (s 1003 5) c ∧ s 1042 p.2 = nI (cAm A c) ∧ (∀ j, j < 6 → s (1051 + p.2) j = rwc (c j)) ∧ ∀ d, ouX X (s 1003 5) d → cSp d < i → btr A c d) (N := 64) (fun i p hi hP => ?_) 64 0 (s, 0) rfl ⟨fun S hS => absurd hS (by omega), fun _ _ => rfl, (show (0 : Nat) < 64 by decide), ?_⟩
  · obtain ⟨p1, p2, p3, c, p4, p5, p6, p7⟩ := H
    have e41 : g_findWinners s 1041 = (x_findWinners_4 s (s, 0)).1 1041 := by
      unfold g_findWinners
      rw [uR_ne (by decide)]
    refine ⟨⟨c, p4, fun d hd => p7 d hd cSp_lt, fun j hj => ?_⟩, bsC s, B1, fun S hS => ?_⟩
    · unfold g_findWinners
      rw [uR_eq, cpy_lo hj, show (x_findWinners_4 s (s, 0)).1 (1051 + (x_findWinners_4 s (s, 0)).2) = s (1051 + (x_findWinners_4 s (s, 0)).2) from p2 _ (by have : (x_findWinners_4 s (s, 0)).2 < 64 := p3; omega)]
      exact p6 j hj
    · rw [e41]
      exact p1 S hS
  · obtain ⟨p1, p2, p3, c, p4, p5, p6, p7⟩ := hP
    have wo : ∃ w, f_worthOf p.1 i = nI w ∧ w ≤ 1800000 ∧ IsW (bsC s) i w := by
      obtain ⟨q1, q2⟩ := B2 i hi
      unfold f_worthOf
      rw [p2 1003 (by decide), p2 1042 (by decide)]
      by_cases ho : ((nI i) &&& (s 1003 5)) = 0
      · rw [if_pos ho] at q2 ⊢
        exact worth_c hi q2 q1 rfl p1
      · rw [if_neg ho] at q2 ⊢
        exact worth_c hi q2 q1 rfl p1
    obtain ⟨w, w1, w2, w3⟩ := wo
    have wp : ∀ S, S < i + 1 → ∃ w, u2 p.1 1041 i (f_worthOf p.1 i) 1041 S = nI w ∧ w ≤ 1800000 ∧ IsW (bsC s) S w := fun S hS => by
      by_cases e : S = i
      · rw [e, u2_at]
        exact ⟨w, w1, w2, w3⟩
      · rw [u2_oi e]
        exact p1 S (by omega)
    have fr : ∀ a, a ≠ 1041 → u2 p.1 1041 i (f_worthOf p.1 i) a = s a := fun a ha => by
      rw [u2_ne ha]
      exact p2 a ha
    have stay : (∀ d, ouX X (s 1003 5) d → cSp d = i → btr A c d) → (∀ S, S < i + 1 → ∃ w, (u2 p.1 1041 i (f_worthOf p.1 i), p.2).1 1041 S = nI w ∧ w ≤ 1800000 ∧ IsW (bsC s) S w) ∧ (∀ a, a ≠ 1041 → (u2 p.1 1041 i (f_worthOf p.1 i), p.2).1 a = s a) ∧ (u2 p.1 1041 i (f_worthOf p.1 i), p.2).2 < 64 ∧ ∃ c, ouX X (s 1003 5) c ∧ s 1042 (u2 p.1 1041 i (f_worthOf p.1 i), p.2).2 = nI (cAm A c) ∧ (∀ j, j < 6 → s (1051 + (u2 p.1 1041 i (f_worthOf p.1 i), p.2).2) j = rwc (c j)) ∧ ∀ d, ouX X (s 1003 5) d → cSp d < i + 1 → btr A c d := fun hn => ⟨wp, fr, p3, c, p4, p5, p6, fun d hd hl => by
      by_cases e : cSp d = i
      · exact hn d hd e
      · exact p7 d hd (by omega)⟩
    have go : ∀ c1, ouX X (s 1003 5) c1 → s 1042 i = nI (cAm A c1) → (∀ j, j < 6 → s (1051 + i) j = rwc (c1 j)) → btr A c1 c → (∀ d, ouX X (s 1003 5) d → cSp d = i → btr A c1 d) → (∀ S, S < i + 1 → ∃ w, (u2 p.1 1041 i (f_worthOf p.1 i), i).1 1041 S = nI w ∧ w ≤ 1800000 ∧ IsW (bsC s) S w) ∧ (∀ a, a ≠ 1041 → (u2 p.1 1041 i (f_worthOf p.1 i), i).1 a = s a) ∧ (u2 p.1 1041 i (f_worthOf p.1 i), i).2 < 64 ∧ ∃ c, ouX X (s 1003 5) c ∧ s 1042 (u2 p.1 1041 i (f_worthOf p.1 i), i).2 = nI (cAm A c) ∧ (∀ j, j < 6 → s (1051 + (u2 p.1 1041 i (f_worthOf p.1 i), i).2) j = rwc (c j)) ∧ ∀ d, ouX X (s 1003 5) d → cSp d < i + 1 → btr A c d := fun c1 a1 a2 a3 a4 a5 => ⟨wp, fr, hi, c1, a1, a2, a3, fun d hd hl => by
      by_cases e : cSp d = i
      · exact a5 d hd e
      · exact a4.trans (p7 d hd (by omega))⟩
    (try dsimp only)
    rw [p2 1003 (by decide), p2 1042 (by decide), p2 (1051 + i) (by omega), p2 (1051 + p.2) (by omega)]
    by_cases ho : ((nI i) &&& (s 1003 5)) = 0
    · rw [if_pos ho]
      rcases h i hi with ⟨a, b⟩ | ⟨c1, a, b, e, f, g⟩
      · rw [if_pos a]
        exact stay fun d hd hs => absurd hs (b d hd.1)
      · have a1 : ouX X (s 1003 5) c1 := ⟨a, ou_and.mp (by rw [b]; exact ho)⟩
        have m1 := (hX c1 a).2
        have mc := (hX c p4.1).2
        have g1 : ∀ d, ouX X (s 1003 5) d → cSp d = i → btr A c1 d := fun d hd hs => g d hd.1 hs
        rw [if_neg (show ¬ s 1042 i = -1 from fun z => m1_ne (a := cAm A c1) (by omega) (z.symm.trans e))]
        by_cases l : cAm A c < cAm A c1
        · rw [if_pos (show s 1042 p.2 < s 1042 i by rw [p5, e]; exact (nlt (by omega) (by omega)).mpr l)]
          exact go c1 a1 e f (.inl l) g1
        · rw [if_neg (show ¬ s 1042 p.2 < s 1042 i by rw [p5, e]; exact fun z => l ((nlt (by omega) (by omega)).mp z))]
          by_cases l2 : cAm A c1 = cAm A c
          · rw [if_pos (show s 1042 i = s 1042 p.2 by rw [p5, e, l2])]
            have ah := ahead_eq (f := s (1051 + i)) (g := s (1051 + p.2)) (c := c1) (d := c) (fun j hj => ⟨f j hj, (hX c1 a).1 j hj⟩) (fun j hj => ⟨p6 j hj, (hX c p4.1).1 j hj⟩)
            by_cases l3 : lx c1 c
            · rw [if_neg (fun z => ah.mp z l3)]
              exact go c1 a1 e f (.inr ⟨l2.symm, fun z => lx_asym l3 z⟩) g1
            · rw [if_pos (ah.mpr l3)]
              exact stay fun d hd hs => (show btr A c c1 from .inr ⟨l2, l3⟩).trans (g1 d hd hs)
          · rw [if_neg (show ¬ s 1042 i = s 1042 p.2 by rw [p5, e]; exact fun z => l2 (nI_j (by omega) (by omega) z))]
            exact stay fun d hd hs => (show btr A c c1 from .inl (by omega)).trans (g1 d hd hs)
    · rw [if_neg ho]
      exact stay fun d hd hs => absurd (ou_and.mpr hd.2) (by rw [hs]; exact ho)
  · obtain ⟨c, a1, a2, a3, a4⟩ := z3
    exact ⟨c, a1, a3, a4, fun d _ hl => absurd hl (by omega)⟩
end
end
section
/-! ===== raising payments by turns of one more ===== -/
def rmS (a : Nat → Nat) (S : Nat) (p : Nat → Nat) (k : Nat) : Nat := if S.testBit k = true then 0 else a k - p k
def stS (a : Nat → Nat) (S k : Nat) (u : (Nat → Nat) × Nat) : (Nat → Nat) × Nat := if u.2 = 0 ∨ rmS a S u.1 k = 0 then u else (cUp u.1 k (u.1 k + 1), u.2 - 1)
def psS (a : Nat → Nat) (S : Nat) (u : (Nat → Nat) × Nat) : (Nat → Nat) × Nat := xit (stS a S) 6 0 u
def itS (a : Nat → Nat) (S : Nat) : Nat → (Nat → Nat) × Nat → (Nat → Nat) × Nat
  | 0, u => u
  | n + 1, u => itS a S n (psS a S u)
def fiS (a : Nat → Nat) (S : Nat) (u : (Nat → Nat) × Nat) : Prop := u.2 = 0 ∨ ∀ k, k < 6 → rmS a S u.1 k = 0
def bmS (a : Nat → Nat) (S t : Nat) (p : Nat → Nat) : Nat → Nat := fun k => if k < 6 ∧ rmS a S p k ≠ 0 then p k + t else p k
def pyS (a : Nat → Nat) (S : Nat) (p : Nat → Nat) (k : Nat) : Nat := if rmS a S p k = 0 then 0 else 1
def pcS (a : Nat → Nat) (S : Nat) (p : Nat → Nat) : Nat := nsum (pyS a S p) 6
/-- what raising keeps -/
def inS (a : Nat → Nat) (S : Nat) (p0 : Nat → Nat) (L0 : Nat) (u : (Nat → Nat) × Nat) : Prop := (∀ j, p0 j ≤ u.1 j) ∧ (∀ j, j < 6 → u.1 j ≤ a j) ∧ (∀ j, S.testBit j = true → u.1 j = p0 j) ∧ nsum u.1 6 + u.2 = nsum p0 6 + L0
section
variable {a p p0 : Nat → Nat} {S L L0 t n m k : Nat} {u : (Nat → Nat) × Nat}
theorem psS_fin (h : fiS a S u) : psS a S u = u := by
  unfold psS
  refine xit_inv (fun v => v = u) (N := 6) (fun i v hi hP => ?_) 6 0 u rfl rfl
  rw [hP]
  refine if_pos ?_
  rcases h with h | h
  · exact .inl h
  · exact .inr (h i hi)
theorem itS_fin (h : fiS a S u) : ∀ n, itS a S n u = u
  | 0 => rfl
  | n + 1 => by
    show itS a S n (psS a S u) = u
    rw [psS_fin h]
    exact itS_fin h n
theorem itS_add : ∀ (m : Nat) (u : (Nat → Nat) × Nat), itS a S (m + n) u = itS a S n (itS a S m u)
  | 0, u => by rw [Nat.zero_add]; rfl
  | m + 1, u => by
    rw [show m + 1 + n = (m + n) + 1 by omega]
    show itS a S (m + n) (psS a S u) = itS a S n (itS a S m (psS a S u))
    exact itS_add m _
theorem itS_uniq (h1 : fiS a S (itS a S m u)) (h2 : fiS a S (itS a S n u)) : itS a S m u = itS a S n u := by
  rcases Nat.le_total m n with l | l
  · obtain ⟨k, rfl⟩ : ∃ k, n = m + k := ⟨n - m, by omega⟩
    rw [itS_add, itS_fin h1]
  · obtain ⟨k, rfl⟩ : ∃ k, m = n + k := ⟨m - n, by omega⟩
    rw [itS_add, itS_fin h2]
theorem inS.st (h : inS a S p0 L0 u) (hk : k < 6) : inS a S p0 L0 (stS a S k u) := by
  unfold stS
  split
  · exact h
  · rename_i hn
    obtain ⟨h1, h2, h3, h4⟩ := h
    have n1 : u.2 ≠ 0 := fun z => hn (.inl z)
    have n2 : rmS a S u.1 k ≠ 0 := fun z => hn (.inr z)
    have n3 : ¬ S.testBit k = true := fun z => n2 (if_pos z)
    have n4 : rmS a S u.1 k = a k - u.1 k := if_neg n3
    refine ⟨fun j => ?_, fun j hj => ?_, fun j hj => ?_, ?_⟩
    · have := h1 j
      by_cases e : j = k
      · show _ ≤ cUp _ _ _ j
        rw [e, cUp_at, ← e]
        omega
      · show _ ≤ cUp _ _ _ j
        rw [cUp_ne e]
        exact this
    · by_cases e : j = k
      · show cUp _ _ _ j ≤ _
        rw [e, cUp_at]
        omega
      · show cUp _ _ _ j ≤ _
        rw [cUp_ne e]
        exact h2 j hj
    · show cUp _ _ _ j = _
      rw [cUp_ne (fun z => n3 (by rw [← z]; exact hj))]
      exact h3 j hj
    · have := nsum_set (d := u.1) (d2 := cUp u.1 k (u.1 k + 1)) hk (fun j _ e => cUp_ne e)
      rw [cUp_at] at this
      show nsum (cUp u.1 k (u.1 k + 1)) 6 + (u.2 - 1) = _
      omega
theorem inS.ps (h : inS a S p0 L0 u) : inS a S p0 L0 (psS a S u) := by
  unfold psS
  exact xit_inv (inS a S p0 L0) (N := 6) (fun i v hi hP => hP.st hi) 6 0 u rfl h
theorem inS.it : ∀ (n : Nat) {u : (Nat → Nat) × Nat}, inS a S p0 L0 u → inS a S p0 L0 (itS a S n u)
  | 0, _, h => h
  | n + 1, _, h => inS.it n h.ps
theorem inS.start (h : ∀ j, j < 6 → p0 j ≤ a j) : inS a S p0 L0 (p0, L0) := ⟨fun _ => Nat.le_refl _, h, fun _ _ => rfl, rfl⟩
theorem nsum_lej {d : Nat → Nat} {k N : Nat} (h : k ≤ N) : nsum d k ≤ nsum d N := by
  induction N with
  | zero =>
    obtain rfl : k = 0 := by omega
    exact Nat.le_refl _
  | succ n ih =>
    by_cases e : k = n + 1
    · rw [e]
      exact Nat.le_refl _
    · have := ih (by omega)
      show nsum d k ≤ nsum d n + d n
      omega
/-- a whole turn -/
theorem psS_full (h : pcS a S p ≤ L) : psS a S (p, L) = (bmS a S 1 p, L - pcS a S p) := by
  have H := xit_ind (step := stS a S) (fun k u => (∀ j, u.1 j = if j < k ∧ rmS a S p j ≠ 0 then p j + 1 else p j) ∧ u.2 = L - nsum (pyS a S p) k) (N := 6) (fun k u hk hP => ?_) 6 0 (p, L) rfl ⟨fun j => (if_neg (by omega)).symm, rfl⟩
  · show xit (stS a S) 6 0 (p, L) = _
    obtain ⟨h1, h2⟩ := H
    exact Prod.ext (funext h1) h2
  · obtain ⟨h1, h2⟩ := hP
    have l : nsum (pyS a S p) (k + 1) ≤ pcS a S p := nsum_lej (by omega)
    have s : nsum (pyS a S p) (k + 1) = nsum (pyS a S p) k + pyS a S p k := rfl
    have e0 : u.1 k = p k := by
      rw [h1 k]
      exact if_neg (by omega)
    have er : rmS a S u.1 k = rmS a S p k := by
      unfold rmS
      rw [e0]
    unfold stS
    rw [er]
    by_cases c : rmS a S p k = 0
    · rw [if_pos (.inr c)]
      have z : pyS a S p k = 0 := if_pos c
      refine ⟨fun j => ?_, by omega⟩
      rw [h1 j]
      by_cases e : j = k
      · rw [if_neg (by omega), if_neg (by rw [e]; exact fun q => q.2 c)]
      · by_cases e2 : j < k ∧ rmS a S p j ≠ 0
        · rw [if_pos e2, if_pos ⟨by omega, e2.2⟩]
        · rw [if_neg e2, if_neg (fun q => e2 ⟨by omega, q.2⟩)]
    · have z : pyS a S p k = 1 := if_neg c
      rw [if_neg (fun q => q.elim (fun q => by omega) c)]
      refine ⟨fun j => ?_, by show u.2 - 1 = _; omega⟩
      show cUp u.1 k (u.1 k + 1) j = _
      by_cases e : j = k
      · rw [e, cUp_at, if_pos ⟨by omega, c⟩, h1 k, if_neg (by omega)]
      · rw [cUp_ne e, h1 j]
        by_cases e2 : j < k ∧ rmS a S p j ≠ 0
        · rw [if_pos e2, if_pos ⟨by omega, e2.2⟩]
        · rw [if_neg e2, if_neg (fun q => e2 ⟨by omega, q.2⟩)]
theorem bm_room (h : ∀ k, k < 6 → rmS a S p k ≠ 0 → t + 1 ≤ rmS a S p k) (hk : k < 6) : (rmS a S (bmS a S t p) k = 0 ↔ rmS a S p k = 0) := by
  by_cases c : rmS a S p k = 0
  · have e : bmS a S t p k = p k := if_neg (fun q => q.2 c)
    unfold rmS at c ⊢
    rw [e]
  · have l := h k hk c
    have e : bmS a S t p k = p k + t := if_pos ⟨hk, c⟩
    unfold rmS at c l ⊢
    rw [e]
    split at l
    · omega
    · rename_i z
      rw [if_neg z] at c
      rw [if_neg z, if_neg z]
      omega
theorem bm_pc (h : ∀ k, k < 6 → rmS a S p k ≠ 0 → t + 1 ≤ rmS a S p k) : pcS a S (bmS a S t p) = pcS a S p := nsum_cg fun k hk => by
  have := bm_room h hk
  unfold pyS
  by_cases c : rmS a S p k = 0
  · rw [if_pos c, if_pos (this.mpr c)]
  · rw [if_neg c, if_neg (fun q => c (this.mp q))]
/-- many turns at once -/
theorem bulk : ∀ (t : Nat), (∀ k, k < 6 → rmS a S p k ≠ 0 → t ≤ rmS a S p k) → t * pcS a S p ≤ L → itS a S t (p, L) = (bmS a S t p, L - t * pcS a S p)
  | 0, _, _ => by
    rw [Nat.zero_mul]
    refine Prod.ext (funext fun k => ?_) rfl
    show p k = bmS a S 0 p k
    unfold bmS
    split <;> rfl
  | t + 1, h, hL => by
    have h1 : ∀ k, k < 6 → rmS a S p k ≠ 0 → t ≤ rmS a S p k := fun k hk q => by have := h k hk q; omega
    rw [Nat.succ_mul] at hL
    have ih := bulk t h1 (by omega)
    rw [itS_add (n := 1) t, ih]
    show psS a S (bmS a S t p, L - t * pcS a S p) = _
    have e := bm_pc h
    rw [psS_full (by rw [e]; omega), e, Nat.succ_mul]
    refine Prod.ext (funext fun k => ?_) (by show L - t * pcS a S p - pcS a S p = L - (t * pcS a S p + pcS a S p); omega)
    show bmS a S 1 (bmS a S t p) k = bmS a S (t + 1) p k
    by_cases hk : k < 6
    · have r := bm_room h hk
      by_cases c : rmS a S p k = 0
      · have e1 : bmS a S t p k = p k := if_neg (fun q => q.2 c)
        rw [show bmS a S 1 (bmS a S t p) k = bmS a S t p k from if_neg (fun q => q.2 (r.mpr c)), e1, show bmS a S (t + 1) p k = p k from if_neg (fun q => q.2 c)]
      · have e1 : bmS a S t p k = p k + t := if_pos ⟨hk, c⟩
        rw [show bmS a S 1 (bmS a S t p) k = bmS a S t p k + 1 from if_pos ⟨hk, fun q => c (r.mp q)⟩, e1, show bmS a S (t + 1) p k = p k + (t + 1) from if_pos ⟨hk, c⟩]
        omega
    · rw [show bmS a S 1 (bmS a S t p) k = bmS a S t p k from if_neg (fun q => hk q.1), show bmS a S t p k = p k from if_neg (fun q => hk q.1), show bmS a S (t + 1) p k = p k from if_neg (fun q => hk q.1)]
/-- a turn for which too little is left -/
theorem psS_low (h : L < pcS a S p) : (psS a S (p, L)).2 = 0 := by
  have H := xit_ind (step := stS a S) (fun k u => u.2 = 0 ∨ (u.2 + nsum (pyS a S p) k = L ∧ ∀ j, k ≤ j → u.1 j = p j)) (N := 6) (fun k u hk hP => ?_) 6 0 (p, L) rfl (.inr ⟨rfl, fun _ _ => rfl⟩)
  · rcases H with H | H
    · exact H
    · have := H.1
      have e : nsum (pyS a S p) 6 = pcS a S p := rfl
      show (xit (stS a S) 6 0 (p, L)).2 = 0
      omega
  · rcases hP with hP | ⟨h1, h2⟩
    · refine .inl ?_
      unfold stS
      rw [if_pos (.inl hP)]
      exact hP
    · have s : nsum (pyS a S p) (k + 1) = nsum (pyS a S p) k + pyS a S p k := rfl
      have er : rmS a S u.1 k = rmS a S p k := by
        unfold rmS
        rw [h2 k (Nat.le_refl _)]
      unfold stS
      rw [er]
      by_cases c : rmS a S p k = 0
      · have z : pyS a S p k = 0 := if_pos c
        rw [if_pos (.inr c)]
        exact .inr ⟨by omega, fun j hj => h2 j (by omega)⟩
      · have z : pyS a S p k = 1 := if_neg c
        by_cases c0 : u.2 = 0
        · rw [if_pos (.inl c0)]
          exact .inl c0
        · rw [if_neg (fun q => q.elim c0 c)]
          refine .inr ⟨by show u.2 - 1 + _ = L; omega, fun j hj => ?_⟩
          show cUp u.1 k _ j = p j
          rw [cUp_ne (by omega)]
          exact h2 j (by omega)
theorem pc_0 (h : pcS a S p = 0) (hk : k < 6) : rmS a S p k = 0 := by
  have := nsum_ge (d := pyS a S p) hk
  have e : nsum (pyS a S p) 6 = pcS a S p := rfl
  by_cases c : rmS a S p k = 0
  · exact c
  · have z : pyS a S p k = 1 := if_neg c
    omega
theorem pc_6 : pcS a S p ≤ 6 := by
  have := nsum_le (d := pyS a S p) (k := 1) (N := 6) fun i _ => by
    unfold pyS
    split <;> decide
  unfold pcS
  omega
theorem rm_a : rmS a S p k ≤ a k := by
  unfold rmS
  split <;> omega
end
/-! the program's turns -/
section
variable {σ s : XS9} {a p : Nat → Nat} {S L t : Nat}
def PY (a p : Nat → Nat) (s : XS9) : Prop := ∀ j, j < 6 → s 1131 j = nI (a j) ∧ s 1133 j = nI (p j)
theorem room_c (h : PY a p s) (hS : S < 64) (hp : ∀ j, j < 6 → p j ≤ a j) {j : Nat} (hj : j < 6) : f_roomOutside s (nI S) j = nI (rmS a S p j) := by
  unfold f_roomOutside rmS
  cases hb : S.testBit j with
  | false =>
    rw [if_pos ((tst_c hS hj).mpr hb), if_neg (by decide), (show s (1131 + 0) j = nI (a j) from (h j hj).1), (show s (1131 + 2) j = nI (p j) from (h j hj).2), nI_minus (hp j hj)]
  | true =>
    rw [if_neg (fun z => by rw [(tst_c hS hj).mp z] at hb; cases hb), if_pos rfl]
    rfl
theorem each_t (h : PY a p s) (hS : S < 64) (hp : ∀ j, j < 6 → p j ≤ a j) (ha : ∀ j, j < 6 → a j ≤ 300000) (ht : 1 ≤ t) (h1 : ∀ k, k < 6 → rmS a S p k ≠ 0 → t ≤ rmS a S p k) (hL : t * pcS a S p ≤ L) (hL2 : L ≤ 2000000) (ht2 : t ≤ 2000000) : (∀ j, j < 6 → g_raiseEach s (nI S) (nI t) (nI L) 1133 j = nI (bmS a S t p j)) ∧ f_raiseEach s (nI S) (nI t) (nI L) = nI (t * pcS a S p) ∧ ∀ q, q ≠ 1133 → g_raiseEach s (nI S) (nI t) (nI L) q = s q := by
  have H := xit_ind (step := fun i6 (s6 : XS9 × Int32) => (if nI L < (s6.2 + nI t) then (s6.1, s6.2) else (if (f_roomOutside s6.1 (nI S) i6) < nI t then (s6.1, s6.2) else (u2 s6.1 (1131 + 2) i6 ((s6.1 (1131 + 2) i6) + nI t), s6.2 + nI t)))) (fun k v => (∀ j, j < 6 → v.1 1133 j = nI (if j < k ∧ rmS a S p j ≠ 0 then p j + t else p j)) ∧ v.2 = nI (t * nsum (pyS a S p) k) ∧ ∀ q, q ≠ 1133 → v.1 q = s q) (N := 6) (fun k v hk hP => ?_) 6 0 (s, 0) rfl ⟨fun j hj => by rw [if_neg (by omega)]; exact (h j hj).2, by rfl, fun _ _ => rfl⟩
  · exact ⟨fun j hj => H.1 j hj, H.2.1, H.2.2⟩
  · obtain ⟨v1, v2, v3⟩ := hP
    have l : nsum (pyS a S p) (k + 1) ≤ pcS a S p := nsum_lej (by omega)
    have sm : nsum (pyS a S p) (k + 1) = nsum (pyS a S p) k + pyS a S p k := rfl
    have lm : t * nsum (pyS a S p) (k + 1) ≤ t * pcS a S p := Nat.mul_le_mul_left _ l
    rw [sm, Nat.mul_add] at lm
    have er : f_roomOutside v.1 (nI S) k = nI (rmS a S p k) := by
      rw [← room_c h hS hp hk]
      unfold f_roomOutside
      rw [show v.1 (1131 + 0) = s (1131 + 0) from v3 1131 (by decide), show v.1 (1131 + 2) k = s (1131 + 2) k from by
        rw [show (1131 + 2 : Nat) = 1133 from rfl, v1 k hk, if_neg (by omega), (h k hk).2]]
    have rb := rm_a (a := a) (S := S) (p := p) (k := k)
    have ak := ha k hk
    (try dsimp only)
    rw [er, v2, nI_plus]
    by_cases c : rmS a S p k = 0
    · have z : pyS a S p k = 0 := if_pos c
      have stay : (∀ j, j < 6 → v.1 1133 j = nI (if j < k + 1 ∧ rmS a S p j ≠ 0 then p j + t else p j)) ∧ v.2 = nI (t * nsum (pyS a S p) (k + 1)) ∧ ∀ q, q ≠ 1133 → v.1 q = s q := by
        refine ⟨fun j hj => ?_, by rw [v2, sm, z, Nat.add_zero], v3⟩
        rw [v1 j hj]
        congr 1
        by_cases e : j = k
        · rw [if_neg (by omega), if_neg (by rw [e]; exact fun q => q.2 c)]
        · by_cases e2 : j < k ∧ rmS a S p j ≠ 0
          · rw [if_pos e2, if_pos ⟨by omega, e2.2⟩]
          · rw [if_neg e2, if_neg (fun q => e2 ⟨by omega, q.2⟩)]
      rw [v2] at stay
      split
      · exact stay
      · rw [if_pos ((nlt (by omega) (by omega)).mpr (by omega))]
        exact stay
    · have z : pyS a S p k = 1 := if_neg c
      have tk := h1 k hk c
      rw [z, Nat.mul_one] at lm
      rw [if_neg (fun q => by have := (nlt (by omega) (by omega)).mp q; omega), if_neg (fun q => by have := (nlt (by omega) (by omega)).mp q; omega)]
      refine ⟨fun j hj => ?_, by show nI (t * nsum (pyS a S p) k + t) = _; rw [sm, z, Nat.mul_add, Nat.mul_one], fun q hq => ?_⟩
      · show u2 v.1 1133 k (v.1 1133 k + nI t) 1133 j = _
        by_cases e : j = k
        · rw [e, u2_at, v1 k hk, if_neg (by omega), if_pos ⟨by omega, c⟩, nI_plus]
        · rw [u2_oi e, v1 j hj]
          congr 1
          by_cases e2 : j < k ∧ rmS a S p j ≠ 0
          · rw [if_pos e2, if_pos ⟨by omega, e2.2⟩]
          · rw [if_neg e2, if_neg (fun q => e2 ⟨by omega, q.2⟩)]
      · show u2 v.1 1133 k _ q = s q
        rw [u2_ne hq]
        exact v3 q hq
theorem each_1 (h : PY a p s) (hS : S < 64) (hp : ∀ j, j < 6 → p j ≤ a j) (ha : ∀ j, j < 6 → a j ≤ 300000) (hL2 : L ≤ 2000000) : (∀ j, j < 6 → g_raiseEach s (nI S) 1 (nI L) 1133 j = nI ((psS a S (p, L)).1 j)) ∧ ∀ q, q ≠ 1133 → g_raiseEach s (nI S) 1 (nI L) q = s q := by
  unfold psS g_raiseEach x_raiseEach_6
  have H := xit_two (f := fun i6 (s6 : XS9 × Int32) => (if nI L < (s6.2 + 1) then (s6.1, s6.2) else (if (f_roomOutside s6.1 (nI S) i6) < 1 then (s6.1, s6.2) else (u2 s6.1 (1131 + 2) i6 ((s6.1 (1131 + 2) i6) + 1), s6.2 + 1)))) (g := stS a S) (fun _ v u => (∀ j, j < 6 → v.1 1133 j = nI (u.1 j)) ∧ (∀ j, j < 6 → u.1 j ≤ a j) ∧ u.2 ≤ L ∧ v.2 = nI (L - u.2) ∧ ∀ q, q ≠ 1133 → v.1 q = s q) (N := 6) (fun k v u hk hP => ?_) 6 0 (s, 0) (p, L) rfl ⟨fun j hj => (h j hj).2, hp, Nat.le_refl _, by show (0 : Int32) = nI (L - L); rw [Nat.sub_self]; rfl, fun _ _ => rfl⟩
  · exact ⟨H.1, H.2.2.2.2⟩
  · obtain ⟨v1, v5, v2, v4, v3⟩ := hP
    have er : f_roomOutside v.1 (nI S) k = nI (rmS a S u.1 k) := room_c (a := a) (p := u.1) (fun j hj => ⟨by rw [v3 1131 (by decide)]; exact (h j hj).1, v1 j hj⟩) hS v5 hk
    have rb := rm_a (a := a) (S := S) (p := u.1) (k := k)
    have ak := ha k hk
    (try dsimp only)
    rw [er, v4, show nI (L - u.2) + 1 = nI (L - u.2 + 1) from nI_plus _ 1]
    unfold stS
    by_cases c0 : u.2 = 0
    · rw [if_pos ((nlt (by omega) (by omega)).mpr (by omega)), if_pos (.inl c0)]
      exact ⟨v1, v5, v2, rfl, v3⟩
    · rw [if_neg (fun q => by have := (nlt (by omega) (by omega)).mp q; omega)]
      by_cases c : rmS a S u.1 k = 0
      · rw [if_pos (show nI (rmS a S u.1 k) < (1 : Int32) from (nlt (a := rmS a S u.1 k) (b := 1) (by omega) (by omega)).mpr (by omega)), if_pos (.inr c)]
        exact ⟨v1, v5, v2, rfl, v3⟩
      · rw [if_neg (show ¬ nI (rmS a S u.1 k) < (1 : Int32) from fun q => by have := (nlt (a := rmS a S u.1 k) (b := 1) (by omega) (by omega)).mp q; omega), if_neg (fun q => q.elim c0 c)]
        have n3 : ¬ S.testBit k = true := fun z => c (if_pos z)
        have n4 : rmS a S u.1 k = a k - u.1 k := if_neg n3
        refine ⟨fun j hj => ?_, fun j hj => ?_, by show u.2 - 1 ≤ L; omega, ?_, fun q hq => ?_⟩
        · show u2 v.1 1133 k (v.1 1133 k + 1) 1133 j = nI (cUp u.1 k (u.1 k + 1) j)
          by_cases e : j = k
          · rw [e, u2_at, cUp_at, v1 k hk]
            exact nI_plus _ 1
          · rw [u2_oi e, cUp_ne e]
            exact v1 j hj
        · show cUp u.1 k (u.1 k + 1) j ≤ a j
          by_cases e : j = k
          · rw [e, cUp_at]
            omega
          · rw [cUp_ne e]
            exact v5 j hj
        · show nI (L - u.2 + 1) = nI (L - (u.2 - 1))
          congr 1
          omega
        · show u2 v.1 1133 k _ q = s q
          rw [u2_ne hq]
          exact v3 q hq
/-- how many pay, and how many turns none is left out -/
theorem turns_c (h : PY a p s) (hS : S < 64) (hp : ∀ j, j < 6 → p j ≤ a j) (ha : ∀ j, j < 6 → a j ≤ 300000) (hL2 : L ≤ 2000000) {y l9 : Int32} : (x_raiseOutside_21 σ (nI S) y (s, l9) (0, nI L)).1 = nI (pcS a S p) ∧ ∃ m, (x_raiseOutside_21 σ (nI S) y (s, l9) (0, nI L)).2 = nI m ∧ m ≤ L ∧ (∀ j, j < 6 → rmS a S p j ≠ 0 → m ≤ rmS a S p j) ∧ (m = L ∨ ∃ j, j < 6 ∧ rmS a S p j ≠ 0 ∧ m = rmS a S p j) := by
  have H := xit_ind (step := fun i21 (s21 : Int32 × Int32) => (if (f_roomOutside s (nI S) i21) ≤ 0 then (s21.1, s21.2) else (s21.1 + 1, if (f_roomOutside s (nI S) i21) < s21.2 then (f_roomOutside s (nI S) i21) else s21.2))) (fun k v => v.1 = nI (nsum (pyS a S p) k) ∧ ∃ m, v.2 = nI m ∧ m ≤ L ∧ (∀ j, j < k → rmS a S p j ≠ 0 → m ≤ rmS a S p j) ∧ (m = L ∨ ∃ j, j < 6 ∧ rmS a S p j ≠ 0 ∧ m = rmS a S p j)) (N := 6) (fun k v hk hP => ?_) 6 0 (0, nI L) rfl ⟨rfl, L, rfl, Nat.le_refl _, fun j hj => absurd hj (by omega), .inl rfl⟩
  · exact H
  · obtain ⟨v1, m, v2, v3, v4, v5⟩ := hP
    have sm : nsum (pyS a S p) (k + 1) = nsum (pyS a S p) k + pyS a S p k := rfl
    have rb := rm_a (a := a) (S := S) (p := p) (k := k)
    have ak := ha k hk
    (try dsimp only)
    rw [room_c h hS hp hk, v1, v2]
    by_cases c : rmS a S p k = 0
    · have z : pyS a S p k = 0 := if_pos c
      rw [if_pos ((nI_le0 (by omega)).mpr c)]
      refine ⟨by rw [sm, z, Nat.add_zero], m, rfl, v3, fun j hj hn => ?_, v5⟩
      by_cases e : j = k
      · exact absurd (by rw [e]; exact c) hn
      · exact v4 j (by omega) hn
    · have z : pyS a S p k = 1 := if_neg c
      rw [if_neg (fun q => c ((nI_le0 (by omega)).mp q))]
      refine ⟨by show nI (nsum (pyS a S p) k) + 1 = _; rw [sm, z]; exact nI_plus _ 1, ?_⟩
      by_cases l : rmS a S p k < m
      · refine ⟨rmS a S p k, if_pos ((nlt (by omega) (by omega)).mpr l), by omega, fun j hj hn => ?_, .inr ⟨k, hk, c, rfl⟩⟩
        by_cases e : j = k
        · rw [e]
          exact Nat.le_refl _
        · have := v4 j (by omega) hn
          omega
      · refine ⟨m, if_neg (fun q => l ((nlt (by omega) (by omega)).mp q)), v3, fun j hj hn => ?_, v5⟩
        by_cases e : j = k
        · rw [e]
          omega
        · exact v4 j (by omega) hn
/-- all of the program's turns -/
theorem ro_sim (h : PY a p s) (hS : S < 64) (hp : ∀ j, j < 6 → p j ≤ a j) (ha : ∀ j, j < 6 → a j ≤ 300000) (hL2 : L ≤ 2000000) : ∃ n, fiS a S (itS a S n (p, L)) ∧ (∀ j, j < 6 → g_raiseOutside s (nI S) (nI L) 1133 j = nI ((itS a S n (p, L)).1 j)) ∧ ∀ q, q ≠ 1133 → g_raiseOutside s (nI S) (nI L) q = s q := by
  have H : ∃ n, (pcS a S (itS a S n (p, L)).1 = 0 ∨ (itS a S n (p, L)).2 < pcS a S (itS a S n (p, L)).1) ∧ (x_raiseOutside_5 s (nI S) (nI L) (s, nI L)).2 = nI (itS a S n (p, L)).2 ∧ (∀ j, j < 6 → (x_raiseOutside_5 s (nI S) (nI L) (s, nI L)).1 1133 j = nI ((itS a S n (p, L)).1 j)) ∧ ∀ q, q ≠ 1133 → (x_raiseOutside_5 s (nI S) (nI L) (s, nI L)).1 q = s q := by
    unfold x_raiseOutside_5
    refine xitB_fin (fun i (v : XS9 × Int32) => ∃ n, (pcS a S (itS a S n (p, L)).1 + i ≤ 6 ∨ (itS a S n (p, L)).2 < pcS a S (itS a S n (p, L)).1) ∧ v.2 = nI (itS a S n (p, L)).2 ∧ (∀ j, j < 6 → v.1 1133 j = nI ((itS a S n (p, L)).1 j)) ∧ ∀ q, q ≠ 1133 → v.1 q = s q) (fun v => ∃ n, (pcS a S (itS a S n (p, L)).1 = 0 ∨ (itS a S n (p, L)).2 < pcS a S (itS a S n (p, L)).1) ∧ v.2 = nI (itS a S n (p, L)).2 ∧ (∀ j, j < 6 → v.1 1133 j = nI ((itS a S n (p, L)).1 j)) ∧ ∀ q, q ≠ 1133 → v.1 q = s q) (N := 7) (fun i v hi hP => ?_) (fun v hP => ?_) 7 0 (s, nI L) rfl ⟨0, .inl pc_6, rfl, fun j hj => (h j hj).2, fun _ _ => rfl⟩
    · obtain ⟨n, v0, v1, v2, v3⟩ := hP
      have I : inS a S p L (itS a S n (p, L)) := inS.it n (inS.start hp)
      obtain ⟨v9, l9⟩ := v
      have v1 : l9 = nI (itS a S n (p, L)).2 := v1
      subst v1
      have an := itS_add (a := a) (S := S) (n := 0) n (p, L)
      have an : ∀ k, itS a S (n + k) (p, L) = itS a S k (itS a S n (p, L)) := fun k => itS_add n (p, L)
      generalize itS a S n (p, L) = u at v0 v2 I an
      obtain ⟨p1, L1⟩ := u
      have I1 : ∀ j, j < 6 → p1 j ≤ a j := I.2.1
      have hL1 : L1 ≤ L := by
        have a1 := I.2.2.2
        have a2 := nsum_mo (d := p) (d2 := p1) (N := 6) (fun j _ => I.1 j)
        have a1 : nsum p1 6 + L1 = nsum p 6 + L := a1
        omega
      have v3 : ∀ q, q ≠ 1133 → v9 q = s q := v3
      have v2 : ∀ j, j < 6 → v9 1133 j = nI (p1 j) := v2
      have P1 : PY a p1 v9 := fun j hj => ⟨by rw [v3 1131 (by decide)]; exact (h j hj).1, v2 j hj⟩
      obtain ⟨t1, m, t2, t3, t4, t5⟩ := turns_c (σ := s) (s := v9) (L := L1) (y := nI L) (l9 := nI L1) P1 hS I1 ha (by omega)
      have c6 := pc_6 (a := a) (S := S) (p := p1)
      (try dsimp only)
      rw [t1, t2]
      have v0 : pcS a S p1 + i ≤ 6 ∨ L1 < pcS a S p1 := v0
      by_cases c0 : pcS a S p1 = 0
      · rw [if_pos (show nI (pcS a S p1) = 0 by rw [c0]; rfl)]
        refine ⟨fun s' e => (by cases e), fun s' e => ?_⟩
        rw [← Sum.inr.inj e]
        refine ⟨n, ?_⟩
        rw [show itS a S n (p, L) = (p1, L1) from an 0]
        exact ⟨.inl c0, rfl, v2, v3⟩
      · rw [if_neg (show ¬ nI (pcS a S p1) = 0 from fun z => c0 (nI_j (a := pcS a S p1) (b := 0) (by omega) (by decide) z))]
        by_cases c1 : pcS a S p1 ≤ L1
        · rw [if_pos ((nle (by omega) (by omega)).mpr c1), nI_div (by omega) (by omega) (by omega)]
          refine ⟨fun s' e => ?_, fun s' e => (by cases e)⟩
          rw [← Sum.inl.inj e]
          have d1 : L1 / pcS a S p1 * pcS a S p1 ≤ L1 := Nat.div_mul_le_self _ _
          have d2 : 1 ≤ L1 / pcS a S p1 := (Nat.one_le_div_iff (by omega)).mpr c1
          have d3 : L1 / pcS a S p1 ≤ L1 := Nat.div_le_self _ _
          have d4 := Nat.div_add_mod L1 (pcS a S p1)
          have d5 := Nat.mod_lt L1 (show 0 < pcS a S p1 by omega)
          have tm : ∀ t9, (1 ≤ t9 ∧ t9 ≤ L1 / pcS a S p1 ∧ t9 ≤ m ∧ ((t9 = L1 / pcS a S p1 ∧ t9 < m) ∨ t9 = m)) → ∃ n, (pcS a S (itS a S n (p, L)).1 + (i + 1) ≤ 6 ∨ (itS a S n (p, L)).2 < pcS a S (itS a S n (p, L)).1) ∧ (nI L1 - f_raiseEach v9 (nI S) (nI t9) (nI L1)) = nI (itS a S n (p, L)).2 ∧ (∀ j, j < 6 → g_raiseEach v9 (nI S) (nI t9) (nI L1) 1133 j = nI ((itS a S n (p, L)).1 j)) ∧ ∀ q, q ≠ 1133 → g_raiseEach v9 (nI S) (nI t9) (nI L1) q = s q := fun t9 ⟨q1, q2, q3, q4⟩ => by
            have k1 : ∀ k, k < 6 → rmS a S p1 k ≠ 0 → t9 ≤ rmS a S p1 k := fun k hk hn => Nat.le_trans q3 (t4 k hk hn)
            have k2 : t9 * pcS a S p1 ≤ L1 := Nat.le_trans (Nat.mul_le_mul_right _ q2) d1
            obtain ⟨e1, e2, e3⟩ := each_t P1 hS I1 ha q1 k1 k2 (by omega) (by omega)
            have eb := bulk (L := L1) t9 k1 k2
            refine ⟨n + t9, ?_⟩
            rw [an t9, eb, e2, nI_minus k2]
            refine ⟨?_, rfl, e1, fun q hq => (e3 q hq).trans (v3 q hq)⟩
            show pcS a S (bmS a S t9 p1) + (i + 1) ≤ 6 ∨ L1 - t9 * pcS a S p1 < pcS a S (bmS a S t9 p1)
            have fill : (∃ j, j < 6 ∧ rmS a S p1 j ≠ 0 ∧ t9 = rmS a S p1 j) → pcS a S (bmS a S t9 p1) + 1 ≤ pcS a S p1 := fun ⟨j, j1, j2, j3⟩ => by
              have z : ∀ k, k < 6 → pyS a S (bmS a S t9 p1) k ≤ pyS a S p1 k := fun k hk => by
                by_cases c : rmS a S p1 k = 0
                · have e : bmS a S t9 p1 k = p1 k := if_neg (fun q => q.2 c)
                  have e2 : rmS a S (bmS a S t9 p1) k = 0 := by
                    rw [← c]
                    unfold rmS
                    rw [e]
                  rw [show pyS a S (bmS a S t9 p1) k = 0 from if_pos e2]
                  exact Nat.zero_le _
                · rw [show pyS a S p1 k = 1 from if_neg c]
                  unfold pyS
                  split <;> decide
              have zj : pyS a S (bmS a S t9 p1) j + 1 ≤ pyS a S p1 j := by
                rw [show pyS a S p1 j = 1 from if_neg j2]
                have e : bmS a S t9 p1 j = p1 j + t9 := if_pos ⟨j1, j2⟩
                have e2 : rmS a S (bmS a S t9 p1) j = 0 := by
                  unfold rmS at j2 j3 ⊢
                  rw [e]
                  split
                  · rfl
                  · rename_i w
                    rw [if_neg w] at j3
                    omega
                rw [show pyS a S (bmS a S t9 p1) j = 0 from if_pos e2]
                exact Nat.le_refl _
              have w : ∀ N, N ≤ 6 → nsum (pyS a S (bmS a S t9 p1)) N + (if j < N then 1 else 0) ≤ nsum (pyS a S p1) N := by
                intro N
                induction N with
                | zero => exact fun _ => Nat.le_refl _
                | succ N ih =>
                  intro hN
                  have ih := ih (by omega)
                  have zN := z N (by omega)
                  show nsum (pyS a S (bmS a S t9 p1)) N + pyS a S (bmS a S t9 p1) N + _ ≤ nsum (pyS a S p1) N + pyS a S p1 N
                  by_cases e : j = N
                  · rw [if_neg (by omega)] at ih
                    rw [if_pos (by omega)]
                    rw [e] at zj
                    omega
                  · by_cases e2 : j < N
                    · rw [if_pos e2] at ih
                      rw [if_pos (by omega)]
                      omega
                    · rw [if_neg e2] at ih
                      rw [if_neg (by omega)]
                      omega
              have := w 6 (Nat.le_refl _)
              rw [if_pos j1] at this
              exact this
            rcases q4 with ⟨q4, q5⟩ | q4
            · right
              rw [bm_pc (fun k hk hn => Nat.le_trans q5 (t4 k hk hn)), q4]
              rw [Nat.mul_comm] at d4
              omega
            · rcases t5 with t5 | ⟨j, j1, j2, j3⟩
              · have b1 : pcS a S (bmS a S t9 p1) ≤ pcS a S p1 := nsum_mo fun k hk => by
                  by_cases c : rmS a S p1 k = 0
                  · have e : bmS a S t9 p1 k = p1 k := if_neg (fun q => q.2 c)
                    have e2 : rmS a S (bmS a S t9 p1) k = 0 := by
                      rw [← c]
                      unfold rmS
                      rw [e]
                    rw [show pyS a S (bmS a S t9 p1) k = 0 from if_pos e2]
                    exact Nat.zero_le _
                  · rw [show pyS a S p1 k = 1 from if_neg c]
                    unfold pyS
                    split <;> decide
                have e1 : t9 = L1 := q4.trans t5
                have p1' : pcS a S p1 = 1 := by
                  rw [e1] at k2
                  by_cases c9 : 2 ≤ pcS a S p1
                  · have := Nat.mul_le_mul_left L1 c9
                    omega
                  · omega
                rw [p1'] at b1 ⊢
                rw [p1'] at v0 c1
                by_cases c9 : pcS a S (bmS a S t9 p1) = 0
                · left
                  omega
                · right
                  omega
              · have := fill ⟨j, j1, j2, q4.trans j3⟩
                left
                omega
          have mp : 1 ≤ m := by
            rcases t5 with t5 | ⟨j, j1, j2, j3⟩
            · omega
            · omega
          by_cases l : L1 / pcS a S p1 < m
          · rw [if_pos ((nlt (by omega) (by omega)).mpr l)]
            exact tm _ ⟨d2, Nat.le_refl _, by omega, .inl ⟨rfl, l⟩⟩
          · rw [if_neg (fun z => l ((nlt (by omega) (by omega)).mp z))]
            exact tm _ ⟨mp, by omega, Nat.le_refl _, .inr rfl⟩
        · rw [if_neg (fun z => c1 ((nle (by omega) (by omega)).mp z))]
          refine ⟨fun s' e => (by cases e), fun s' e => ?_⟩
          rw [← Sum.inr.inj e]
          refine ⟨n, ?_⟩
          rw [show itS a S n (p, L) = (p1, L1) from an 0]
          exact ⟨.inr (by show L1 < pcS a S p1; omega), rfl, v2, v3⟩
    · obtain ⟨n, v0, v1, v2, v3⟩ := hP
      exact ⟨n, .inr (v0.resolve_left (by omega)), v1, v2, v3⟩
  obtain ⟨n, h0, h1, h2, h3⟩ := H
  have I : inS a S p L (itS a S n (p, L)) := inS.it n (inS.start hp)
  have hL1 : (itS a S n (p, L)).2 ≤ L := by
    have a1 := I.2.2.2
    have a2 := nsum_mo (d := p) (d2 := (itS a S n (p, L)).1) (N := 6) (fun j _ => I.1 j)
    omega
  have E := each_1 (s := (x_raiseOutside_5 s (nI S) (nI L) (s, nI L)).1) (a := a) (p := (itS a S n (p, L)).1) (L := (itS a S n (p, L)).2) (fun j hj => ⟨by rw [h3 1131 (by decide)]; exact (h j hj).1, h2 j hj⟩) hS I.2.1 ha (by omega)
  have ea : itS a S (n + 1) (p, L) = psS a S (itS a S n (p, L)) := itS_add n (p, L)
  refine ⟨n + 1, ?_, fun j hj => ?_, fun q hq => ?_⟩
  · rw [ea]
    rcases h0 with z | z
    · have f : fiS a S (itS a S n (p, L)) := .inr fun k hk => pc_0 z hk
      rw [psS_fin f]
      exact f
    · exact .inl (psS_low (p := (itS a S n (p, L)).1) (L := (itS a S n (p, L)).2) z)
  · rw [ea]
    unfold g_raiseOutside
    rw [h1]
    exact E.1 j hj
  · unfold g_raiseOutside
    rw [h1]
    exact (E.2 q hq).trans (h3 q hq)
end
end
