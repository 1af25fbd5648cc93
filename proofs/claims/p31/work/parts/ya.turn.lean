/-! ===== turns of names, alike on both sides ===== -/
def bsT (F : Nat → Nat) (k m : Nat) : Nat × Nat := xit (fun t (s : Nat × Nat) => if F t < s.2 then (t, F t) else s) k 0 (0, m)
def tot (nb : Nat → Nat → Bool) (w : Nat → Nat → Nat) (sp T : Nat → Nat) (i : Nat) : Nat := nsum (fun o => nsum (clN nb w sp T o (T o)) o) i
section
variable {σ τ s v : XS9} {w : Nat → Nat → Nat} {nb : Nat → Nat → Bool} {sp sp2 T T2 : Nat → Nat} {R B r t : Nat} {F : Nat → Nat}
theorem bsT_s {k m : Nat} : bsT F (k + 1) m = if F k < (bsT F k m).2 then (k, F k) else bsT F k m := xit_last
theorem bsT_one {m m2 : Nat} (h : F 0 < m) (h2 : F 0 < m2) : ∀ k, bsT F (k + 1) m = bsT F (k + 1) m2
  | 0 => by
    rw [bsT_s, bsT_s]
    show (if F 0 < m then (0, F 0) else (0, m)) = (if F 0 < m2 then (0, F 0) else (0, m2))
    rw [if_pos h, if_pos h2]
  | k + 1 => by rw [bsT_s (k := k + 1), bsT_s (k := k + 1), bsT_one h h2 k]
theorem bsT_2 {k m : Nat} : (bsT F k m).2 ≤ m ∧ (bsT F k m).1 ≤ k := by
  induction k with
  | zero => exact ⟨Nat.le_refl _, Nat.le_refl _⟩
  | succ k ih =>
    rw [bsT_s]
    split
    · exact ⟨by show F k ≤ m; omega, by show k ≤ k + 1; omega⟩
    · exact ⟨ih.1, by omega⟩
theorem bsT_F {k m : Nat} (hm : F 0 < m) : (bsT F (k + 1) m).2 = F (bsT F (k + 1) m).1 := by
  induction k with
  | zero =>
    rw [bsT_s]
    show (if F 0 < m then (0, F 0) else (0, m)).2 = F (if F 0 < m then (0, F 0) else (0, m)).1
    rw [if_pos hm]
  | succ k ih =>
    rw [bsT_s]
    split
    · rfl
    · exact ih
theorem clN_le {o : Nat} : clN nb w sp T r t o ≤ 5 := by
  unfold clN
  split
  · exact cbn_le
  · exact Nat.zero_le _
theorem clN_cg {o : Nat} (h : T o = T2 o) : clN nb w sp T r t o = clN nb w sp T2 r t o := by
  unfold clN
  rw [h]
theorem tot_cg {i : Nat} (h : ∀ o, o < i → T o = T2 o) : tot nb w sp T i = tot nb w sp T2 i := nsum_cg fun o ho => by
  (try dsimp only)
  rw [h o ho]
  exact nsum_cg fun o2 ho2 => clN_cg (h o2 (by omega))
theorem tot_le {i : Nat} (hi : i ≤ 5) : tot nb w sp T i ≤ 125 := by
  have := nsum_le (d := fun o => nsum (clN nb w sp T o (T o)) o) (k := 25) (N := i) fun o ho => by
    have := nsum_le (d := clN nb w sp T o (T o)) (k := 5) (N := o) fun o2 _ => clN_le
    (try dsimp only)
    omega
  unfold tot
  omega
/-- the program's clashes of a region -/
theorem clO_c (hrow : ∀ b, b < 5 → s (1141 + r) b = hro (w r) (sp r) t b) (hrows : ∀ o, o < r → ∀ b, b < 5 → s (1141 + o) b = hro (w o) (sp o) (T o) b) (hnb : ∀ o, o < r → (f_areNeighbours s r o = 0 ↔ nb r o = false)) : f_clashesOf s r = nI (nsum (clN nb w sp T r t) r) := by
  unfold f_clashesOf x_clashesOf_5
  refine Eq.trans (xit_cg (N := r) (step' := fun i (x : Int32) => x + nI (clN nb w sp T r t i)) (fun i x hi => ?_) r 0 0 (Nat.zero_add _)) (xsum_n (t := fun i => nI (clN nb w sp T r t i)) (fun i _ => rfl))
  (try dsimp only)
  unfold clN
  cases hn : nb r i with
  | false =>
    rw [if_pos ((hnb i hi).mpr hn), if_neg (by decide)]
    exact (Int32.add_zero x).symm
  | true =>
    rw [if_neg (fun z => by rw [(hnb i hi).mp z] at hn; cases hn), if_pos rfl, clash_c, cbn_cg hrow (hrows i hi)]
/-- the reference's -/
theorem mcl_sp {tn r2 tn2 : Nat} (e1 : sp2 r = sp r) (e2 : sp2 r2 = sp r2) : f_Mclashes τ r tn r2 tn2 B sp2 = f_Mclashes τ r tn r2 tn2 B sp := by
  unfold f_Mclashes x_Mclashes_39
  rw [e1, e2]
def hdM (τ : XS9) (w : Nat → Nat → Nat) (B R : Nat) : Prop := ∀ r, r < R → ∀ j, j < 6 → w r j ≤ 5 ∧ (B ≤ j → w r j = 0) ∧ (j < B → τ 5005 j = -1 → w r j = 0) ∧ (j < B → τ 5005 j ≠ -1 → f_of (f_Bcode τ j (cn (τ 5005 j))) r = nI (w r j))
theorem hdM.of (h : hdM τ w B R) (e : ∀ q, (q = 5005 ∨ (5030 ≤ q ∧ q ≤ 5035)) → v q = τ q) : hdM v w B R := fun r hr j hj => by
  have := h r hr j hj
  unfold f_Bcode at this ⊢
  rw [e 5005 (by omega), e (5030 + j) (by omega)]
  exact this
theorem hdM.at (h : hdM τ w B R) (hr : r < R) (hB6 : B ≤ 6) {b : Nat} (hb : b < 1000) : f_Mholds τ r (nI b) t B = hvw (w r) t b 6 := holds_m hb (fun j hj => (h r hr j hj).1) (fun j hj => (h r hr j hj).2) (by omega)
theorem clO_m (h : hdM v w B R) (hB6 : B ≤ 6) (hr : r < R) (hR5 : R ≤ 5) (hsp : ∀ o, o < R → sp2 o = sp o ∧ sp o ≤ 5) (hnb : ∀ o, o < r → ((((σ (5010 + r) 3) >>> ((nI o) &&& 31)) &&& 1) = 1 ↔ nb r o = true)) : x_Mkeep_79 σ v r B sp2 t 0 = nI (nsum (clN nb w sp (fun o => cn (v 5007 o)) r t) r) := by
  unfold x_Mkeep_79
  refine Eq.trans (xit_cg (N := r) (step' := fun i (x : Int32) => x + nI (clN nb w sp (fun o => cn (v 5007 o)) r t i)) (fun i x hi => ?_) r 0 0 (Nat.zero_add _)) (xsum_n (t := fun i => nI (clN nb w sp (fun o => cn (v 5007 o)) r t i)) (fun i _ => rfl))
  (try dsimp only)
  unfold clN
  cases hn : nb r i with
  | false =>
    rw [if_neg (fun z => by rw [(hnb i hi).mp z] at hn; cases hn), if_neg (by decide)]
    rfl
  | true => rw [if_pos ((hnb i hi).mpr hn), if_pos rfl, mcl_sp (hsp r hr).1 (hsp i (by omega)).1, clash_m (u := w r) (u2 := w i) (fun b hb => h.at hr hB6 (by omega)) (fun b hb => h.at (by omega) hB6 (by omega)) (hsp r hr).2 (hsp i (by omega)).2]
theorem give25_c {i : Nat} (hi : i < 5) (hsp : sp i ≤ 5) (hw : ∀ j, j < 6 → cbw s j i = w i j) (hrows : ∀ o, o < i → ∀ b, b < 5 → s (1141 + o) b = hro (w o) (sp o) (T o) b) (hnb : ∀ o, o < i → (f_areNeighbours s i o = 0 ↔ nb i o = false)) (F20 : ∀ t, nsum (clN nb w sp T i t) i ≤ 20) : (x_give_25 σ R sp i (s, 0, 25)).2.1 = (bsT (fun t => nsum (clN nb w sp T i t) i) 6 25).1 ∧ (x_give_25 σ R sp i (s, 0, 25)).2.2 = nI (bsT (fun t => nsum (clN nb w sp T i t) i) 6 25).2 ∧ ∀ q, q ≠ 1141 + i → (x_give_25 σ R sp i (s, 0, 25)).1 q = s q := by
  obtain ⟨F, eF⟩ : ∃ F : Nat → Nat, F = fun t => nsum (clN nb w sp T i t) i := ⟨_, rfl⟩
  have eFk : ∀ k, nsum (clN nb w sp T i k) i = F k := fun k => by rw [eF]
  rw [← eF]
  unfold x_give_25
  refine xit_ind (fun k (u : XS9 × Nat × Int32) => u.2.1 = (bsT F k 25).1 ∧ u.2.2 = nI (bsT F k 25).2 ∧ ∀ q, q ≠ 1141 + i → u.1 q = s q) (N := 6) (fun k u hk hQ => ?_) 6 0 (s, 0, 25) rfl ⟨rfl, rfl, fun _ _ => rfl⟩
  obtain ⟨u1, u2', u3⟩ := hQ
  obtain ⟨g1, g2⟩ := give_c (σ := u.1) (w := w i) (t := k) (sp := sp) (r := i) hi (fun j hj => by
    rw [cbw_row (u3 1040 (by omega)) (u3 (1022 + j) (by omega))]
    exact hw j hj) hsp
  have ck : f_clashesOf (g_giveByTurn u.1 i k sp) i = nI (F k) := by
    rw [← eFk]
    refine clO_c (T := T) g1 (fun o ho b hb => ?_) (fun o ho => ?_)
    · rw [g2 (1141 + o) (by omega), u3 (1141 + o) (by omega)]
      exact hrows o ho b hb
    · rw [← hnb o ho]
      unfold f_areNeighbours
      rw [g2 1013 (by omega), u3 1013 (by omega)]
  have b9 := (bsT_2 (F := F) (k := k) (m := 25)).1
  have f9 := F20 k
  rw [eFk] at f9
  (try dsimp only)
  rw [ck, bsT_s, u2', u1]
  by_cases c : F k < (bsT F k 25).2
  · rw [if_neg (fun z => by have := (nle (by omega) (by omega)).mp z; omega), if_pos c]
    refine ⟨rfl, rfl, fun q hq => ?_⟩
    dsimp only
    rw [g2 q hq]
    exact u3 q hq
  · rw [if_pos ((nle (by omega) (by omega)).mpr (by omega)), if_neg c]
    refine ⟨rfl, rfl, fun q hq => ?_⟩
    dsimp only
    rw [g2 q hq]
    exact u3 q hq
theorem keep66_m {i : Nat} (h : hdM v w B R) (hB6 : B ≤ 6) (hi : i < R) (hR5 : R ≤ 5) (hsp : ∀ o, o < R → sp2 o = sp o ∧ sp o ≤ 5) (hnb : ∀ o, o < i → ((((τ (5010 + i) 3) >>> ((nI o) &&& 31)) &&& 1) = 1 ↔ nb i o = true)) (F20 : ∀ t, nsum (clN nb w sp (fun o => cn (v 5007 o)) i t) i ≤ 20) : (x_Mkeep_66 τ v i B sp2 (0, 999)).1 = (bsT (fun t => nsum (clN nb w sp (fun o => cn (v 5007 o)) i t) i) 6 999).1 := by
  obtain ⟨F, eF⟩ : ∃ F : Nat → Nat, F = fun t => nsum (clN nb w sp (fun o => cn (v 5007 o)) i t) i := ⟨_, rfl⟩
  have eFk : ∀ k, nsum (clN nb w sp (fun o => cn (v 5007 o)) i k) i = F k := fun k => by rw [eF]
  rw [← eF]
  have M := xit_ind (step := fun i66 (s66 : Nat × Int32) => (if (x_Mkeep_79 τ v i B sp2 i66 0) < s66.2 then (i66, (x_Mkeep_79 τ v i B sp2 i66 0)) else (s66.1, s66.2))) (fun k u => u.1 = (bsT F k 999).1 ∧ u.2 = nI (bsT F k 999).2) (N := 6) (fun k u hk hQ => ?_) 6 0 (0, 999) rfl ⟨rfl, rfl⟩
  · exact M.1
  · obtain ⟨u1, u2'⟩ := hQ
    have ck : x_Mkeep_79 τ v i B sp2 k 0 = nI (F k) := by
      rw [← eFk]
      exact clO_m (σ := τ) (v := v) (w := w) (nb := nb) (R := R) h hB6 hi hR5 hsp hnb
    have b9 := (bsT_2 (F := F) (k := k) (m := 999)).1
    have f9 := F20 k
    rw [eFk] at f9
    (try dsimp only)
    rw [ck, bsT_s, u2', u1]
    by_cases c : F k < (bsT F k 999).2
    · rw [if_pos ((nlt (by omega) (by omega)).mpr c), if_pos c]
      exact ⟨rfl, rfl⟩
    · rw [if_neg (fun z => c ((nlt (by omega) (by omega)).mp z)), if_neg c]
      exact ⟨rfl, rfl⟩
/-- both take the same turns -/
theorem give_sim (hR5 : R ≤ 5) (hB6 : B ≤ 6) (hw : ∀ r, r < R → ∀ j, j < 6 → cbw σ j r = w r j) (hM : hdM v w B R) (hsp : ∀ o, o < R → sp2 o = sp o ∧ sp o ≤ 5) (hc : ∀ r o, r < R → o < r → (f_areNeighbours σ r o = 0 ↔ nb r o = false)) (hm : ∀ r o, r < R → o < r → ((((τ (5010 + r) 3) >>> ((nI o) &&& 31)) &&& 1) = 1 ↔ nb r o = true)) : (∀ r, r < R → x_Mkeep_45 τ B R sp2 v 5007 r = nI (cn (x_Mkeep_45 τ B R sp2 v 5007 r)) ∧ cn (x_Mkeep_45 τ B R sp2 v 5007 r) < 6 ∧ ∀ b, b < 5 → g_give σ R sp (1141 + r) b = hro (w r) (sp r) (cn (x_Mkeep_45 τ B R sp2 v 5007 r)) b) ∧ g_give σ R sp 1005 1 = nI (tot nb w sp (fun o => cn (x_Mkeep_45 τ B R sp2 v 5007 o)) R) ∧ ∀ q, q ≠ 5007 → x_Mkeep_45 τ B R sp2 v q = v q := by
  have H := xit_two (f := fun i7 (s7 : XS9) => u2 (g_giveByTurn ((x_give_25 σ R sp i7 (s7, 0, 25)).1) i7 ((x_give_25 σ R sp i7 (s7, 0, 25)).2.1) sp) 1005 1 ((((x_give_25 σ R sp i7 (s7, 0, 25)).1) 1005 1) + ((x_give_25 σ R sp i7 (s7, 0, 25)).2.2))) (g := fun i45 (s45 : XS9) => u2 s45 5007 i45 (nI ((x_Mkeep_66 τ s45 i45 B sp2 (0, 999)).1))) (fun i s v' => (∀ r, r < i → v' 5007 r = nI (cn (v' 5007 r)) ∧ cn (v' 5007 r) < 6 ∧ ∀ b, b < 5 → s (1141 + r) b = hro (w r) (sp r) (cn (v' 5007 r)) b) ∧ s 1005 1 = nI (tot nb w sp (fun o => cn (v' 5007 o)) i) ∧ (∀ q, q ≠ 5007 → v' q = v q) ∧ ∀ q, q ≠ 1005 → (q < 1141 ∨ 1145 < q) → s q = σ q) (N := R) (fun i s v' hi hP => ?_) R 0 (u2 σ 1005 1 0) v (Nat.zero_add _) ⟨fun r hr => absurd hr (by omega), u2_at, fun _ _ => rfl, fun q hq _ => u2_ne hq⟩
  · exact ⟨H.1, H.2.1, H.2.2.1⟩
  · obtain ⟨h1, h2, h3, h4⟩ := hP
    obtain ⟨T, eT⟩ : ∃ T : Nat → Nat, T = fun o => cn (v' 5007 o) := ⟨_, rfl⟩
    obtain ⟨F, eF⟩ : ∃ F : Nat → Nat, F = fun t => nsum (clN nb w sp T i t) i := ⟨_, rfl⟩
    have F20 : ∀ t, F t ≤ 20 := fun t => by
      have := nsum_le (d := clN nb w sp T i t) (k := 5) (N := i) fun o2 _ => clN_le
      rw [eF]
      show nsum (clN nb w sp T i t) i ≤ 20
      omega
    have eFk : ∀ k, nsum (clN nb w sp T i k) i = F k := fun k => by rw [eF]
    have Q := give25_c (σ := σ) (R := R) (s := s) (w := w) (nb := nb) (sp := sp) (T := T) (i := i) (by omega) (hsp i hi).2 (fun j hj => by
      rw [cbw_row (h4 1040 (by decide) (by decide)) (h4 (1022 + j) (by omega) (by omega))]
      exact hw i hi j hj) (fun o ho b hb => by
      rw [eT]
      exact (h1 o ho).2.2 b hb) (fun o ho => by
      rw [← hc i o hi ho]
      unfold f_areNeighbours
      rw [h4 1013 (by decide) (by decide)]) (fun t => by rw [eFk]; exact F20 t)
    have M := keep66_m (τ := τ) (v := v') (w := w) (nb := nb) (sp := sp) (sp2 := sp2) (R := R) (B := B) (i := i) (hM.of fun q hq => h3 q (by omega)) hB6 hi hR5 hsp (fun o ho => hm i o hi ho) (fun t => by
      rw [← eT, eFk]
      exact F20 t)
    rw [← eT, ← eF] at M
    rw [← eF] at Q
    have eb : bsT F 6 25 = bsT F 6 999 := bsT_one (m := 25) (m2 := 999) (by have := F20 0; omega) (by have := F20 0; omega) 5
    have eF6 : (bsT F 6 25).2 = F (bsT F 6 25).1 := bsT_F (k := 5) (by have := F20 0; omega)
    have m6 : (bsT F 6 25).1 < 6 := by
      have q : ∀ k, (bsT F (k + 1) 25).1 ≤ k := by
        intro k
        induction k with
        | zero =>
          rw [bsT_s]
          show (if F 0 < 25 then (0, F 0) else (0, 25)).1 ≤ 0
          split <;> exact Nat.le_refl _
        | succ k ih =>
          rw [bsT_s]
          split
          · exact Nat.le_refl _
          · omega
      exact Nat.lt_succ_of_le (q 5)
    (try dsimp only)
    rw [M, ← eb, Q.1, Q.2.1, eF6]
    generalize (bsT F 6 25).1 = m at m6 ⊢
    obtain ⟨q1, q2, q3⟩ := Q
    generalize (x_give_25 σ R sp i (s, 0, 25)).1 = u at q3 ⊢
    have eu : cn (nI m) = m := cn_nI (by omega)
    obtain ⟨g1, g2⟩ := give_c (σ := u) (w := w i) (t := m) (sp := sp) (r := i) (by omega) (fun j hj => by
      rw [cbw_row ((q3 1040 (by omega)).trans (h4 1040 (by decide) (by decide))) ((q3 (1022 + j) (by omega)).trans (h4 (1022 + j) (by omega) (by omega)))]
      exact hw i hi j hj) (hsp i hi).2
    refine ⟨fun r hr => ?_, ?_, fun q hq => by rw [u2_ne hq]; exact h3 q hq, fun q hq1 hq2 => ?_⟩
    · by_cases e : r = i
      · rw [e, u2_at, eu]
        refine ⟨rfl, m6, fun b hb => ?_⟩
        rw [u2_ne (by omega)]
        exact g1 b hb
      · rw [u2_oi e, u2_ne (show 1141 + r ≠ 1005 by omega), g2 (1141 + r) (by omega), q3 (1141 + r) (by omega)]
        exact h1 r (by omega)
    · have c1 : tot nb w sp (fun o => cn (u2 v' 5007 i (nI m) 5007 o)) (i + 1) = tot nb w sp T i + F m := by
        have eFm : F m = nsum (clN nb w sp T i m) i := by rw [eF]
        have eT2 : ∀ o, o < i → cn (u2 v' 5007 i (nI m) 5007 o) = T o := fun o ho => by
          rw [u2_oi (by omega), eT]
        have cz : nsum (clN nb w sp (fun o => cn (u2 v' 5007 i (nI m) 5007 o)) i m) i = nsum (clN nb w sp T i m) i := nsum_cg fun o ho => clN_cg (eT2 o ho)
        have ct : tot nb w sp (fun o => cn (u2 v' 5007 i (nI m) 5007 o)) i = tot nb w sp T i := tot_cg eT2
        have cm : cn (u2 v' 5007 i (nI m) 5007 i) = m := by rw [u2_at, eu]
        show tot nb w sp (fun o => cn (u2 v' 5007 i (nI m) 5007 o)) i + nsum (clN nb w sp (fun o => cn (u2 v' 5007 i (nI m) 5007 o)) i (cn (u2 v' 5007 i (nI m) 5007 i))) i = _
        rw [cm, cz, ct, eFm]
      rw [u2_at, c1, q3 1005 (by omega), h2, ← eT]
      exact nI_plus _ _
    · rw [u2_ne hq1, g2 q (by omega), q3 q (by omega)]
      exact h4 q hq1 hq2
end
