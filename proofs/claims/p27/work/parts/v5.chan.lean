/-! ===== the packing's channels ===== -/
section
variable {s0 t0 s t : XS9} {x y v : Int32} {i C u : Nat} {rg : Nat → Nat}
theorem chan_min (hC10 : C ≤ 10) {i : Nat} {s : XS9} (h : PJc x y C rg i 0 s) : (x_Mchannel_104 x y C rg i (s, 0)).1 = s ∧ (x_Mchannel_104 x y C rg i (s, 0)).2 < cn y ∧ ¬ f_MisFits s (nI (cn x)) i (x_Mchannel_104 x y C rg i (s, 0)).2 C rg 20000 (cn y) = 0 ∧ ∀ c', c' < (x_Mchannel_104 x y C rg i (s, 0)).2 → f_MisFits s (nI (cn x)) i c' C rg 20000 (cn y) = 0 := by
  unfold x_Mchannel_104
  refine xitB_fin (fun k t => t = (s, k) ∧ PJc x y C rg i k s) (fun t => t.1 = s ∧ t.2 < cn y ∧ ¬ f_MisFits s (nI (cn x)) i t.2 C rg 20000 (cn y) = 0 ∧ ∀ c', c' < t.2 → f_MisFits s (nI (cn x)) i c' C rg 20000 (cn y) = 0) (N := cn y) (fun k t hk ht => ?_) (fun t ht => (PJc.no hC10 ht.2).elim) (cn y) 0 (s, 0) (Nat.zero_add _) ⟨rfl, h⟩
  obtain ⟨rfl, hp⟩ := ht
  have e := fits_same (rg := rg) (x := nI (cn x)) hC10 hp.1 hk hp.2.2.1
  (try dsimp only)
  split
  · rename_i hf
    refine ⟨fun s' q => ?_, fun s' q => (by cases q)⟩
    rw [← Sum.inl.inj q, e]
    have := hp.next hC10 hk hf
    rw [e] at this
    exact ⟨rfl, this⟩
  · rename_i hf
    refine ⟨fun s' q => (by cases q), fun s' q => ?_⟩
    rw [← Sum.inr.inj q]
    exact ⟨e, hk, hf, hp.2.2.2.2⟩
theorem first_hit {S : Type} {stepC : Nat → S → S ⊕ (S × Int32)} {s : S} {u ch : Nat} (A : Nat → Prop) (V : Nat → Int32) (G : Nat → S)
    (hC : ∀ k, k ≤ u → k < ch → (¬ A k → stepC k s = .inl s) ∧ (A k → V k = 0 → stepC k s = .inl s) ∧ (A k → ¬ V k = 0 → stepC k s = .inr (G k, 1)))
    (hCe : ∀ k, k ≤ u → ch ≤ k → stepC k s = .inr (s, 0)) :
    ∀ n k, k + n = u → ¬ vXR (xitR stepC (n + 1) k s) = 0 → ∃ k', k ≤ k' ∧ k' ≤ u ∧ k' < ch ∧ A k' ∧ ¬ V k' = 0 ∧ (∀ c, k ≤ c → c < k' → ¬ A c ∨ V c = 0) ∧ xitR stepC (n + 1) k s = .inr (G k', 1) := by
  intro n
  induction n with
  | zero =>
    intro k e nz
    have un0 : ∀ {S R : Type} (step : Nat → S → S ⊕ R) (f i : Nat) (s : S), xitR step (f + 1) i s = (match step i s with | .inl s' => xitR step f (i + 1) s' | .inr r => .inr r) := fun _ _ _ _ => rfl
    have un := un0 stepC 0 k s
    rcases Nat.lt_or_ge k ch with l | l
    · obtain ⟨p, q, r⟩ := hC k (by omega) l
      by_cases a : A k
      · by_cases w : V k = 0
        · rw [un, q a w] at nz
          exact absurd rfl nz
        · refine ⟨k, Nat.le_refl k, by omega, l, a, w, fun c h1 h2 => absurd h1 (by omega), ?_⟩
          rw [un, r a w]
      · rw [un, p a] at nz
        exact absurd rfl nz
    · rw [un, hCe k (by omega) l] at nz
      exact absurd rfl nz
  | succ n ih =>
    intro k e nz
    have un0 : ∀ {S R : Type} (step : Nat → S → S ⊕ R) (f i : Nat) (s : S), xitR step (f + 1) i s = (match step i s with | .inl s' => xitR step f (i + 1) s' | .inr r => .inr r) := fun _ _ _ _ => rfl
    have un := un0 stepC (n + 1) k s
    rcases Nat.lt_or_ge k ch with l | l
    · obtain ⟨p, q, r⟩ := hC k (by omega) l
      have miss : stepC k s = .inl s → (¬ A k ∨ V k = 0) → ∃ k', k ≤ k' ∧ k' ≤ u ∧ k' < ch ∧ A k' ∧ ¬ V k' = 0 ∧ (∀ c, k ≤ c → c < k' → ¬ A c ∨ V c = 0) ∧ xitR stepC (n + 1 + 1) k s = .inr (G k', 1) := fun z z2 => by
        rw [un, z] at nz
        obtain ⟨k', a1, a2, a3, a4, a5, a6, a7⟩ := ih (k + 1) (by omega) nz
        refine ⟨k', by omega, a2, a3, a4, a5, fun c h1 h2 => ?_, ?_⟩
        · by_cases e2 : c = k
          · rw [e2]
            exact z2
          · exact a6 c (by omega) h2
        · rw [un, z]
          exact a7
      by_cases a : A k
      · by_cases w : V k = 0
        · exact miss (q a w) (.inr w)
        · refine ⟨k, Nat.le_refl k, by omega, l, a, w, fun c h1 h2 => absurd h1 (by omega), ?_⟩
          rw [un, r a w]
      · exact miss (p a) (.inl a)
    · rw [un, hCe k (by omega) l] at nz
      exact absurd rfl nz
theorem free_fe {qa ch : Nat} (hrg : ∀ j, j < C → rg j < 5) (hC10 : C ≤ 10) (hqa : 20000 ≤ qa) (hD : DISr s0 rg C s0) (hN : ∀ a b, a < C → b < C → (nearC s0 rg a b ↔ nearM t0 rg b a)) (hs : ∀ q, q ≠ 1153 → s q = s0 q) (ht : ∀ q, q ≠ qa → t q = t0 q) (h : STC qa ch i u s t) (l : i < C) {k : Nat} (hk : k < ch) : (s 1153 k) &&& (s 1152 i) = 0 ↔ ¬ f_MisFree t (t qa k) i rg = 0 := by
  obtain ⟨a, m, b, c2, d⟩ := h.2 k hk
  rw [free_eq hrg l hC10, b_dis, a, c2, hs 1152 (by decide)]
  refine ⟨fun H ⟨j, j1, j2, j3⟩ => ?_, fun H j j1 j2 => ?_⟩
  · have w := (hD i l j (by omega)).mpr ⟨by omega, by omega, (hN i j l (by omega)).mpr ?_⟩
    · rw [H j (by omega) j2] at w
      cases w
    · unfold nearM at j3 ⊢
      rw [← ht _ (by have := hrg j (by omega); omega)]
      exact j3
  · cases w : bt (s0 1152 i) j with
    | false => rfl
    | true =>
      exfalso
      obtain ⟨w1, w2, w3⟩ := (hD i l j j1).mp w
      have ji : j < i := by
        rcases Nat.lt_or_ge j i with z | z
        · exact z
        · rw [b_lo b z] at j2
          cases j2
      refine H ⟨j, ji, j2, ?_⟩
      have w4 := (hN i j l w1).mp w3
      unfold nearM at w4 ⊢
      rw [ht _ (by have := hrg j (by omega); omega)]
      exact w4
/-- both keep the same channels -/
theorem pack_fin (hrg : ∀ j, j < C → rg j < 5) (hC10 : C ≤ 10) (hch : cn y ≤ 6) (hD : DISr s0 rg C s0) (hN : ∀ a b, a < C → b < C → (nearC s0 rg a b ↔ nearM t0 rg b a)) : ∀ (f i : Nat), i + f = 10 → i ≤ C → ∀ (s t : XS9) (u : Nat), (∀ q, q ≠ 1153 → s q = s0 q) → (∀ q, q ≠ 20000 → t q = t0 q) → STC 20000 (cn y) i u s t → ¬ (fg_pack (cn y) (nI (cn x)) C f i).1 s u = 0 →
    (∀ c, c < cn y → ∀ j, j < i → bt ((fg_pack (cn y) (nI (cn x)) C f i).2 s u 1153 c) j = bt (s 1153 c) j) ∧ (∀ c, cn y ≤ c → (fg_pack (cn y) (nI (cn x)) C f i).2 s u 1153 c = s 1153 c) ∧ (∀ j, i ≤ j → bt (nI (cn x)) j = false → ∀ c, c < cn y → bt ((fg_pack (cn y) (nI (cn x)) C f i).2 s u 1153 c) j = false) ∧ ∀ v : Int32, i ≤ cn v → cn v < C → bt (nI (cn x)) (cn v) = true → ∃ k t', k < cn y ∧ xitR (s_Mchan x y v C rg) (cn v + 1 - i) i t = .inr (t', nI k) ∧ ∀ c, c < cn y → (bt ((fg_pack (cn y) (nI (cn x)) C f i).2 s u 1153 c) (cn v) = true ↔ c = k) := by
  intro f
  induction f with
  | zero =>
    intro i e hi s t u hs ht h nz
    obtain rfl : i = C := by omega
    refine ⟨fun c _ j _ => rfl, fun c _ => rfl, fun j hj _ c hc => ?_, fun v h1 h2 => absurd h1 (by omega)⟩
    obtain ⟨a, m, b, c2, d⟩ := h.2 c hc
    show bt (s 1153 c) j = false
    rw [a, c2]
    exact b_lo b hj
  | succ f ihf =>
    intro i e hi s t u hs ht h nz
    have S := sim (x := nI (cn x)) (qa := 20000) hrg hC10 hch (Nat.le_refl _) hD hN
    have S0 := (S (f + 1) i e hi s t u hs ht h).1
    have low : ∀ c, c < cn y → ∀ j, i ≤ j → bt (s 1153 c) j = false := fun c hc j hj => by
      obtain ⟨a, m, b, c2, d⟩ := h.2 c hc
      rw [a, c2]
      exact b_lo b hj
    have eF : (fg_pack (cn y) (nI (cn x)) C (f + 1) i).2 s u = g_packStep s (fg_pack (cn y) (nI (cn x)) C f (i + 1)).1 (fg_pack (cn y) (nI (cn x)) C f (i + 1)).2 i (cn y) u (nI (cn x)) C := rfl
    have eV : (fg_pack (cn y) (nI (cn x)) C (f + 1) i).1 s u = f_packStep s (fg_pack (cn y) (nI (cn x)) C f (i + 1)).1 (fg_pack (cn y) (nI (cn x)) C f (i + 1)).2 i (cn y) u (nI (cn x)) C := rfl
    rcases Nat.lt_or_ge i C with l | l
    · have n1 : ¬ nI C ≤ nI i := fun q => absurd ((nI_leI (a := C) (b := i) (by omega) (by omega)).mp q) (by omega)
      have ih := ihf (i + 1) (by omega) (by omega)
      have un0 : ∀ {S R : Type} (step : Nat → S → S ⊕ R) (f i : Nat) (s : S), xitR step (f + 1) i s = (match step i s with | .inl s' => xitR step f (i + 1) s' | .inr r => .inr r) := fun _ _ _ _ => rfl
      have un : ∀ (v : Int32) (n : Nat) (t : XS9), _ := fun v n t => un0 (s_Mchan x y v C rg) n i t
      cases hb : bt (nI (cn x)) i with
      | false =>
        have z0 := (b_tst2 (x := nI (cn x)) (j := i) (by omega)).mpr hb
        have g1 : (fg_pack (cn y) (nI (cn x)) C (f + 1) i).2 s u = (fg_pack (cn y) (nI (cn x)) C f (i + 1)).2 s u := by
          rw [eF]
          unfold g_packStep
          rw [if_neg n1, if_pos z0]
        have g2 : (fg_pack (cn y) (nI (cn x)) C (f + 1) i).1 s u = (fg_pack (cn y) (nI (cn x)) C f (i + 1)).1 s u := by
          rw [eV]
          unfold f_packStep
          rw [if_neg n1, if_pos z0]
        rw [g2] at nz
        rw [g1]
        obtain ⟨p1, p2, p3, p4⟩ := ih s t u hs ht (h.mono (Nat.le_succ i)) nz
        refine ⟨fun c hc j hj => p1 c hc j (by omega), p2, fun j hj hz c hc => ?_, fun v h1 h2 h3 => ?_⟩
        · by_cases ej : j = i
          · rw [ej, p1 c hc i (Nat.lt_succ_self i)]
            exact low c hc i (Nat.le_refl i)
          · exact p3 j (by omega) hz c hc
        · have ne : cn v ≠ i := fun q => by
            rw [q, hb] at h3
            cases h3
          obtain ⟨k, t', a1, a2, a3⟩ := p4 v (by omega) h2 h3
          refine ⟨k, t', a1, ?_, a3⟩
          rw [show cn v + 1 - i = (cn v + 1 - (i + 1)) + 1 by omega, un, show s_Mchan x y v C rg i t = .inl t from if_pos ((b_tst1 (by omega)).2.mpr hb)]
          exact a2
      | true =>
        have nb : ¬ (nI (cn x) &&& (1 <<< ((nI i) &&& 31))) = 0 := fun q => by rw [(b_tst2 (by omega)).mp q] at hb; cases hb
        have nb2 : ¬ ((nI (cn x) >>> ((nI i) &&& 31)) &&& 1) = 0 := fun q => by rw [(b_tst1 (by omega)).2.mp q] at hb; cases hb
        have ihk : ∀ k, k < cn y → k ≤ u → _ := fun k hk hku => S f (i + 1) (by omega) (by omega) (u2 s 1153 k ((s 1153 k) ||| (1 <<< ((nI i) &&& 31)))) (u2 t 20000 k ((t 20000 k) ||| (1 <<< ((nI i) &&& 31)))) (max u (k + 1)) (fun q hq => (u2_ne hq).trans (hs q hq)) (fun q hq => (u2_ne hq).trans (ht q hq)) (h.put (by omega) hk hku)
        have fV : (fg_pack (cn y) (nI (cn x)) C (f + 1) i).1 s u = vXR (x_packStep_43 s (fg_pack (cn y) (nI (cn x)) C f (i + 1)).1 (fg_pack (cn y) (nI (cn x)) C f (i + 1)).2 i (cn y) u (nI (cn x)) C s) := by
          rw [eV]
          unfold f_packStep
          rw [if_neg n1, if_neg nb]
          cases x_packStep_43 s (fg_pack (cn y) (nI (cn x)) C f (i + 1)).1 (fg_pack (cn y) (nI (cn x)) C f (i + 1)).2 i (cn y) u (nI (cn x)) C s <;> rfl
        have fG : (fg_pack (cn y) (nI (cn x)) C (f + 1) i).2 s u = mXR (x_packStep_43 s (fg_pack (cn y) (nI (cn x)) C f (i + 1)).1 (fg_pack (cn y) (nI (cn x)) C f (i + 1)).2 i (cn y) u (nI (cn x)) C s) := by
          rw [eF]
          unfold g_packStep
          rw [if_neg n1, if_neg nb]
          cases x_packStep_43 s (fg_pack (cn y) (nI (cn x)) C f (i + 1)).1 (fg_pack (cn y) (nI (cn x)) C f (i + 1)).2 i (cn y) u (nI (cn x)) C s <;> rfl
        have fe : ∀ k, k < cn y → ((s 1153 k) &&& (s 1152 i) = 0 ↔ ¬ f_MisFree t (t 20000 k) i rg = 0) := fun k hk => free_fe hrg hC10 (Nat.le_refl _) hD hN hs ht h l hk
        have nz2 := nz
        rw [fV] at nz2
        have FH := first_hit (S := XS9) (stepC := fun i43 s43 => (if (nI (cn y)) ≤ (nI i43) then .inr (s43, 0) else (if ((s43 1153 i43) &&& (s43 1152 i)) = 0 then (if ((fg_pack (cn y) (nI (cn x)) C f (i + 1)).1 (u2 s43 1153 i43 ((s43 1153 i43) ||| (1 <<< ((nI i) &&& 31)))) (max u (i43 + 1))) = 0 then .inl (u2 ((fg_pack (cn y) (nI (cn x)) C f (i + 1)).2 (u2 s43 1153 i43 ((s43 1153 i43) ||| (1 <<< ((nI i) &&& 31)))) (max u (i43 + 1))) 1153 i43 ((((fg_pack (cn y) (nI (cn x)) C f (i + 1)).2 (u2 s43 1153 i43 ((s43 1153 i43) ||| (1 <<< ((nI i) &&& 31)))) (max u (i43 + 1))) 1153 i43) - (1 <<< ((nI i) &&& 31)))) else .inr ((fg_pack (cn y) (nI (cn x)) C f (i + 1)).2 (u2 s43 1153 i43 ((s43 1153 i43) ||| (1 <<< ((nI i) &&& 31)))) (max u (i43 + 1)), 1)) else .inl s43))) (s := s) (u := u) (ch := cn y) (fun k => (s 1153 k) &&& (s 1152 i) = 0) (fun k => (fg_pack (cn y) (nI (cn x)) C f (i + 1)).1 (u2 s 1153 k ((s 1153 k) ||| (1 <<< ((nI i) &&& 31)))) (max u (k + 1))) (fun k => (fg_pack (cn y) (nI (cn x)) C f (i + 1)).2 (u2 s 1153 k ((s 1153 k) ||| (1 <<< ((nI i) &&& 31)))) (max u (k + 1))) ?_ ?_ u 0 (Nat.zero_add u) nz2
        · obtain ⟨k, _, ku, kc, kA, kV, kmin, ke⟩ := FH
          have kmin : ∀ c, c < k → ¬ (s 1153 c) &&& (s 1152 i) = 0 ∨ (fg_pack (cn y) (nI (cn x)) C f (i + 1)).1 (u2 s 1153 c ((s 1153 c) ||| (1 <<< ((nI i) &&& 31)))) (max u (c + 1)) = 0 := fun c hc => kmin c (Nat.zero_le c) hc
          have kV : ¬ (fg_pack (cn y) (nI (cn x)) C f (i + 1)).1 (u2 s 1153 k ((s 1153 k) ||| (1 <<< ((nI i) &&& 31)))) (max u (k + 1)) = 0 := kV
          have g1 : (fg_pack (cn y) (nI (cn x)) C (f + 1) i).2 s u = (fg_pack (cn y) (nI (cn x)) C f (i + 1)).2 (u2 s 1153 k ((s 1153 k) ||| (1 <<< ((nI i) &&& 31)))) (max u (k + 1)) := by
            rw [fG]
            unfold x_packStep_43
            rw [ke]
            rfl
          have hput := h.put (show i < 10 by omega) kc ku
          obtain ⟨p1, p2, p3, p4⟩ := ih (u2 s 1153 k ((s 1153 k) ||| (1 <<< ((nI i) &&& 31)))) (u2 t 20000 k ((t 20000 k) ||| (1 <<< ((nI i) &&& 31)))) (max u (k + 1)) (fun q hq => (u2_ne hq).trans (hs q hq)) (fun q hq => (u2_ne hq).trans (ht q hq)) hput kV
          -- the reference's channel
          have pj : PJc x y C rg i 0 t := ⟨l, nb2, h.cln, fun z => nz (S0.trans z), fun c' hc' => absurd hc' (by omega)⟩
          obtain ⟨m1, m2, m3, m4⟩ := chan_min hC10 pj
          obtain ⟨kM, ekM⟩ : ∃ kM, kM = (x_Mchannel_104 x y C rg i (t, 0)).2 := ⟨_, rfl⟩
          rw [← ekM] at m2 m3 m4
          have hM : x_Mchannel_104 x y C rg i (t, 0) = (t, kM) := Prod.ext m1 ekM.symm
          clear ekM m1
          have fits : ∀ c, c < cn y → c ≤ u → (¬ f_MisFits t (nI (cn x)) i c C rg 20000 (cn y) = 0 ↔ ((s 1153 c) &&& (s 1152 i) = 0 ∧ ¬ (fg_pack (cn y) (nI (cn x)) C f (i + 1)).1 (u2 s 1153 c ((s 1153 c) ||| (1 <<< ((nI i) &&& 31)))) (max u (c + 1)) = 0)) := fun c hc hcu => by
            rw [(ihk c hc hcu).1, fe c hc]
            unfold f_MisFits
            by_cases w : f_MisFree t (t 20000 c) i rg = 0
            · rw [if_pos w]
              exact ⟨fun z => absurd rfl z, fun z => absurd w z.1⟩
            · rw [if_neg w]
              exact ⟨fun z => ⟨w, z⟩, fun z => z.2⟩
          have ek : kM = k := by
            rcases Nat.lt_trichotomy kM k with z | z | z
            · have q := (fits kM m2 (by omega)).mp m3
              rcases kmin kM z with w | w
              · exact absurd q.1 w
              · exact absurd w q.2
            · exact z
            · exact absurd (m4 k z) ((fits k kc ku).mpr ⟨kA, kV⟩)
          have bits : ∀ c, c < cn y → (bt ((fg_pack (cn y) (nI (cn x)) C f (i + 1)).2 (u2 s 1153 k ((s 1153 k) ||| (1 <<< ((nI i) &&& 31)))) (max u (k + 1)) 1153 c) i = true ↔ c = k) := fun c hc => by
            rw [p1 c hc i (Nat.lt_succ_self i)]
            by_cases z : c = k
            · rw [z, u2_at, b_or, b_bit (by omega) (by omega), decide_eq_true rfl, Bool.or_true]
              exact ⟨fun _ => rfl, fun _ => rfl⟩
            · rw [u2_oi z, low c hc i (Nat.le_refl i)]
              exact ⟨fun w => (by cases w), fun w => absurd w z⟩
          rw [g1]
          refine ⟨fun c hc j hj => ?_, fun c hc => ?_, fun j hj hz c hc => ?_, fun v h1 h2 h3 => ?_⟩
          · rw [p1 c hc j (by omega)]
            by_cases z : c = k
            · rw [z, u2_at, b_or, b_bit (by omega) (by omega), decide_eq_false (by omega), Bool.or_false]
            · rw [u2_oi z]
          · rw [p2 c hc, u2_oi (by omega)]
          · by_cases ej : j = i
            · rw [ej, hb] at hz
              cases hz
            · exact p3 j (by omega) hz c hc
          · by_cases ev : cn v = i
            · have S1 : ∃ t', xitR (s_Mchan x y v C rg) (cn v + 1 - i) i t = .inr (t', nI k) := by
                have st : s_Mchan x y v C rg i t = .inr (u2 (u2 ((x_Mchannel_104 x y C rg i (t, 0)).1) 20000 ((x_Mchannel_104 x y C rg i (t, 0)).2) ((((x_Mchannel_104 x y C rg i (t, 0)).1) 20000 ((x_Mchannel_104 x y C rg i (t, 0)).2)) ||| (1 <<< ((nI i) &&& 31)))) 20000 20 0, nI ((x_Mchannel_104 x y C rg i (t, 0)).2)) := (if_neg nb2).trans (if_pos (by rw [ev]))
                rw [hM, ek] at st
                rw [show cn v + 1 - i = 0 + 1 by omega, un, st]
                exact ⟨_, rfl⟩
              obtain ⟨t', e1⟩ := S1
              refine ⟨k, t', kc, e1, fun c hc => ?_⟩
              rw [ev]
              exact bits c hc
            · obtain ⟨k3, t3, a1, a2, a3⟩ := p4 v (by omega) h2 h3
              refine ⟨k3, t3, a1, ?_, a3⟩
              have st : s_Mchan x y v C rg i t = .inl (u2 ((x_Mchannel_104 x y C rg i (t, 0)).1) 20000 ((x_Mchannel_104 x y C rg i (t, 0)).2) ((((x_Mchannel_104 x y C rg i (t, 0)).1) 20000 ((x_Mchannel_104 x y C rg i (t, 0)).2)) ||| (1 <<< ((nI i) &&& 31)))) := (if_neg nb2).trans (if_neg (fun z => ev (nI_inj (by omega) (by omega) z).symm))
              rw [hM, ek] at st
              rw [show cn v + 1 - i = (cn v + 1 - (i + 1)) + 1 by omega, un, st]
              exact a2
        · intro k hku hk
          have n2 : ¬ nI (cn y) ≤ nI k := fun q => absurd ((nI_leI (a := cn y) (b := k) (by omega) (by omega)).mp q) (by omega)
          obtain ⟨r1, r2⟩ := ihk k hk hku
          (try dsimp only)
          rw [if_neg n2]
          refine ⟨fun a => ?_, fun a w => ?_, fun a w => ?_⟩
          · rw [if_neg a]
          · rw [if_pos a, if_pos w, r2 w]
            congr 1
            refine u2_back ?_
            obtain ⟨a9, m, b, c2, d⟩ := h.2 k hk
            rw [u2_at, a9, c2, (bset (by omega) b).1, bsubm (by omega) b]
          · rw [if_pos a, if_neg w]
        · intro k hku hk
          (try dsimp only)
          rw [if_pos ((nI_leI (a := cn y) (b := k) (by omega) (by have := h.1; omega)).mpr hk)]
    · obtain rfl : i = C := by omega
      have g1 : (fg_pack (cn y) (nI (cn x)) i (f + 1) i).2 s u = s := by
        rw [eF]
        unfold g_packStep
        rw [if_pos (Int32.le_refl _)]
      rw [g1]
      exact ⟨fun c _ j _ => rfl, fun c _ => rfl, fun j hj _ c hc => low c hc j hj, fun v h1 h2 => absurd h1 (by omega)⟩
end
