/-! ===== the log is run anew on both sides ===== -/
theorem xitB_two {S T : Type} {f : Nat → S → S ⊕ S} {g : Nat → T → T ⊕ T} (P : Nat → S → T → Prop) (Q : S → T → Prop) {N : Nat} (hE : ∀ s t, P N s t → Q s t) (h : ∀ i s t, i < N → P i s t → (∃ s' t', f i s = .inl s' ∧ g i t = .inl t' ∧ P (i + 1) s' t') ∨ (∃ s' t', f i s = .inr s' ∧ g i t = .inr t' ∧ Q s' t')) : ∀ (k i : Nat) (s : S) (t : T), i + k = N → P i s t → Q (xitB f k i s) (xitB g k i t)
  | 0, i, s, t, e, hP => by
    obtain rfl : i = N := by omega
    exact hE s t hP
  | k + 1, i, s, t, e, hP => by
    rcases h i s t (by omega) hP with ⟨s', t', e1, e2, hP'⟩ | ⟨s', t', e1, e2, hQ⟩
    · rw [xitB_l e1, xitB_l e2]
      exact xitB_two P Q hE h k (i + 1) s' t' (by omega) hP'
    · rw [xitB_r e1, xitB_r e2]
      exact hQ
section
variable {τ σ s t s1 t1 : XS9} {b R B g w n i j r : Nat} {y x v : Int32}
theorem begin_b (hb : 2000 ≤ b) : (∀ r, r < 5 → g_begin s b (b + 1) r = s 1012 r) ∧ (∀ j, j < 6 → g_begin s b (b + 4) j = s 1015 j) ∧ (∀ j, j < 6 → g_begin s b (b + 2) j = 0 ∧ g_begin s b (b + 3) j = 0 ∧ g_begin s b (b + 6) j = 0) ∧ (∀ j, j < 6 → g_begin s b (b + 5) j = 2) ∧ g_begin s b b 12 = 0 ∧ g_begin s b b 9 = 0 := by
  unfold g_begin
  refine ⟨fun r hr => ?_, fun j hj => ?_, fun j hj => ⟨?_, ?_, ?_⟩, fun j hj => ?_, u2_at, ?_⟩
  · rw [u2_ne (by omega), u2_ne (by omega), fr_fill (by omega), fr_fill (by omega), fr_fill (by omega), fr_fill (by omega), uR_ne (by omega), uR_eq, cpy_lo hr]
  · rw [u2_ne (by omega), u2_ne (by omega), fr_fill (by omega), fr_fill (by omega), fr_fill (by omega), fr_fill (by omega), uR_eq, cpy_lo hj]
  · rw [u2_ne (by omega), u2_ne (by omega), fr_fill (by omega), fr_fill (by omega), fr_fill (by omega)]
    exact fillz hj
  · rw [u2_ne (by omega), u2_ne (by omega), fr_fill (by omega), fr_fill (by omega)]
    exact fillz hj
  · rw [u2_ne (by omega), u2_ne (by omega)]
    exact fillz hj
  · rw [u2_ne (by omega), u2_ne (by omega), fr_fill (by omega)]
    exact fillz hj
  · rw [u2_oi (by decide), u2_at]
theorem Kinit_pb {j : Nat} (hj : j < R) : g_Kinit σ b R B (b + 1) j = σ (5010 + j) 2 := by
  unfold g_Kinit x_Kinit_132
  refine (congrFun (xit_keep (fun s : XS9 => s (b + 1)) (fun i s => by
    (try dsimp only)
    rw [u2_ne (by omega), u2_ne (by omega)]) B 0 _) j).trans ?_
  unfold x_Kinit_95
  exact put_all R 0 _ (fun h => absurd h (by omega)) (by omega)
theorem Kinit_wb {j : Nat} : ∀ (f i : Nat) (s : XS9), (j < i → s (b + 3) j = σ (5020 + j) 1 ∧ s (b + 4) j = 2) → j < i + f → xit (fun i132 (s132 : XS9) => u2 (u2 s132 (b + 3) i132 (σ (5020 + i132) 1)) (b + 4) i132 2) f i s (b + 3) j = σ (5020 + j) 1 ∧ xit (fun i132 (s132 : XS9) => u2 (u2 s132 (b + 3) i132 (σ (5020 + i132) 1)) (b + 4) i132 2) f i s (b + 4) j = 2
  | 0, i, s, h1, h2 => h1 (by omega)
  | f + 1, i, s, h1, h2 => Kinit_wb f (i + 1) (u2 (u2 s (b + 3) i (σ (5020 + i) 1)) (b + 4) i 2) (fun h3 => by
      by_cases e : j = i
      · subst e
        rw [u2_ne (show b + 3 ≠ b + 4 by omega), u2_at, u2_at]
        exact ⟨rfl, rfl⟩
      · rw [u2_ne (show b + 3 ≠ b + 4 by omega), u2_oi e, u2_oi e, u2_ne (show b + 4 ≠ b + 3 by omega)]
        exact h1 (by omega)) (by omega)
theorem Kinit_eb {j : Nat} (hj : j < B) : g_Kinit σ b R B (b + 3) j = σ (5020 + j) 1 ∧ g_Kinit σ b R B (b + 4) j = 2 := by
  unfold g_Kinit x_Kinit_132
  exact Kinit_wb B 0 _ (fun h => absurd h (by omega)) (by omega)
theorem Kinit_ob {q : Nat} (h : q ≠ b + 1 ∧ q ≠ b + 3 ∧ q ≠ b + 4) : g_Kinit σ b R B q = g_clk0 σ b q := by
  unfold g_Kinit x_Kinit_132
  refine (xit_keep (fun s : XS9 => s q) (fun i s => by
    (try dsimp only)
    rw [u2_ne h.2.2, u2_ne h.2.1]) B 0 _).trans ?_
  unfold x_Kinit_95
  exact xit_keep (fun s : XS9 => s q) (fun i s => by
    (try dsimp only)
    rw [u2_ne h.1]) R 0 _
theorem clk0_zb {q i : Nat} (h : q = b + 2 ∨ q = b + 5 ∨ q = b + 500 ∨ q = b + 700) : g_clk0 σ b q i = 0 := by
  have e : g_clk0 σ b q = fun _ => 0 := by
    unfold g_clk0
    (try dsimp only)
    rw [if_neg (by omega), if_pos (by omega)]
  rw [e]
/-- both begin alike -/
theorem anew_start (a : RA τ σ) (z : RZ τ) (hR5 : mR τ ≤ 5) (hB6 : mB τ ≤ 6) : KQ 3000 8000 (mR τ) (mB τ) 0 0 0 (g_begin σ 3000) (g_Kinit (u2 τ 5000 0 0) 8000 (mR τ) (mB τ)) := by
  obtain ⟨b1, b2, b3, b4, b5, b6⟩ := begin_b (s := σ) (b := 3000) (by decide)
  have e7 : ∀ q, q ≠ 5000 → u2 τ 5000 0 0 q = τ q := fun q hq => u2_ne hq
  have zz : ∀ q j, (q = 8000 + 2 ∨ q = 8000 + 5 ∨ q = 8000 + 500 ∨ q = 8000 + 700) → g_Kinit (u2 τ 5000 0 0) 8000 (mR τ) (mB τ) q j = 0 := fun q j hq => by
    rw [Kinit_ob (by omega), clk0_zb hq]
  refine ⟨b6, fun r hr => ?_, fun r h1 h2 => ?_, fun j hj => ?_, fun j h1 h2 => (b3 j h2).1, fun j hj => ?_, fun j h1 h2 => (b3 j h2).2.1, fun j hj => ?_, fun j hj => ?_, fun j hj => ?_, fun j hj => ?_, fun k hk => absurd hk (by omega), fun k hk => absurd hk (by omega)⟩
  · rw [b1 r (by omega), Kinit_pb hr, e7 _ (by omega)]
    exact (a.2.1 r (by omega)).2.2.1
  · rw [b1 r h2]
    exact (a.2.1 r h2).2.2.1.trans (z r h1 h2).2.2
  · rw [(b3 j (by omega)).1, zz _ _ (by omega)]
    exact ⟨rfl, bd.zero⟩
  · rw [(b3 j (by omega)).2.1, show g_Kinit (u2 τ 5000 0 0) 8000 (mR τ) (mB τ) (8000 + 500 + 0) j = 0 from zz (8000 + 500) j (by omega)]
    exact ⟨rfl, bd.zero⟩
  · rw [b2 j (by omega), (Kinit_eb hj).1, e7 _ (by omega)]
    exact (a.2.2.1 j (by omega)).2.1
  · rw [b4 j (by omega), (Kinit_eb hj).2]
    exact ⟨rfl, rfl, by decide⟩
  · rw [(b3 j (by omega)).2.2, zz _ _ (by omega)]
  · rw [waived0 b5, show g_Kinit (u2 τ 5000 0 0) 8000 (mR τ) (mB τ) (8000 + 700 + 0) j = 0 from zz (8000 + 700) j (by omega)]
/-- a round's wishes and waivers are those of the log -/
theorem anew_kq (Q : KQ 3000 8000 R B g g n s t) (hg : g < 199) (hn : n < 60) (c1 : ∀ q, q ≠ 3003 → q ≠ 3000 → s1 q = s q) (c9 : s1 3000 9 = s 3000 9) (m1 : ∀ q, q ≠ 8000 + 500 + (g + 1) → q ≠ 8000 + 700 + (g + 1) → q ≠ 8000 → t1 q = t q) (hw : ∀ j, j < B → s1 3003 j = t1 (8000 + 500 + (g + 1)) j ∧ bd 7775 (t1 (8000 + 500 + (g + 1)) j)) (hz : ∀ j, B ≤ j → j < 6 → s1 3003 j = 0) (hm : ∀ j, j < B → (f_hasWaived s1 3000 j = 0 ↔ t1 (8000 + 700 + (g + 1)) j = 0)) : KQ 3000 8000 R B (g + 1) (g + 1) n s1 t1 := by
  refine ⟨c9.trans Q.c, fun r hr => ?_, fun r h1 h2 => ?_, fun j hj => ?_, fun j h1 h2 => ?_, fun j hj => hw j hj, hz, fun j hj => ?_, fun j hj => ?_, fun j hj => ?_, fun j hj => hm j hj, fun k hk => ?_, fun k hk => ?_⟩
  · rw [c1 _ (by omega) (by omega), m1 _ (by omega) (by omega) (by omega)]; exact Q.p r hr
  · rw [c1 _ (by omega) (by omega)]; exact Q.pz r h1 h2
  · rw [c1 _ (by omega) (by omega), m1 _ (by omega) (by omega) (by omega)]; exact Q.he j hj
  · rw [c1 _ (by omega) (by omega)]; exact Q.hz j h1 h2
  · rw [c1 _ (by omega) (by omega), m1 _ (by omega) (by omega) (by omega)]; exact Q.el j hj
  · rw [c1 _ (by omega) (by omega), m1 _ (by omega) (by omega) (by omega)]; exact Q.wv j hj
  · rw [c1 _ (by omega) (by omega), m1 _ (by omega) (by omega) (by omega)]; exact Q.co j hj
  · rw [c1 _ (by omega) (by omega), m1 _ (by omega) (by omega) (by omega)]; exact Q.lp k hk
  · rw [c1 _ (by omega) (by omega), m1 _ (by omega) (by omega) (by omega)]; exact Q.lh k hk
/-- what the log holds -/
def LGK (τ σ : XS9) : Prop := LQ τ σ ∧ (∀ k j, k < mK τ → j < 6 → bd 7775 (τ (6100 + k) j)) ∧ ∀ k, k < 60 → k < mK τ → ∀ j, mB τ ≤ j → j < 6 → σ (2201 + k) j = 0
def ANQ (τ σ : XS9) (p : XS9 × Int32) (t : XS9) : Prop := (∃ g n, KQ 3000 8000 (mR τ) (mB τ) g g n p.1 t) ∧ (∀ q, (q < 3000 ∨ 4000 ≤ q) → p.1 q = σ q) ∧ ∀ q, (q < 8000 ∨ 9000 ≤ q) → t q = u2 τ 5000 0 0 q
def ANP (τ σ : XS9) (i : Nat) (p : XS9 × Int32) (t : XS9) : Prop := KQ 3000 8000 (mR τ) (mB τ) (2 * i) (2 * i) i p.1 t ∧ p.2 = t 8000 9 ∧ (∀ q, (q < 3000 ∨ 4000 ≤ q) → p.1 q = σ q) ∧ ∀ q, (q < 8000 ∨ 9000 ≤ q) → t q = u2 τ 5000 0 0 q
theorem anew_round (T : TQ (mR τ) σ τ) (hR5 : mR τ ≤ 5) (hB6 : mB τ ≤ 6) (hi : i < 60) {p : XS9 × Int32} (P : ANP τ σ i p t) (c1 : ∀ q, q ≠ 3003 → q ≠ 3000 → s1 q = p.1 q) (c9 : s1 3000 9 = p.1 3000 9) (m1 : ∀ q, q ≠ 8000 + 500 + (2 * i + 1) → q ≠ 8000 + 700 + (2 * i + 1) → q ≠ 8000 → t1 q = t q) (hw : ∀ j, j < mB τ → s1 3003 j = t1 (8000 + 500 + (2 * i + 1)) j ∧ bd 7775 (t1 (8000 + 500 + (2 * i + 1)) j)) (hz : ∀ j, mB τ ≤ j → j < 6 → s1 3003 j = 0) (hm : ∀ j, j < mB τ → (f_hasWaived s1 3000 j = 0 ↔ t1 (8000 + 700 + (2 * i + 1)) j = 0)) : ANP τ σ (i + 1) (g_closeRound s1 3000 v (mB τ) (mR τ) i, f_closeRound s1 3000 v (mB τ) (mR τ) i) (g_Kclose t1 v 8000 (mR τ) (mB τ) (2 * i + 1) (2 * i + 1) i) := by
  obtain ⟨Q, e9, fs, ft⟩ := P
  have Q1 := anew_kq Q (by omega) hi c1 c9 m1 hw hz hm
  have T1 : TQ (mR τ) s1 t1 := by
    have a1 : ∀ q, q < 2000 → s1 q = σ q := fun q hq => (c1 q (by omega) (by omega)).trans (fs q (by omega))
    have a2 : ∀ q, q ≠ 5000 → q < 8000 → t1 q = τ q := fun q h1 h2 => (m1 q (by omega) (by omega) (by omega)).trans ((ft q (by omega)).trans (u2_ne h1))
    refine ⟨?_, fun r hr => ?_, fun r hr => ?_, fun r h1 h2 => ?_⟩
    · rw [a1 _ (by decide), m1 _ (by omega) (by omega) (by omega), ft _ (by decide), u2_oi (by decide)]
      exact T.rl
    · rw [a1 _ (by decide), a2 _ (by omega) (by omega)]
      exact T.rg r hr
    · rw [a1 _ (by decide), a2 _ (by omega) (by omega)]
      exact T.pt r hr
    · rw [a2 _ (by omega) (by omega)]
      exact T.ptz r h1 h2
  obtain ⟨K1, K2⟩ := close_sim (x := v) (by decide) (by decide) hR5 hB6 hi (by omega) (by omega) Q1 T1
  refine ⟨?_, K2, fun q hq => ?_, fun q hq => ?_⟩
  · rw [show 2 * (i + 1) = 2 * i + 1 + 1 by omega]
    exact K1
  · (try dsimp only)
    rw [fr_closeRound (by omega), c1 q (by omega) (by omega)]
    exact fs q hq
  · rw [fr_Kclose (by omega) (by omega) hi (by omega), m1 q (by omega) (by omega) (by omega)]
    exact ft q hq
theorem anew_two (T : TQ (mR τ) σ τ) (hR5 : mR τ ≤ 5) (hB6 : mB τ ≤ 6) (L : LGK τ σ) (hK : mK τ ≤ 60) (a : RA τ σ) (z : RZ τ) {xc xm : Int32} (hx : ∀ i, i < mK τ → (nI (i + 1) = xc ↔ nI i = xm - 1)) (hch : ∀ i, i < mK τ → nI (i + 1) = xc → j < mB τ ∧ r < 5 ∧ bd 5 y) : ANQ τ σ (x_runLog_11 σ 3000 2000 xc j r y (mB τ) (mR τ) (mK τ) (g_begin σ 3000, 0)) (g_MrunAnew (u2 τ 5000 0 0) xm j r y (mR τ) (mB τ) (mK τ)) := by
  obtain ⟨lq, lw, lz⟩ := L
  unfold x_runLog_11 g_MrunAnew x_MrunAnew_13
  refine xitB_two (ANP τ σ) (ANQ τ σ) (N := mK τ) (fun p t P => ⟨⟨_, _, P.1⟩, P.2.2.1, P.2.2.2⟩) (fun i p t hi P => ?_) (mK τ) 0 _ _ (Nat.zero_add _) ⟨anew_start a z hR5 hB6, ?_, fun q hq => fr_begin (by omega), fun q hq => fr_Kinit (by omega)⟩
  · have P0 := P
    obtain ⟨Q, e9, fs, ft⟩ := P0
    (try dsimp only)
    by_cases c : p.2 = 0
    · refine .inl ?_
      have ct : t 8000 9 = 0 := e9.symm.trans c
      have r1 : ∀ jj, jj < 6 → uR p.1 (3000 + 3) (va_cpy (p.1 (2000 + 201 + i)) (p.1 (3000 + 3)) 0 0 6) 3003 jj = σ (2201 + i) jj := fun jj hj => by
        have e : uR p.1 (3000 + 3) (va_cpy (p.1 (2000 + 201 + i)) (p.1 (3000 + 3)) 0 0 6) 3003 jj = va_cpy (p.1 (2000 + 201 + i)) (p.1 (3000 + 3)) 0 0 6 jj := congrFun (uR_eq _ _ _) jj
        rw [e, cpy_lo hj, show 2000 + 201 + i = 2201 + i by omega, fs _ (by omega)]
      have w1 : ∀ jj, jj < mB τ → σ (2201 + i) jj = t (6100 + i) jj ∧ bd 7775 (t (6100 + i) jj) := fun jj hj => by
        rw [ft _ (by omega), u2_ne (by omega)]
        exact ⟨lq.2.2.2.1 i hi jj hj, lw i jj hi (by omega)⟩
      have z1 : ∀ jj, mB τ ≤ jj → jj < 6 → σ (2201 + i) jj = 0 := fun jj h1 h2 => lz i (by omega) hi jj h1 h2
      have wm : ∀ jj, jj < mB τ → ((p.1 (2000 + 8) i &&& (1 <<< ((nI jj) &&& 31))) = 0 ↔ t (6300 + i) jj = 0) := fun jj hj => by
        rw [fs _ (by omega), ft _ (by omega), u2_ne (by omega)]
        exact lq.2.1 i hi jj hj
      have stp : p.1 (2000 + 7) i = u2 τ 5000 0 0 (5200 + i) 0 := by
        rw [fs _ (by omega), u2_ne (by omega)]
        exact lq.1 i hi
      have hww : ∀ (u : XS9) (jj : Nat), f_hasWaived (u2 u 3000 12 (p.1 (2000 + 8) i)) 3000 jj = 0 ↔ (p.1 (2000 + 8) i &&& (1 <<< ((nI jj) &&& 31))) = 0 := fun u jj => by
        unfold f_hasWaived
        rw [u2_at]
        by_cases q : (p.1 (2000 + 8) i &&& (1 <<< ((nI jj) &&& 31))) = 0
        · rw [if_pos q]
          exact ⟨fun _ => q, fun _ => rfl⟩
        · rw [if_neg q]
          exact ⟨fun w => absurd w (by decide), fun w => absurd w q⟩
      obtain ⟨A, eA⟩ : ∃ A, A = uR p.1 (3000 + 3) (va_cpy (p.1 (2000 + 201 + i)) (p.1 (3000 + 3)) 0 0 6) := ⟨_, rfl⟩
      obtain ⟨D, eD⟩ : ∃ D, D = uR t (8000 + 500 + (2 * i + 1)) (t (6100 + i)) := ⟨_, rfl⟩
      obtain ⟨E, eE⟩ : ∃ E, E = u2 (uR (u2 D 8000 23 (nI (2 * i + 1))) (8000 + 700 + (2 * i + 1)) ((u2 D 8000 23 (nI (2 * i + 1))) (6300 + i))) 8000 24 (nI (2 * i + 1)) := ⟨_, rfl⟩
      have A1 : ∀ jj, jj < 6 → A 3003 jj = σ (2201 + i) jj := fun jj hj => by
        rw [eA]
        exact r1 jj hj
      have A2 : ∀ q, q ≠ 3003 → A q = p.1 q := fun q hq => by
        rw [eA]
        exact uR_ne hq
      have D1 : D (8000 + 500 + (2 * i + 1)) = t (6100 + i) := by
        rw [eD]
        exact uR_eq _ _ _
      have E1 : E (8000 + 500 + (2 * i + 1)) = t (6100 + i) := by
        rw [eE, u2_ne (by omega), uR_ne (by omega), u2_ne (by omega)]
        exact D1
      have E2 : E (8000 + 700 + (2 * i + 1)) = t (6300 + i) := by
        rw [eE, u2_ne (by omega), uR_eq, u2_ne (by omega), eD, uR_ne (by omega)]
      have E3 : ∀ q, q ≠ 8000 + 500 + (2 * i + 1) → q ≠ 8000 + 700 + (2 * i + 1) → q ≠ 8000 → E q = t q := fun q h1 h2 h3 => by
        rw [eE, u2_ne h3, uR_ne h2, u2_ne h3, eD, uR_ne h1]
      have eT : ∀ v jj, u2 E (8000 + 500 + (2 * i + 1)) j v (8000 + 500 + (2 * i + 1)) jj = if jj = j then v else t (6100 + i) jj := fun v jj => by
        by_cases ej : jj = j
        · rw [if_pos ej, ej, u2_at]
        · rw [if_neg ej, u2_oi ej, E1]
      have eS : ∀ v c jj, jj < 6 → u2 (u2 A (3000 + 3) j v) 3000 12 c 3003 jj = if jj = j then v else σ (2201 + i) jj := fun v c jj h6 => by
        rw [u2_ne (show 3003 ≠ 3000 by decide)]
        show u2 A 3003 j v 3003 jj = _
        by_cases ej : jj = j
        · rw [if_pos ej, ej, u2_at]
        · rw [if_neg ej, u2_oi ej, A1 jj h6]
      rw [if_pos c, if_pos ct, stp, ← eA, ← eD, ← eE]
      by_cases cx : nI (i + 1) = xc
      · obtain ⟨h1, h2, h3⟩ := hch i hi cx
        have v1 : f_replaced (A (3000 + 3) j) r y = f_with (D (8000 + 500 + (2 * i + 1)) j) r y := by
          rw [D1, show A (3000 + 3) j = σ (2201 + i) j from A1 j (by omega), (w1 j h1).1]
          exact rep_with (w1 j h1).2 h2
        have v2 : bd 7775 (f_with (D (8000 + 500 + (2 * i + 1)) j) r y) := by
          rw [D1]
          exact (w1 j h1).2.withd h2 h3
        rw [if_pos cx, if_pos ((hx i hi).mp cx), v1]
        refine ⟨_, _, rfl, rfl, anew_round T hR5 hB6 (by omega) P (fun q q1 q2 => ?_) ?_ (fun q q1 q2 q3 => ?_) (fun jj hj => ?_) (fun jj j1 j2 => ?_) (fun jj hj => ?_)⟩
        · rw [u2_ne q2, u2_ne q1]
          exact A2 q q1
        · rw [u2_oi (by decide), u2_ne (by decide)]
          exact congrFun (A2 3000 (by decide)) 9
        · rw [u2_ne q1]
          exact E3 q q1 q2 q3
        · rw [eT, eS _ _ _ (by omega)]
          by_cases ej : jj = j
          · rw [if_pos ej, if_pos ej]
            exact ⟨rfl, v2⟩
          · rw [if_neg ej, if_neg ej]
            exact w1 jj hj
        · rw [eS _ _ _ j2, if_neg (by omega)]
          exact z1 jj j1 j2
        · rw [hww, wm jj hj, u2_ne (by omega), E2]
      · rw [if_neg cx, if_neg (fun q => cx ((hx i hi).mpr q))]
        refine ⟨_, _, rfl, rfl, anew_round T hR5 hB6 (by omega) P (fun q q1 q2 => ?_) ?_ (fun q q1 q2 q3 => ?_) (fun jj hj => ?_) (fun jj j1 j2 => ?_) (fun jj hj => ?_)⟩
        · rw [u2_ne q2]
          exact A2 q q1
        · rw [u2_oi (by decide)]
          exact congrFun (A2 3000 (by decide)) 9
        · exact E3 q q1 q2 q3
        · rw [u2_ne (show 3003 ≠ 3000 by decide), A1 jj (by omega), E1]
          exact w1 jj hj
        · rw [u2_ne (show 3003 ≠ 3000 by decide), A1 jj j2]
          exact z1 jj j1 j2
        · rw [hww, wm jj hj, E2]
    · refine .inr ⟨p, t, if_neg c, if_neg (fun q => c (e9.trans q)), ⟨_, _, Q⟩, fs, ft⟩
  · show (0 : Int32) = g_Kinit (u2 τ 5000 0 0) 8000 (mR τ) (mB τ) 8000 9
    rw [Kinit_ob (by decide)]
    unfold g_clk0
    rw [if_pos rfl]
    rfl
theorem LGK.mk (rc : RC τ σ) (js : JS τ) (oz : OZ σ) (eB : aB σ = mB τ) : LGK τ σ := ⟨rc.lg, fun k j hk hj => (js.2.2 k j hk hj).2, fun k h0 hk j h1 h2 => oz.2 k h0 (by rw [rc.eK]; exact hk) j (by rw [eB]; exact h1) h2⟩
theorem says_anew {x2 x3 : Int32} (rc : RC τ σ) (r : JR τ) (a : RA τ σ) (z9 : RZ τ) (jc : JC σ) (js : JS τ) (oz : OZ σ) (eB : aB σ = mB τ) : u2 (u2 τ 5000 0 0) 5000 0 (t_anew x x2 x3 v (mR τ) (mB τ) (mK τ)) 5000 0 = lw_k [eIOB, eIAE] (o_anew σ x x2 x3 v (mR τ) (mB τ) (mK τ)) ∧ ∀ w, o_anew σ x x2 x3 v (mR τ) (mB τ) (mK τ) = .inl w → w = f_Manew τ x x2 x3 v (mR τ) (mB τ) (mK τ) := by
  have R5 := r.hR.2
  have B6 := r.hB.2
  have K60 := r.hK.2
  rw [u2_at]
  unfold t_anew o_anew f_Manew
  by_cases c1 : n_rd x (mK τ)
  · by_cases c2 : n_lt x2 (mB τ)
    · by_cases c3 : n_lt x3 (mR τ)
      · by_cases c4 : n_bt v 0 5
        · have hv := bd.bt (m := 5) c4 (by decide) rfl (by decide)
          have hX := c1.2
          have hB := c2.2
          have hR := c3.2
          simp only [if_pos c1, if_pos c2, if_pos c3, if_pos c4]
          refine ⟨rfl, fun w e => ?_⟩
          rw [← Sum.inl.inj e]
          have A := anew_two (j := cn x2) (r := cn x3) (y := v) (xc := nI (rn x + 1)) (xm := nI (rn x + 1)) (told a z9 jc) R5 B6 (LGK.mk rc js oz eB) K60 a z9 (fun i hi => by
            rw [show nI (rn x + 1) - 1 = nI (rn x) from nI_minus (a := rn x + 1) (b := 1) (by omega)]
            exact ⟨fun q => congrArg nI (by have := nI_inj (by omega) (by omega) q; omega), fun q => congrArg nI (by have := nI_inj (by omega) (by omega) q; omega)⟩) (fun i hi _ => ⟨hB, by omega, hv⟩)
          obtain ⟨⟨g, n, Q⟩, fs, ft⟩ := A
          unfold f_allPrices x_allPrices_4 x_Manew_76 g_runLog
          rw [← hv.1]
          generalize x_runLog_11 σ 3000 2000 (nI (rn x + 1)) (cn x2) (cn x3) v (mB τ) (mR τ) (mK τ) (g_begin σ 3000, 0) = p at Q fs ⊢
          generalize g_MrunAnew (u2 τ 5000 0 0) (nI (rn x + 1)) (cn x2) (cn x3) v (mR τ) (mB τ) (mK τ) = t at Q ft ⊢
          refine Eq.trans (xsum_cut (t := fun i => p.1 (3000 + 1) i) (N := mR τ) (M := 5) (fun q h1 h2 => Q.pz q h1 h2) R5) ?_
          exact xsum_cg (t := fun i => p.1 (3000 + 1) i) (t2 := fun i => t (8000 + 1) i) fun q hq => Q.p q hq
        · simp only [if_pos c1, if_pos c2, if_pos c3, if_neg c4]
          exact ⟨rfl, fun w e => by cases e⟩
      · simp only [if_pos c1, if_pos c2, if_neg c3]
        exact ⟨rfl, fun w e => by cases e⟩
    · simp only [if_pos c1, if_neg c2]
      exact ⟨rfl, fun w e => by cases e⟩
  · simp only [if_neg c1]
    exact ⟨rfl, fun w e => by cases e⟩
end
