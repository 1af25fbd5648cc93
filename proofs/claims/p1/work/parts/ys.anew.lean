section
/-! ===== the log is run anew on both sides ===== -/
theorem xitB_two {S T : Type} {f : Nat → S → S ⊕ S} {g : Nat → T → T ⊕ T} (P : Nat → S → T → Prop) (Q : S → T → Prop) {N : Nat} (hE : ∀ s t, P N s t → Q s t) (h : ∀ i s t, i < N → P i s t → (∃ s' t', f i s = .inl s' ∧ g i t = .inl t' ∧ P (i + 1) s' t') ∨ (∃ s' t', f i s = .inr s' ∧ g i t = .inr t' ∧ Q s' t')) : ∀ (k i : Nat) (s : S) (t : T), i + k = N → P i s t → Q (xitB f k i s) (xitB g k i t)
  | 0, i, s, t, e, hP => by
    obtain rfl : i = N := by omega
    exact hE s t hP
  | k + 1, i, s, t, e, hP => by
    rcases h i s t (by omega) hP with ⟨s', t', e1, e2, hP'⟩ | ⟨s', t', e1, e2, hQ⟩
    · rw [xitB_l e1, xitB_l e2]
      exact xitB_two P Q hE h k (i + 1) s' t' (by omega) hP'
    · rw [xitB_r e1, xitB_r e2]
      exact hQ
section
variable {τ σ s t s1 t1 : XS9} {b R B g w n i j r : Nat} {y x v : Int32}
theorem begin_b (hb : 2000 ≤ b) : (∀ r, r < 5 → g_begin s b (b + 1) r = s 1012 r) ∧ (∀ j, j < 6 → g_begin s b (b + 4) j = s 1015 j) ∧ (∀ j, j < 6 → g_begin s b (b + 2) j = 0 ∧ g_begin s b (b + 3) j = 0 ∧ g_begin s b (b + 6) j = 0) ∧ (∀ j, j < 6 → g_begin s b (b + 5) j = 2) ∧ g_begin s b b 12 = 0 ∧ g_begin s b b 9 = 0 := by
  unfold g_begin
  refine ⟨fun r hr => ?_, fun j hj => ?_, fun j hj => ⟨?_, ?_, ?_⟩, fun j hj => ?_, u2_at, ?_⟩
  · rw [u2_ne (by omega), u2_ne (by omega), fr_fill (by omega), fr_fill (by omega), fr_fill (by omega), fr_fill (by omega), uR_ne (by omega), uR_eq, cpy_lo hr]
  · rw [u2_ne (by omega), u2_ne (by omega), fr_fill (by omega), fr_fill (by omega), fr_fill (by omega), fr_fill (by omega), uR_eq, cpy_lo hj]
  · rw [u2_ne (by omega), u2_ne (by omega), fr_fill (by omega), fr_fill (by omega), fr_fill (by omega)]
    exact fillz hj
  · rw [u2_ne (by omega), u2_ne (by omega), fr_fill (by omega), fr_fill (by omega)]
    exact fillz hj
  · rw [u2_ne (by omega), u2_ne (by omega)]
    exact fillz hj
  · rw [u2_ne (by omega), u2_ne (by omega), fr_fill (by omega)]
    exact fillz hj
  · rw [u2_oi (by decide), u2_at]
theorem Kinit_pb {j : Nat} (hj : j < R) : g_Kinit σ b R B (b + 1) j = σ (5010 + j) 2 := by
  unfold g_Kinit x_Kinit_132
  refine (congrFun (xit_keep (fun s : XS9 => s (b + 1)) (fun i s => by
    (try dsimp only)
    rw [u2_ne (by omega), u2_ne (by omega)]) B 0 _) j).trans ?_
  unfold x_Kinit_95
  exact put_all R 0 _ (fun h => absurd h (by omega)) (by omega)
theorem Kinit_wb {j : Nat} : ∀ (f i : Nat) (s : XS9), (j < i → s (b + 3) j = σ (5020 + j) 1 ∧ s (b + 4) j = 2) → j < i + f → xit (fun i132 (s132 : XS9) => u2 (u2 s132 (b + 3) i132 (σ (5020 + i132) 1)) (b + 4) i132 2) f i s (b + 3) j = σ (5020 + j) 1 ∧ xit (fun i132 (s132 : XS9) => u2 (u2 s132 (b + 3) i132 (σ (5020 + i132) 1)) (b + 4) i132 2) f i s (b + 4) j = 2
  | 0, i, s, h1, h2 => h1 (by omega)
  | f + 1, i, s, h1, h2 => Kinit_wb f (i + 1) (u2 (u2 s (b + 3) i (σ (5020 + i) 1)) (b + 4) i 2) (fun h3 => by
      by_cases e : j = i
      · subst e
        rw [u2_ne (show b + 3 ≠ b + 4 by omega), u2_at, u2_at]
        exact ⟨rfl, rfl⟩
      · rw [u2_ne (show b + 3 ≠ b + 4 by omega), u2_oi e, u2_oi e, u2_ne (show b + 4 ≠ b + 3 by omega)]
        exact h1 (by omega)) (by omega)
theorem Kinit_eb {j : Nat} (hj : j < B) : g_Kinit σ b R B (b + 3) j = σ (5020 + j) 1 ∧ g_Kinit σ b R B (b + 4) j = 2 := by
  unfold g_Kinit x_Kinit_132
  exact Kinit_wb B 0 _ (fun h => absurd h (by omega)) (by omega)
theorem Kinit_ob {q : Nat} (h : q ≠ b + 1 ∧ q ≠ b + 3 ∧ q ≠ b + 4) : g_Kinit σ b R B q = g_clk0 σ b q := by
  unfold g_Kinit x_Kinit_132
  refine (xit_keep (fun s : XS9 => s q) (fun i s => by
    (try dsimp only)
    rw [u2_ne h.2.2, u2_ne h.2.1]) B 0 _).trans ?_
  unfold x_Kinit_95
  exact xit_keep (fun s : XS9 => s q) (fun i s => by
    (try dsimp only)
    rw [u2_ne h.1]) R 0 _
theorem clk0_zb {q i : Nat} (h : q = b + 2 ∨ q = b + 5 ∨ q = b + 500 ∨ q = b + 700) : g_clk0 σ b q i = 0 := by
  have e : g_clk0 σ b q = fun _ => 0 := by
    unfold g_clk0
    (try dsimp only)
    rw [if_neg (by omega), if_pos (by omega)]
  rw [e]
/-- both begin alike -/
theorem anew_start (a : RA τ σ) (z : RZ τ) (hR5 : mR τ ≤ 5) (hB6 : mB τ ≤ 6) : KQ 3000 8000 (mR τ) (mB τ) 0 0 0 (g_begin σ 3000) (g_Kinit (u2 τ 5000 0 0) 8000 (mR τ) (mB τ)) := by
  obtain ⟨b1, b2, b3, b4, b5, b6⟩ := begin_b (s := σ) (b := 3000) (by decide)
  have e7 : ∀ q, q ≠ 5000 → u2 τ 5000 0 0 q = τ q := fun q hq => u2_ne hq
  have zz : ∀ q j, (q = 8000 + 2 ∨ q = 8000 + 5 ∨ q = 8000 + 500 ∨ q = 8000 + 700) → g_Kinit (u2 τ 5000 0 0) 8000 (mR τ) (mB τ) q j = 0 := fun q j hq => by
    rw [Kinit_ob (by omega), clk0_zb hq]
  refine ⟨b6, fun r hr => ?_, fun r h1 h2 => ?_, fun j hj => ?_, fun j h1 h2 => (b3 j h2).1, fun j hj => ?_, fun j h1 h2 => (b3 j h2).2.1, fun j hj => ?_, fun j hj => ?_, fun j hj => ?_, fun j hj => ?_, fun k hk => absurd hk (by omega), fun k hk => absurd hk (by omega)⟩
  · rw [b1 r (by omega), Kinit_pb hr, e7 _ (by omega)]
    exact (a.2.1 r (by omega)).2.2.1
  · rw [b1 r h2]
    exact (a.2.1 r h2).2.2.1.trans (z r h1 h2).2.2
  · rw [(b3 j (by omega)).1, zz _ _ (by omega)]
    exact ⟨rfl, bd.zero⟩
  · rw [(b3 j (by omega)).2.1, show g_Kinit (u2 τ 5000 0 0) 8000 (mR τ) (mB τ) (8000 + 500 + 0) j = 0 from zz (8000 + 500) j (by omega)]
    exact ⟨rfl, bd.zero⟩
  · rw [b2 j (by omega), (Kinit_eb hj).1, e7 _ (by omega)]
    exact (a.2.2.1 j (by omega)).2.1
  · rw [b4 j (by omega), (Kinit_eb hj).2]
    exact ⟨rfl, rfl, by decide⟩
  · rw [(b3 j (by omega)).2.2, zz _ _ (by omega)]
  · rw [waived0 b5, show g_Kinit (u2 τ 5000 0 0) 8000 (mR τ) (mB τ) (8000 + 700 + 0) j = 0 from zz (8000 + 700) j (by omega)]
/-- a round's wishes and waivers are those of the log -/
theorem anew_kq (Q : KQ 3000 8000 R B g g n s t) (hg : g < 199) (hn : n < 60) (c1 : ∀ q, q ≠ 3003 → q ≠ 3000 → s1 q = s q) (c9 : s1 3000 9 = s 3000 9) (m1 : ∀ q, q ≠ 8000 + 500 + (g + 1) → q ≠ 8000 + 700 + (g + 1) → q ≠ 8000 → t1 q = t q) (hw : ∀ j, j < B → s1 3003 j = t1 (8000 + 500 + (g + 1)) j ∧ bd 7775 (t1 (8000 + 500 + (g + 1)) j)) (hz : ∀ j, B ≤ j → j < 6 → s1 3003 j = 0) (hm : ∀ j, j < B → (f_hasWaived s1 3000 j = 0 ↔ t1 (8000 + 700 + (g + 1)) j = 0)) : KQ 3000 8000 R B (g + 1) (g + 1) n s1 t1 := by
  refine ⟨c9.trans Q.c, fun r hr => ?_, fun r h1 h2 => ?_, fun j hj => ?_, fun j h1 h2 => ?_, fun j hj => hw j hj, hz, fun j hj => ?_, fun j hj => ?_, fun j hj => ?_, fun j hj => hm j hj, fun k hk => ?_, fun k hk => ?_⟩
  · rw [c1 _ (by omega) (by omega), m1 _ (by omega) (by omega) (by omega)]; exact Q.p r hr
  · rw [c1 _ (by omega) (by omega)]; exact Q.pz r h1 h2
  · rw [c1 _ (by omega) (by omega), m1 _ (by omega) (by omega) (by omega)]; exact Q.he j hj
  · rw [c1 _ (by omega) (by omega)]; exact Q.hz j h1 h2
  · rw [c1 _ (by omega) (by omega), m1 _ (by omega) (by omega) (by omega)]; exact Q.el j hj
  · rw [c1 _ (by omega) (by omega), m1 _ (by omega) (by omega) (by omega)]; exact Q.wv j hj
  · rw [c1 _ (by omega) (by omega), m1 _ (by omega) (by omega) (by omega)]; exact Q.co j hj
  · rw [c1 _ (by omega) (by omega), m1 _ (by omega) (by omega) (by omega)]; exact Q.lp k hk
  · rw [c1 _ (by omega) (by omega), m1 _ (by omega) (by omega) (by omega)]; exact Q.lh k hk
/-- what the log holds -/
def LGK (τ σ : XS9) : Prop := LQ τ σ ∧ (∀ k j, k < mK τ → j < 6 → bd 7775 (τ (6100 + k) j)) ∧ ∀ k, k < 60 → k < mK τ → ∀ j, mB τ ≤ j → j < 6 → σ (2201 + k) j = 0
def ANQ (τ σ : XS9) (p : XS9 × Int32) (t : XS9) : Prop := (∃ g n, KQ 3000 8000 (mR τ) (mB τ) g g n p.1 t) ∧ (∀ q, (q < 3000 ∨ 4000 ≤ q) → p.1 q = σ q) ∧ ∀ q, (q < 8000 ∨ 9000 ≤ q) → t q = u2 τ 5000 0 0 q
def ANP (τ σ : XS9) (i : Nat) (p : XS9 × Int32) (t : XS9) : Prop := KQ 3000 8000 (mR τ) (mB τ) (2 * i) (2 * i) i p.1 t ∧ p.2 = t 8000 9 ∧ (∀ q, (q < 3000 ∨ 4000 ≤ q) → p.1 q = σ q) ∧ ∀ q, (q < 8000 ∨ 9000 ≤ q) → t q = u2 τ 5000 0 0 q
theorem anew_round (T : TQ (mR τ) σ τ) (hR5 : mR τ ≤ 5) (hB6 : mB τ ≤ 6) (hi : i < 60) {p : XS9 × Int32} (P : ANP τ σ i p t) (c1 : ∀ q, q ≠ 3003 → q ≠ 3000 → s1 q = p.1 q) (c9 : s1 3000 9 = p.1 3000 9) (m1 : ∀ q, q ≠ 8000 + 500 + (2 * i + 1) → q ≠ 8000 + 700 + (2 * i + 1) → q ≠ 8000 → t1 q = t q) (hw : ∀ j, j < mB τ → s1 3003 j = t1 (8000 + 500 + (2 * i + 1)) j ∧ bd 7775 (t1 (8000 + 500 + (2 * i + 1)) j)) (hz : ∀ j, mB τ ≤ j → j < 6 → s1 3003 j = 0) (hm : ∀ j, j < mB τ → (f_hasWaived s1 3000 j = 0 ↔ t1 (8000 + 700 + (2 * i + 1)) j = 0)) : ANP τ σ (i + 1) (g_closeRound s1 3000 v (mB τ) (mR τ) i, f_closeRound s1 3000 v (mB τ) (mR τ) i) (g_Kclose t1 v 8000 (mR τ) (mB τ) (2 * i + 1) (2 * i + 1) i) := by
  obtain ⟨Q, e9, fs, ft⟩ := P
  have Q1 := anew_kq Q (by omega) hi c1 c9 m1 hw hz hm
  have T1 : TQ (mR τ) s1 t1 := by
    have a1 : ∀ q, q < 2000 → s1 q = σ q := fun q hq => (c1 q (by omega) (by omega)).trans (fs q (by omega))
    have a2 : ∀ q, q ≠ 5000 → q < 8000 → t1 q = τ q := fun q h1 h2 => (m1 q (by omega) (by omega) (by omega)).trans ((ft q (by omega)).trans (u2_ne h1))
    refine ⟨?_, fun r hr => ?_, fun r hr => ?_, fun r h1 h2 => ?_⟩
    · rw [a1 _ (by decide), m1 _ (by omega) (by omega) (by omega), ft _ (by decide), u2_oi (by decide)]
      exact T.rl
    · rw [a1 _ (by decide), a2 _ (by omega) (by omega)]
      exact T.rg r hr
    · rw [a1 _ (by decide), a2 _ (by omega) (by omega)]
      exact T.pt r hr
    · rw [a2 _ (by omega) (by omega)]
      exact T.ptz r h1 h2
  obtain ⟨K1, K2⟩ := close_sim (x := v) (by decide) (by decide) hR5 hB6 hi (by omega) (by omega) Q1 T1
  refine ⟨?_, K2, fun q hq => ?_, fun q hq => ?_⟩
  · rw [show 2 * (i + 1) = 2 * i + 1 + 1 by omega]
    exact K1
  · (try dsimp only)
    rw [fr_closeRound (by omega), c1 q (by omega) (by omega)]
    exact fs q hq
  · rw [fr_Kclose (by omega) (by omega) hi (by omega), m1 q (by omega) (by omega) (by omega)]
    exact ft q hq
theorem anew_two (T : TQ (mR τ) σ τ) (hR5 : mR τ ≤ 5) (hB6 : mB τ ≤ 6) (L : LGK τ σ) (hK : mK τ ≤ 60) (a : RA τ σ) (z : RZ τ) {xc xm : Int32} (hx : ∀ i, i < mK τ → (nI (i + 1) = xc ↔ nI i = xm - 1)) (hch : ∀ i, i < mK τ → nI (i + 1) = xc → j < mB τ ∧ r < 5 ∧ bd 5 y) : ANQ τ σ (x_runLog_11 σ 3000 2000 xc j r y (mB τ) (mR τ) (mK τ) (g_begin σ 3000, 0)) (g_MrunAnew (u2 τ 5000 0 0) xm j r y (mR τ) (mB τ) (mK τ)) := by
  obtain ⟨lq, lw, lz⟩ := L
  unfold x_runLog_11 g_MrunAnew x_MrunAnew_13
  refine xitB_two (ANP τ σ) (ANQ τ σ) (N := mK τ) (fun p t P => ⟨⟨_, _, P.1⟩, P.2.2.1, P.2.2.2⟩) (fun i p t hi P => ?_) (mK τ) 0 _ _ (Nat.zero_add _) ⟨anew_start a z hR5 hB6, ?_, fun q hq => fr_begin (by omega), fun q hq => fr_Kinit (by omega)⟩
  · have P0 := P
    obtain ⟨Q, e9, fs, ft⟩ := P0
    (try dsimp only)
    by_cases c : p.2 = 0
    · refine .inl ?_
      have ct : t 8000 9 = 0 := e9.symm.trans c
      have r1 : ∀ jj, jj < 6 → uR p.1 (3000 + 3) (va_cpy (p.1 (2000 + 201 + i)) (p.1 (3000 + 3)) 0 0 6) 3003 jj = σ (2201 + i) jj := fun jj hj => by
        have e : uR p.1 (3000 + 3) (va_cpy (p.1 (2000 + 201 + i)) (p.1 (3000 + 3)) 0 0 6) 3003 jj = va_cpy (p.1 (2000 + 201 + i)) (p.1 (3000 + 3)) 0 0 6 jj := congrFun (uR_eq _ _ _) jj
        rw [e, cpy_lo hj, show 2000 + 201 + i = 2201 + i by omega, fs _ (by omega)]
      have w1 : ∀ jj, jj < mB τ → σ (2201 + i) jj = t (6100 + i) jj ∧ bd 7775 (t (6100 + i) jj) := fun jj hj => by
        rw [ft _ (by omega), u2_ne (by omega)]
        exact ⟨lq.2.2.2.1 i hi jj hj, lw i jj hi (by omega)⟩
      have z1 : ∀ jj, mB τ ≤ jj → jj < 6 → σ (2201 + i) jj = 0 := fun jj h1 h2 => lz i (by omega) hi jj h1 h2
      have wm : ∀ jj, jj < mB τ → ((p.1 (2000 + 8) i &&& (1 <<< ((nI jj) &&& 31))) = 0 ↔ t (6300 + i) jj = 0) := fun jj hj => by
        rw [fs _ (by omega), ft _ (by omega), u2_ne (by omega)]
        exact lq.2.1 i hi jj hj
      have stp : p.1 (2000 + 7) i = u2 τ 5000 0 0 (5200 + i) 0 := by
        rw [fs _ (by omega), u2_ne (by omega)]
        exact lq.1 i hi
      have hww : ∀ (u : XS9) (jj : Nat), f_hasWaived (u2 u 3000 12 (p.1 (2000 + 8) i)) 3000 jj = 0 ↔ (p.1 (2000 + 8) i &&& (1 <<< ((nI jj) &&& 31))) = 0 := fun u jj => by
        unfold f_hasWaived
        rw [u2_at]
        by_cases q : (p.1 (2000 + 8) i &&& (1 <<< ((nI jj) &&& 31))) = 0
        · rw [if_pos q]
          exact ⟨fun _ => q, fun _ => rfl⟩
        · rw [if_neg q]
          exact ⟨fun w => absurd w (by decide), fun w => absurd w q⟩
      obtain ⟨A, eA⟩ : ∃ A, A = uR p.1 (3000 + 3) (va_cpy (p.1 (2000 + 201 + i)) (p.1 (3000 + 3)) 0 0 6) := ⟨_, rfl⟩
      obtain ⟨D, eD⟩ : ∃ D, D = uR t (8000 + 500 + (2 * i + 1)) (t (6100 + i)) := ⟨_, rfl⟩
      obtain ⟨E, eE⟩ : ∃ E, E = u2 (uR (u2 D 8000 23 (nI (2 * i + 1))) (8000 + 700 + (2 * i + 1)) ((u2 D 8000 23 (nI (2 * i + 1))) (6300 + i))) 8000 24 (nI (2 * i + 1)) := ⟨_, rfl⟩
      have A1 : ∀ jj, jj < 6 → A 3003 jj = σ (2201 + i) jj := fun jj hj => by
        rw [eA]
        exact r1 jj hj
      have A2 : ∀ q, q ≠ 3003 → A q = p.1 q := fun q hq => by
        rw [eA]
        exact uR_ne hq
      have D1 : D (8000 + 500 + (2 * i + 1)) = t (6100 + i) := by
        rw [eD]
        exact uR_eq _ _ _
      have E1 : E (8000 + 500 + (2 * i + 1)) = t (6100 + i) := by
        rw [eE, u2_ne (by omega), uR_ne (by omega), u2_ne (by omega)]
        exact D1
      have E2 : E (8000 + 700 + (2 * i + 1)) = t (6300 + i) := by
        rw [eE, u2_ne (by omega), uR_eq, u2_ne (by omega), eD, uR_ne (by omega)]
      have E3 : ∀ q, q ≠ 8000 + 500 + (2 * i + 1) → q ≠ 8000 + 700 + (2 * i + 1) → q ≠ 8000 → E q = t q := fun q h1 h2 h3 => by
        rw [eE, u2_ne h3, uR_ne h2, u2_ne h3, eD, uR_ne h1]
      have eT : ∀ v jj, u2 E (8000 + 500 + (2 * i + 1)) j v (8000 + 500 + (2 * i + 1)) jj = if jj = j then v else t (6100 + i) jj := fun v jj => by
        by_cases ej : jj = j
        · rw [if_pos ej, ej, u2_at]
        · rw [if_neg ej, u2_oi ej, E1]
      have eS : ∀ v c jj, jj < 6 → u2 (u2 A (3000 + 3) j v) 3000 12 c 3003 jj = if jj = j then v else σ (2201 + i) jj := fun v c jj h6 => by
        rw [u2_ne (show 3003 ≠ 3000 by decide)]
        show u2 A 3003 j v 3003 jj = _
        by_cases ej : jj = j
        · rw [if_pos ej, ej, u2_at]
        · rw [if_neg ej, u2_oi ej, A1 jj h6]
      rw [if_pos c, if_pos ct, stp, ← eA, ← eD, ← eE]
      by_cases cx : nI (i + 1) = xc
      · obtain ⟨h1, h2, h3⟩ := hch i hi cx
        have v1 : f_replaced (A (3000 + 3) j) r y = f_with (D (8000 + 500 + (2 * i + 1)) j) r y := by
          rw [D1, show A (3000 + 3) j = σ (2201 + i) j from A1 j (by omega), (w1 j h1).1]
          exact rep_with (w1 j h1).2 h2
        have v2 : bd 7775 (f_with (D (8000 + 500 + (2 * i + 1)) j) r y) := by
          rw [D1]
          exact (w1 j h1).2.withd h2 h3
        rw [if_pos cx, if_pos ((hx i hi).mp cx), v1]
        refine ⟨_, _, rfl, rfl, anew_round T hR5 hB6 (by omega) P (fun q q1 q2 => ?_) ?_ (fun q q1 q2 q3 => ?_) (fun jj hj => ?_) (fun jj j1 j2 => ?_) (fun jj hj => ?_)⟩
        · rw [u2_ne q2, u2_ne q1]
          exact A2 q q1
        · rw [u2_oi (by decide), u2_ne (by decide)]
          exact congrFun (A2 3000 (by decide)) 9
        · rw [u2_ne q1]
          exact E3 q q1 q2 q3
        · rw [eT, eS _ _ _ (by omega)]
          by_cases ej : jj = j
          · rw [if_pos ej, if_pos ej]
            exact ⟨rfl, v2⟩
          · rw [if_neg ej, if_neg ej]
            exact w1 jj hj
        · rw [eS _ _ _ j2, if_neg (by omega)]
          exact z1 jj j1 j2
        · rw [hww, wm jj hj, u2_ne (by omega), E2]
      · rw [if_neg cx, if_neg (fun q => cx ((hx i hi).mpr q))]
        refine ⟨_, _, rfl, rfl, anew_round T hR5 hB6 (by omega) P (fun q q1 q2 => ?_) ?_ (fun q q1 q2 q3 => ?_) (fun jj hj => ?_) (fun jj j1 j2 => ?_) (fun jj hj => ?_)⟩
        · rw [u2_ne q2]
          exact A2 q q1
        · rw [u2_oi (by decide)]
          exact congrFun (A2 3000 (by decide)) 9
        · exact E3 q q1 q2 q3
        · rw [u2_ne (show 3003 ≠ 3000 by decide), A1 jj (by omega), E1]
          exact w1 jj hj
        · rw [u2_ne (show 3003 ≠ 3000 by decide), A1 jj j2]
          exact z1 jj j1 j2
        · rw [hww, wm jj hj, E2]
    · refine .inr ⟨p, t, if_neg c, if_neg (fun q => c (e9.trans q)), ⟨_, _, Q⟩, fs, ft⟩
  · show (0 : Int32) = g_Kinit (u2 τ 5000 0 0) 8000 (mR τ) (mB τ) 8000 9
    rw [Kinit_ob (by decide)]
    unfold g_clk0
    rw [if_pos rfl]
    rfl
theorem LGK.mk (rc : RC τ σ) (js : JS τ) (oz : OZ σ) (eB : aB σ = mB τ) : LGK τ σ := ⟨rc.lg, fun k j hk hj => (js.2.2 k j hk hj).2, fun k h0 hk j h1 h2 => oz.2 k h0 (by rw [rc.eK]; exact hk) j (by rw [eB]; exact h1) h2⟩
theorem says_anew {x2 x3 : Int32} (rc : RC τ σ) (r : JR τ) (a : RA τ σ) (z9 : RZ τ) (jc : JC σ) (js : JS τ) (oz : OZ σ) (eB : aB σ = mB τ) : u2 (u2 τ 5000 0 0) 5000 0 (t_anew x x2 x3 v (mR τ) (mB τ) (mK τ)) 5000 0 = lw_k [eIOB, eIAE] (o_anew σ x x2 x3 v (mR τ) (mB τ) (mK τ)) ∧ ∀ w, o_anew σ x x2 x3 v (mR τ) (mB τ) (mK τ) = .inl w → w = f_Manew τ x x2 x3 v (mR τ) (mB τ) (mK τ) := by
  have R5 := r.hR.2
  have B6 := r.hB.2
  have K60 := r.hK.2
  rw [u2_at]
  unfold t_anew o_anew f_Manew
  by_cases c1 : n_rd x (mK τ)
  · by_cases c2 : n_lt x2 (mB τ)
    · by_cases c3 : n_lt x3 (mR τ)
      · by_cases c4 : n_bt v 0 5
        · have hv := bd.bt (m := 5) c4 (by decide) rfl (by decide)
          have hX := c1.2
          have hB := c2.2
          have hR := c3.2
          simp only [if_pos c1, if_pos c2, if_pos c3, if_pos c4]
          refine ⟨rfl, fun w e => ?_⟩
          rw [← Sum.inl.inj e]
          have A := anew_two (j := cn x2) (r := cn x3) (y := v) (xc := nI (rn x + 1)) (xm := nI (rn x + 1)) (told a z9 jc) R5 B6 (LGK.mk rc js oz eB) K60 a z9 (fun i hi => by
            rw [show nI (rn x + 1) - 1 = nI (rn x) from nI_minus (a := rn x + 1) (b := 1) (by omega)]
            exact ⟨fun q => congrArg nI (by have := nI_inj (by omega) (by omega) q; omega), fun q => congrArg nI (by have := nI_inj (by omega) (by omega) q; omega)⟩) (fun i hi _ => ⟨hB, by omega, hv⟩)
          obtain ⟨⟨g, n, Q⟩, fs, ft⟩ := A
          unfold f_allPrices x_allPrices_4 x_Manew_76 g_runLog
          rw [← hv.1]
          generalize x_runLog_11 σ 3000 2000 (nI (rn x + 1)) (cn x2) (cn x3) v (mB τ) (mR τ) (mK τ) (g_begin σ 3000, 0) = p at Q fs ⊢
          generalize g_MrunAnew (u2 τ 5000 0 0) (nI (rn x + 1)) (cn x2) (cn x3) v (mR τ) (mB τ) (mK τ) = t at Q ft ⊢
          refine Eq.trans (xsum_cut (t := fun i => p.1 (3000 + 1) i) (N := mR τ) (M := 5) (fun q h1 h2 => Q.pz q h1 h2) R5) ?_
          exact xsum_cg (t := fun i => p.1 (3000 + 1) i) (t2 := fun i => t (8000 + 1) i) fun q hq => Q.p q hq
        · simp only [if_pos c1, if_pos c2, if_pos c3, if_neg c4]
          exact ⟨rfl, fun w e => by cases e⟩
      · simp only [if_pos c1, if_pos c2, if_neg c3]
        exact ⟨rfl, fun w e => by cases e⟩
    · simp only [if_pos c1, if_neg c2]
      exact ⟨rfl, fun w e => by cases e⟩
  · simp only [if_neg c1]
    exact ⟨rfl, fun w e => by cases e⟩
end
end
section
/-! ===== what is held has no digits beyond the regions, from the opening on ===== -/
def HY (τ : XS9) : Prop := ¬ τ 5000 1 = 0 → ∀ j, j < mB τ → ∀ k, mR τ ≤ k → k < 5 → dgt (τ 7002 j) k = 0
section
variable {τ τ2 : XS9} {x y v u : Int32} {R B : Nat}
theorem HY.of (h : HY τ) (e1 : ¬ τ2 5000 1 = 0 → ¬ τ 5000 1 = 0) (eB : τ2 5002 900 = τ 5002 900) (eR : τ2 5001 900 = τ 5001 900) (e : τ2 7002 = τ 7002) : HY τ2 := fun s j hj k h1 h2 => by
  have eB2 : mB τ2 = mB τ := congrArg cn eB
  have eR2 : mR τ2 = mR τ := congrArg cn eR
  rw [eB2] at hj
  rw [eR2] at h1
  rw [e]
  exact h (e1 s) j hj k h1 h2
theorem HY.off (h : τ 5000 1 = 0) : HY τ := fun e => absurd h e
theorem HY.init : HY s0M := HY.off (by decide)
theorem HY.kept (h : HY τ) (m : MK τ τ2) : HY τ2 := by
  have M : ∀ q i, km q i → τ2 q i = τ q i := m
  refine h.of (fun e => ?_) (M _ _ (by unfold km; omega)) (M _ _ (by unfold km; omega)) (funext fun i => M _ _ (by unfold km; omega))
  rw [M _ _ (by unfold km; omega)] at e
  exact e
theorem HY.region (h : HY τ) (hR5 : R ≤ 5) : HY (g_Mregion τ x y v R) := by
  unfold g_Mregion
  (repeat' split) <;> first | exact h.kept MK.s00 | skip
  rename_i h0 _
  refine HY.off ?_
  rw [u2_ne (by decide), uR_ne (by omega), u2_oi (by decide), h0]
theorem HY.bidder (h : HY τ) (hB6 : B ≤ 6) : HY (g_Mbidder τ x y v u B) := by
  unfold g_Mbidder
  (repeat' split) <;> first | exact h.kept MK.s00 | skip
  rename_i h0 _
  refine HY.off ?_
  rw [u2_ne (by decide), u2_ne (by omega), uR_ne (by omega), u2_oi (by decide), h0]
theorem HY.step (h : HY τ) : HY (g_Mstep τ x) := by
  have go : HY (u2 (u2 τ 5000 0 0) 5000 4 x) := h.of (fun e => by rw [u2_oi (by decide), u2_oi (by decide)] at e; exact e) (by rw [u2_ne (by decide), u2_ne (by decide)]) (by rw [u2_ne (by decide), u2_ne (by decide)]) (by rw [u2_ne (by decide), u2_ne (by decide)])
  unfold g_Mstep
  (repeat' split) <;> first | exact h.kept MK.s00 | exact go
theorem HY.wish (h : HY τ) (hg2 : mg τ < 200) : HY (g_Mwish τ x y v R B (mg τ)) := by
  have go : ∀ (i : Nat) (w : Int32), HY (u2 (u2 τ 5000 0 0) (7000 + 500 + mg τ) i w) := fun i w => h.of (fun e => by rw [u2_ne (by omega), u2_oi (by decide)] at e; exact e) (by rw [u2_ne (by omega), u2_ne (by decide)]) (by rw [u2_ne (by omega), u2_ne (by decide)]) (by rw [u2_ne (by omega), u2_ne (by decide)])
  unfold g_Mwish
  (repeat' split) <;> first | exact h.kept MK.s00 | exact go _ _
theorem HY.waive (h : HY τ) (hw2 : mw τ < 200) : HY (g_Mwaive τ x B (mg τ) (mw τ)) := by
  have go : ∀ (i : Nat) (w w2 : Int32), HY (u2 (u2 (u2 τ 5000 0 0) (7000 + 4) i w) (7000 + 700 + mw τ) i w2) := fun i w w2 => h.of (fun e => by rw [u2_ne (by omega), u2_ne (by decide), u2_oi (by decide)] at e; exact e) (by rw [u2_ne (by omega), u2_ne (by decide), u2_ne (by decide)]) (by rw [u2_ne (by omega), u2_ne (by decide), u2_ne (by decide)]) (by rw [u2_ne (by omega), u2_ne (by decide), u2_ne (by decide)])
  unfold g_Mwaive
  (repeat' split) <;> first | exact h.kept MK.s00 | exact go _ _ _
theorem HY.opn (h : HY τ) : HY (g_Mopen τ R B) := by
  unfold g_Mopen
  (repeat' split) <;> first | exact h.kept MK.s00 | skip
  intro _ j hj k h1 h2
  rw [u2_ne (by decide), Kinit_o (by decide), clk0_z (by decide)]
  exact dgt_0
theorem HY.settle {pk gr : Nat → Nat} {cd : Nat → Nat → Nat} {sp : Nat → Nat} (h : HY τ) (hB6 : B ≤ 6) : HY (g_Msettle τ x R B pk gr cd sp) := by
  unfold g_Msettle
  by_cases c1 : n_bt x 0 2
  · by_cases c2 : τ 5000 1 = 2
    · rw [if_pos c1, if_pos c2]
      refine HY.kept ?_ (MK.keep hB6)
      refine h.of (fun _ e => absurd (c2.symm.trans e) (by decide)) ?_ ?_ ?_
      · rw [u2_ne (by decide), u2_ne (by decide), u2_ne (by decide)]
      · rw [u2_ne (by decide), u2_ne (by decide), u2_ne (by decide)]
      · rw [u2_ne (by decide), u2_ne (by decide), u2_ne (by decide)]
    · rw [if_pos c1, if_neg c2]
      exact h.kept MK.s00
  · rw [if_neg c1]
    exact h.kept MK.s00
theorem HY.clo (h : HY τ) (r : JR τ) (js : JS τ) (hs : τ 5000 1 = 1) : HY (g_clo τ) := by
  have hB6 := r.hB.2
  have hR5 := r.hR.2
  obtain ⟨kw, zo9, e1, e2, e3, g9⟩ := js.1 hs
  have cl : g_clo τ = g_McloseOne τ (mR τ) (mB τ) (mK τ) (mg τ) (mw τ) (mn τ) (mpk τ) := rfl
  rw [cl, e3]
  have fr : ∀ q, (q < 5003 ∨ (5003 < q ∧ q < 5200) ∨ (8000 ≤ q)) → g_clo1 τ (mR τ) (mB τ) (mn τ) (mg τ) (mw τ) (mn τ) q = τ q := fun q hq => fr_clo1 (by omega) (by omega) g9 g9 (by omega)
  have f7 : ∀ q, 7000 ≤ q → q < 8000 → g_clo1 τ (mR τ) (mB τ) (mn τ) (mg τ) (mw τ) (mn τ) q = g_Kclose τ (τ 5000 4) 7000 (mR τ) (mB τ) (mg τ) (mw τ) (mn τ) q := fun q h1 h2 => by
    unfold g_clo1
    exact fr_rnd (by omega)
  have hi := Kclose_hi (σ := τ) (x := τ 5000 4) (b' := 7000) (R := mR τ) (B := mB τ) (g := mg τ) (w := mw τ) (n := mn τ) (q := msp τ) kw hR5 hB6 (by omega) g9 (by omega) (fun q hq => r.hsp q hq)
  have n0 : ¬ τ 5000 1 = 0 := fun e => absurd (hs.symm.trans e) (by decide)
  have one : ∀ t : XS9, (∀ q, q ≠ 5000 → t q = g_clo1 τ (mR τ) (mB τ) (mn τ) (mg τ) (mw τ) (mn τ) q) → HY t := fun t et _ j hj k h1 h2 => by
    have eB : mB t = mB τ := by
      show cn (t 5002 900) = _
      rw [et _ (by decide), fr _ (by decide)]
    have eR : mR t = mR τ := by
      show cn (t 5001 900) = _
      rw [et _ (by decide), fr _ (by decide)]
    rw [eB] at hj
    rw [eR] at h1
    rw [et _ (by decide), f7 7002 (by decide) (by decide)]
    exact (hi j hj k h1 h2).trans (h n0 j hj k h1 h2)
  unfold g_McloseOne
  split
  · exact one _ fun _ _ => rfl
  · exact (one _ fun q hq => u2_ne hq).kept (MK.over hB6)
theorem HY.close (h : HY τ) (r : JR τ) (js : JS τ) (p : JP τ) : HY (g_Mclose τ x) := by
  unfold g_Mclose
  split
  · split
    · unfold x_Mclose_37
      have go := xitB_all (step := fun i37 (s37 : XS9) => (if (s37 5000 1) = 1 then .inl (g_clo s37) else .inr s37)) (fun s : XS9 => (JR s ∧ JS s ∧ JP s) ∧ HY s) (N := cn x) (fun i s s' hi hP => by
        (try dsimp only)
        split
        · rename_i hs
          intro e
          rcases e with e | e
          · rw [← Sum.inl.inj e]
            exact ⟨(clo_all hP.1.1 hP.1.2.1 hP.1.2.2 hs).1, hP.2.clo hP.1.1 hP.1.2.1 hs⟩
          · cases e
        · intro e
          rcases e with e | e
          · cases e
          · rw [← Sum.inr.inj e]
            exact hP) (cn x) 0 (u2 τ 5000 0 0) (Nat.zero_add _) ⟨⟨r.s0, js.s0 r, p.s0⟩, h.kept MK.s0⟩
      exact go.2
    · exact h.kept MK.s00
  · exact h.kept MK.s00
end
end
section
/-! ===== is it sound: both sides ask the same ===== -/
def yn (P : Prop) (v : Int32) : Prop := (P → v = 1) ∧ (¬ P → v = 0)
theorem yn.iff {P Q : Prop} {v : Int32} (h : yn P v) (e : P ↔ Q) : yn Q v := ⟨fun q => h.1 (e.mpr q), fun q => h.2 fun p => q (e.mp p)⟩
theorem yn.eq {P Q : Prop} {v w : Int32} (h : yn P v) (k : yn Q w) (e : P ↔ Q) : v = w := by
  by_cases p : P
  · rw [h.1 p, k.1 (e.mp p)]
  · rw [h.2 p, k.2 fun q => p (e.mpr q)]
theorem yn.if3 {P Q S : Prop} {u v w : Int32} (h : yn P u) (k : yn Q v) (m : yn S w) : yn (P ∧ Q ∧ S) (if u = 0 then 0 else if v = 0 then 0 else if w = 0 then 0 else 1) := by
  have d : ¬ (1 : Int32) = 0 := by decide
  by_cases p : P
  · rw [h.1 p, if_neg d]
    by_cases q : Q
    · rw [k.1 q, if_neg d]
      by_cases s : S
      · rw [m.1 s, if_neg d]
        exact ⟨fun _ => rfl, fun n => absurd ⟨p, q, s⟩ n⟩
      · rw [m.2 s, if_pos rfl]
        exact ⟨fun n => absurd n.2.2 s, fun _ => rfl⟩
    · rw [k.2 q, if_pos rfl]
      exact ⟨fun n => absurd n.2.1 q, fun _ => rfl⟩
  · rw [h.2 p, if_pos rfl]
    exact ⟨fun n => absurd n.1 p, fun _ => rfl⟩
theorem xitU_c {step : Nat → Unit → Unit ⊕ Int32} {c : Nat → Prop} (n : Nat) (h1 : ∀ q, q < n → c q → step q () = .inl ()) (h0 : ∀ q, q < n → ¬ c q → step q () = .inr 0) : ((∀ q, q < n → c q) → xitR step n 0 () = .inl ()) ∧ (¬ (∀ q, q < n → c q) → xitR step n 0 () = .inr 0) := by
  refine ⟨fun h => xitU_l n 0 fun q _ h2 => h1 q (by omega) (h q (by omega)), fun h => xitU_r n 0 (fun q _ h2 => ?_) ?_⟩
  · by_cases cq : c q
    · exact .inl (h1 q (by omega) cq)
    · exact .inr (h0 q (by omega) cq)
  · obtain ⟨q, hq⟩ := Classical.not_forall.mp h
    obtain ⟨h3, h4⟩ := Classical.not_imp.mp hq
    exact ⟨q, Nat.zero_le _, by omega, h0 q h3 h4⟩
/-- what comes behind a loop that ended well -/
def aft (a : Unit ⊕ Int32) (k : Int32) : Int32 := match a with
  | .inl _ => k
  | .inr r => r
/-- what comes behind a loop that ended well, for loops that go on -/
def aftU (a : Unit ⊕ Int32) (k : Unit ⊕ Int32) : Unit ⊕ Int32 := match a with
  | .inl _ => k
  | .inr r => .inr r
/-- a loop that ends well or with 0, in a match -/
theorem mat2 {P Q : Prop} {a b : Unit ⊕ Int32} (ha : (P → a = .inl ()) ∧ (¬ P → a = .inr 0)) (hb : (Q → b = .inl ()) ∧ (¬ Q → b = .inr 0)) : yn (P ∧ Q) (aft a (aft b 1)) := by
  by_cases p : P
  · rw [ha.1 p, show ∀ k, aft (.inl ()) k = k from fun _ => rfl]
    by_cases q : Q
    · rw [hb.1 q]
      exact ⟨fun _ => rfl, fun n => absurd ⟨p, q⟩ n⟩
    · rw [hb.2 q]
      exact ⟨fun n => absurd n.2 q, fun _ => rfl⟩
  · rw [ha.2 p]
    exact ⟨fun n => absurd n.1 p, fun _ => rfl⟩
section
variable {τ σ s t : XS9} {R B C K w g : Nat} {pk tn sp : Nat → Nat}
/-! the program's side -/
theorem rep_yn : yn ((∀ r, r < R → s (3000 + 1) r = s (2000 + 1) r) ∧ ∀ j, j < B → s (3000 + 2) j = s (2000 + 2) j) (f_isReplaySame s R B) := by
  have a := xitU_c (step := fun i2 (s2 : Unit) => (if (s (3000 + 1) i2) = (s (2000 + 1) i2) then (.inl () : Unit ⊕ Int32) else .inr 0)) (c := fun r => s (3000 + 1) r = s (2000 + 1) r) R (fun q _ hc => if_pos hc) (fun q _ hc => if_neg hc)
  have b := xitU_c (step := fun i2 (s2 : Unit) => (if (s (3000 + 2) i2) = (s (2000 + 2) i2) then (.inl () : Unit ⊕ Int32) else .inr 0)) (c := fun r => s (3000 + 2) r = s (2000 + 2) r) B (fun q _ hc => if_pos hc) (fun q _ hc => if_neg hc)
  exact mat2 a b
theorem clk_yn : yn ((∀ r, r < R → s 1012 r ≤ s (2000 + 1) r) ∧ ∀ j, j < B → (¬ s (2000 + 4) j < 0 ∧ ¬ f_isWithin (s (2000 + 2) j) 5 (s 1010) = 0)) (f_isClockSound s R B) := by
  have a := xitU_c (step := fun i2 (s2 : Unit) => (if (s 1012 i2) ≤ (s (2000 + 1) i2) then (.inl () : Unit ⊕ Int32) else .inr 0)) (c := fun r => s 1012 r ≤ s (2000 + 1) r) R (fun q _ hc => if_pos hc) (fun q _ hc => if_neg hc)
  have b := xitU_c (step := fun i44 (s44 : Unit) => (if (s (2000 + 4) i44) < 0 then (.inr 0 : Unit ⊕ Int32) else (if (f_isWithin (s (2000 + 2) i44) 5 (s 1010)) = 0 then .inr 0 else .inl ()))) (c := fun j => ¬ s (2000 + 4) j < 0 ∧ ¬ f_isWithin (s (2000 + 2) j) 5 (s 1010) = 0) B (fun q _ hc => (if_neg hc.1).trans (if_neg hc.2)) (fun q _ hc => by
    (try dsimp only)
    by_cases c1 : s (2000 + 4) q < 0
    · rw [if_pos c1]
    · rw [if_neg c1, if_pos (Classical.byContradiction fun n => hc ⟨c1, n⟩)])
  exact mat2 a b
theorem agr_0 : ∀ r, x_agreeWith_2 s R B () = .inr r → r = 0 := fun r e => by
  refine xitR_res (fun r => r = 0) (fun k u r e => ?_) R 0 () r e
  revert e
  (try dsimp only)
  have inner : ∀ r, x_agreeWith_16 s R B k 0 = .inr r → r = 0 := fun r e => by
    refine xitR_res (fun r => r = 0) (fun k2 u r e => ?_) B 0 0 r e
    revert e
    (try dsimp only)
    split
    · intro e
      cases e
    · exact fun e => (Sum.inr.inj e).symm
  generalize x_agreeWith_16 s R B k 0 = a at inner ⊢
  cases a with
  | inl v =>
    (try dsimp only)
    split
    · intro e
      cases e
    · exact fun e => (Sum.inr.inj e).symm
  | inr v => exact fun e => (inner v rfl) ▸ (Sum.inr.inj e).symm
theorem set_yn : yn (s 1000 7 = 3 → (∀ j, j < B → f_paymentOf s j w ≤ f_amountWon s j) ∧ x_agreeWith_2 s R B () = .inl ()) (f_isSettlementSound s R B w) := by
  unfold f_isSettlementSound
  by_cases c : s 1000 7 = 3
  · rw [if_pos c]
    have a := xitU_c (step := fun i12 (s12 : Unit) => (if (f_paymentOf s i12 w) ≤ (f_amountWon s i12) then (.inl () : Unit ⊕ Int32) else .inr 0)) (c := fun j => f_paymentOf s j w ≤ f_amountWon s j) B (fun q _ hc => if_pos hc) (fun q _ hc => if_neg hc)
    have b : (x_agreeWith_2 s R B () = .inl () → x_agreeWith_2 s R B () = .inl ()) ∧ (¬ x_agreeWith_2 s R B () = .inl () → x_agreeWith_2 s R B () = .inr 0) := ⟨id, fun n => by
      cases e : x_agreeWith_2 s R B () with
      | inl v => exact absurd e n
      | inr v => rw [agr_0 v e]⟩
    have m := mat2 a b
    exact ⟨fun h => m.1 (h c), fun h => m.2 fun z => h fun _ => z⟩
  · rw [if_neg c]
    exact ⟨fun _ => rfl, fun h => absurd (fun z => absurd z c) h⟩
/-! the reference's side -/
theorem nam_0 : ∀ r, x_MareNamed_2 t R B sp tn pk () = .inr r → r = 0 := fun r e => by
  refine xitR_res (fun r => r = 0) (fun k u r e => ?_) R 0 () r e
  revert e
  (try dsimp only)
  have inner : ∀ r, x_MareNamed_73 t B sp tn pk k 0 = .inr r → r = 0 := fun r e => by
    refine xitR_res (fun r => r = 0) (fun k2 u r e => ?_) B 0 0 r e
    revert e
    (try dsimp only)
    split
    · split
      · intro e
        cases e
      · exact fun e => (Sum.inr.inj e).symm
    · split
      · intro e
        cases e
      · exact fun e => (Sum.inr.inj e).symm
  generalize x_MareNamed_73 t B sp tn pk k 0 = a at inner ⊢
  cases a with
  | inl v =>
    (try dsimp only)
    split
    · intro e
      cases e
    · exact fun e => (Sum.inr.inj e).symm
  | inr v => exact fun e => (inner v rfl) ▸ (Sum.inr.inj e).symm
theorem nam_yn : yn (x_MareNamed_2 t R B sp tn pk () = .inl ()) (f_MareNamed t R B sp tn pk) := by
  have n := nam_0 (t := t) (R := R) (B := B) (sp := sp) (tn := tn) (pk := pk)
  unfold f_MareNamed
  generalize x_MareNamed_2 t R B sp tn pk () = a at n ⊢
  cases a with
  | inl v => exact ⟨fun _ => rfl, fun h => absurd rfl h⟩
  | inr v => exact ⟨fun h => (by cases h), fun _ => n v rfl⟩
theorem log_yn : yn ((∀ r, r < R → g_MrunAnew t (-1) 0 0 0 R B K (8000 + 1) r = t (7000 + 1) r) ∧ ∀ j, j < B → g_MrunAnew t (-1) 0 0 0 R B K (8000 + 2) j = t (7000 + 2) j) (f_MisLogged t R B K) := by
  have a := xitU_c (step := fun i2 (s2 : Unit) => (if (g_MrunAnew t (-1) 0 0 0 R B K (8000 + 1) i2) = (t (7000 + 1) i2) then (.inl () : Unit ⊕ Int32) else .inr 0)) (c := fun r => g_MrunAnew t (-1) 0 0 0 R B K (8000 + 1) r = t (7000 + 1) r) R (fun q _ hc => if_pos hc) (fun q _ hc => if_neg hc)
  have b := xitU_c (step := fun i2 (s2 : Unit) => (if (g_MrunAnew t (-1) 0 0 0 R B K (8000 + 2) i2) = (t (7000 + 2) i2) then (.inl () : Unit ⊕ Int32) else .inr 0)) (c := fun r => g_MrunAnew t (-1) 0 0 0 R B K (8000 + 2) r = t (7000 + 2) r) B (fun q _ hc => if_pos hc) (fun q _ hc => if_neg hc)
  exact mat2 a b
/-- what is asked of a bidder -/
def bOK (t : XS9) (R B : Nat) (pk : Nat → Nat) (g : Nat) (sp : Nat → Nat) (H : Nat → Int32) (i : Nat) : Prop := 0 ≤ f_MofBidderNow t i R B pk g 1 ∧ (∀ r, r < R → f_of (H i) r ≤ nI (sp r)) ∧ (t 5000 1 = 3 → ¬ t 5005 i = -1 → t 5006 i ≤ f_Bamount t i (cn (t 5005 i)))
theorem bid_go {H : Nat → Int32} {x26 : Nat → Unit ⊕ Int32} (hx : ∀ i, ((∀ r, r < R → f_of (H i) r ≤ nI (sp r)) → x26 i = .inl ()) ∧ (¬ (∀ r, r < R → f_of (H i) r ≤ nI (sp r)) → x26 i = .inr 0)) : ((∀ i, i < B → bOK t R B pk g sp H i) → xitR (fun i2 (s2 : Unit) => (if 0 ≤ (f_MofBidderNow t i2 R B pk g 1) then (aftU (x26 i2) (if (t 5000 1) = 3 then (if (t 5005 i2) = (-1) then (.inl () : Unit ⊕ Int32) else (if (t 5006 i2) ≤ (f_Bamount t i2 (cn (t 5005 i2))) then .inl () else .inr 0)) else .inl ())) else .inr 0)) B 0 () = .inl ()) ∧ (¬ (∀ i, i < B → bOK t R B pk g sp H i) → xitR (fun i2 (s2 : Unit) => (if 0 ≤ (f_MofBidderNow t i2 R B pk g 1) then (aftU (x26 i2) (if (t 5000 1) = 3 then (if (t 5005 i2) = (-1) then (.inl () : Unit ⊕ Int32) else (if (t 5006 i2) ≤ (f_Bamount t i2 (cn (t 5005 i2))) then .inl () else .inr 0)) else .inl ())) else .inr 0)) B 0 () = .inr 0) := by
  refine xitU_c (c := bOK t R B pk g sp H) B (fun i _ hc => ?_) (fun i _ hc => ?_)
  · obtain ⟨h1, h2, h3⟩ := hc
    (try dsimp only)
    rw [if_pos h1, (hx i).1 h2, show ∀ k, aftU (.inl ()) k = k from fun _ => rfl]
    by_cases c : t 5000 1 = 3
    · rw [if_pos c]
      by_cases k : t 5005 i = -1
      · rw [if_pos k]
      · rw [if_neg k, if_pos (h3 c k)]
    · rw [if_neg c]
  · (try dsimp only)
    by_cases h1 : 0 ≤ f_MofBidderNow t i R B pk g 1
    · rw [if_pos h1]
      by_cases h2 : ∀ r, r < R → f_of (H i) r ≤ nI (sp r)
      · rw [(hx i).1 h2, show ∀ k, aftU (.inl ()) k = k from fun _ => rfl]
        by_cases c : t 5000 1 = 3
        · rw [if_pos c]
          by_cases k : t 5005 i = -1
          · exact absurd ⟨h1, h2, fun _ z => absurd k z⟩ hc
          · rw [if_neg k, if_neg (fun z => hc ⟨h1, h2, fun _ _ => z⟩)]
        · exact absurd ⟨h1, h2, fun z => absurd z c⟩ hc
      · rw [(hx i).2 h2]
        rfl
    · rw [if_neg h1]
theorem msd_yn {a b : Unit ⊕ Int32} {P Q N L : Prop} {vn vl : Int32} (ha : (P → a = .inl ()) ∧ (¬ P → a = .inr 0)) (hb : (Q → b = .inl ()) ∧ (¬ Q → b = .inr 0)) (hn : yn N vn) (hl : yn L vl) : yn (P ∧ Q ∧ (t 5000 1 = 3 → N) ∧ L) (aft a (aft b (if (t 5000 1) = 3 then (if vn = 0 then (0 : Int32) else (if vl = 0 then 0 else 1)) else (if vl = 0 then 0 else 1)))) := by
  have d : ¬ (1 : Int32) = 0 := by decide
  by_cases p : P
  · rw [ha.1 p, show ∀ k, aft (.inl ()) k = k from fun _ => rfl]
    by_cases q : Q
    · rw [hb.1 q, show ∀ k, aft (.inl ()) k = k from fun _ => rfl]
      by_cases c : t 5000 1 = 3
      · rw [if_pos c]
        by_cases n : N
        · rw [hn.1 n, if_neg d]
          by_cases k : L
          · rw [hl.1 k, if_neg d]
            exact ⟨fun _ => rfl, fun z => absurd ⟨p, q, fun _ => n, k⟩ z⟩
          · rw [hl.2 k, if_pos rfl]
            exact ⟨fun z => absurd z.2.2.2 k, fun _ => rfl⟩
        · rw [hn.2 n, if_pos rfl]
          exact ⟨fun z => absurd (z.2.2.1 c) n, fun _ => rfl⟩
      · rw [if_neg c]
        by_cases k : L
        · rw [hl.1 k, if_neg d]
          exact ⟨fun _ => rfl, fun z => absurd ⟨p, q, fun w => absurd w c, k⟩ z⟩
        · rw [hl.2 k, if_pos rfl]
          exact ⟨fun z => absurd z.2.2.2 k, fun _ => rfl⟩
    · rw [hb.2 q]
      exact ⟨fun z => absurd z.2.1 q, fun _ => rfl⟩
  · rw [ha.2 p]
    exact ⟨fun z => absurd z.1 p, fun _ => rfl⟩
theorem msn_yn {a b : Unit ⊕ Int32} {P Q N : Prop} {vn : Int32} (ha : (P → a = .inl ()) ∧ (¬ P → a = .inr 0)) (hb : (Q → b = .inl ()) ∧ (¬ Q → b = .inr 0)) (hn : yn N vn) : yn (P ∧ Q ∧ (t 5000 1 = 3 → N)) (aft a (aft b (if (t 5000 1) = 3 then (if vn = 0 then (0 : Int32) else 1) else 1))) := by
  have d : ¬ (1 : Int32) = 0 := by decide
  by_cases p : P
  · rw [ha.1 p, show ∀ k, aft (.inl ()) k = k from fun _ => rfl]
    by_cases q : Q
    · rw [hb.1 q, show ∀ k, aft (.inl ()) k = k from fun _ => rfl]
      by_cases c : t 5000 1 = 3
      · rw [if_pos c]
        by_cases n : N
        · rw [hn.1 n, if_neg d]
          exact ⟨fun _ => rfl, fun z => absurd ⟨p, q, fun _ => n⟩ z⟩
        · rw [hn.2 n, if_pos rfl]
          exact ⟨fun z => absurd (z.2.2 c) n, fun _ => rfl⟩
      · rw [if_neg c]
        exact ⟨fun _ => rfl, fun z => absurd ⟨p, q, fun w => absurd w c⟩ z⟩
    · rw [hb.2 q]
      exact ⟨fun z => absurd z.2.1 q, fun _ => rfl⟩
  · rw [ha.2 p]
    exact ⟨fun z => absurd z.1 p, fun _ => rfl⟩
theorem x26_c (i : Nat) : ((∀ r, r < R → f_of (f_MheldCode_c t i g) r ≤ nI (sp r)) → x_MisSound_c_26 t R B K C pk g tn sp i () = .inl ()) ∧ (¬ (∀ r, r < R → f_of (f_MheldCode_c t i g) r ≤ nI (sp r)) → x_MisSound_c_26 t R B K C pk g tn sp i () = .inr 0) :=
  xitU_c (step := fun i26 (s26 : Unit) => (if (f_of (f_MheldCode_c t i g) i26) ≤ (nI (sp i26)) then (.inl () : Unit ⊕ Int32) else .inr 0)) (c := fun r => f_of (f_MheldCode_c t i g) r ≤ nI (sp r)) R (fun q _ hc => if_pos hc) (fun q _ hc => if_neg hc)
theorem x26_n (i : Nat) : ((∀ r, r < R → f_of (f_MheldCode_n t i) r ≤ nI (sp r)) → x_MisSound_n_26 t R B K C pk g tn sp i () = .inl ()) ∧ (¬ (∀ r, r < R → f_of (f_MheldCode_n t i) r ≤ nI (sp r)) → x_MisSound_n_26 t R B K C pk g tn sp i () = .inr 0) :=
  xitU_c (step := fun i26 (s26 : Unit) => (if (f_of (f_MheldCode_n t i) i26) ≤ (nI (sp i26)) then (.inl () : Unit ⊕ Int32) else .inr 0)) (c := fun r => f_of (f_MheldCode_n t i) r ≤ nI (sp r)) R (fun q _ hc => if_pos hc) (fun q _ hc => if_neg hc)
theorem sc_yn : yn ((∀ i, i < B → bOK t R B pk g sp (fun i => f_MheldCode_c t i g) i) ∧ (∀ r, r < R → t (5010 + r) 2 ≤ f_MofRegionNow t r R B C g 3) ∧ (t 5000 1 = 3 → x_MareNamed_2 t R B sp tn pk () = .inl ()) ∧ (∀ r, r < R → g_MrunAnew t (-1) 0 0 0 R B K (8000 + 1) r = t (7000 + 1) r) ∧ ∀ j, j < B → g_MrunAnew t (-1) 0 0 0 R B K (8000 + 2) j = t (7000 + 2) j) (f_MisSound_c t R B K C pk g tn sp) := by
  have a := bid_go (t := t) (R := R) (B := B) (pk := pk) (g := g) (sp := sp) (H := fun i => f_MheldCode_c t i g) (x26 := fun i => x_MisSound_c_26 t R B K C pk g tn sp i ()) (fun i => x26_c i)
  have b := xitU_c (step := fun i2 (s2 : Unit) => (if (t (5010 + i2) 2) ≤ (f_MofRegionNow t i2 R B C g 3) then (.inl () : Unit ⊕ Int32) else .inr 0)) (c := fun r => t (5010 + r) 2 ≤ f_MofRegionNow t r R B C g 3) R (fun q _ hc => if_pos hc) (fun q _ hc => if_neg hc)
  exact msd_yn (t := t) a b nam_yn log_yn
theorem sn_yn : yn ((∀ i, i < B → bOK t R B pk g sp (fun i => f_MheldCode_n t i) i) ∧ (∀ r, r < R → t (5010 + r) 2 ≤ f_MofRegionNow t r R B C g 3) ∧ (t 5000 1 = 3 → x_MareNamed_2 t R B sp tn pk () = .inl ())) (f_MisSound_n t R B K C pk g tn sp) := by
  have a := bid_go (t := t) (R := R) (B := B) (pk := pk) (g := g) (sp := sp) (H := fun i => f_MheldCode_n t i) (x26 := fun i => x_MisSound_n_26 t R B K C pk g tn sp i ()) (fun i => x26_n i)
  have b := xitU_c (step := fun i2 (s2 : Unit) => (if (t (5010 + i2) 2) ≤ (f_MofRegionNow t i2 R B C g 3) then (.inl () : Unit ⊕ Int32) else .inr 0)) (c := fun r => t (5010 + r) 2 ≤ f_MofRegionNow t r R B C g 3) R (fun q _ hc => if_pos hc) (fun q _ hc => if_neg hc)
  exact msn_yn (t := t) a b nam_yn
end
end
section
/-! ===== the blocks' holders are counted alike ===== -/
theorem hvw_val {w : Nat → Nat} {t b : Nat} : ∀ k, hvw w t b k = -1 ∨ ∃ j, j < 6 ∧ hvw w t b k = nI j
  | 0 => .inl rfl
  | k + 1 => by
    show (if cuw w t k ≤ b ∧ b < cuw w t (k + 1) then nI ((t + k) % 6) else hvw w t b k) = -1 ∨ ∃ j, j < 6 ∧ (if cuw w t k ≤ b ∧ b < cuw w t (k + 1) then nI ((t + k) % 6) else hvw w t b k) = nI j
    by_cases c : cuw w t k ≤ b ∧ b < cuw w t (k + 1)
    · rw [if_pos c]
      exact .inr ⟨_, Nat.mod_lt _ (by decide), rfl⟩
    · rw [if_neg c]
      exact hvw_val k
section
variable {τ σ s t : XS9} {R B N i r : Nat} {pk tn sp : Nat → Nat} {h : Nat → Int32}
def hcnt (h : Nat → Int32) (i N : Nat) : Int32 := xsum (fun b => if h b = nI i then (1 : Int32) else 0) N
theorem named_cnt (hh : ∀ b, b < N → h b = -1 ∨ ∃ j, j < 6 ∧ h b = nI j) (hH : ∀ u : XS9, (∀ q, q ≠ 20000 → u q = t q) → ∀ b, b < N → f_MholderNow u r (nI b) B tn = h b) (hN : sp r = N) : (∀ q, q ≠ 20000 → x_MareNamed_22 B sp tn r (uR t 20000 (rowN 6)) q = t q) ∧ ∀ i, i < 6 → x_MareNamed_22 B sp tn r (uR t 20000 (rowN 6)) 20000 i = hcnt h i N := by
  unfold x_MareNamed_22
  rw [hN]
  refine xit_ind (fun k (u : XS9) => (∀ q, q ≠ 20000 → u q = t q) ∧ ∀ i, i < 6 → u 20000 i = hcnt h i k) (N := N) (fun k u hk hP => ?_) N 0 _ (Nat.zero_add _) ⟨fun q hq => uR_ne hq, fun i hi => ?_⟩
  · obtain ⟨p1, p2⟩ := hP
    have e := hH u p1 k hk
    (try dsimp only)
    rw [e]
    have nx : ∀ i, hcnt h i (k + 1) = hcnt h i k + (if h k = nI i then 1 else 0) := fun i => by
      unfold hcnt
      rw [xsum_s]
    rcases hh k hk with z | ⟨j, j6, z⟩
    · rw [if_pos z]
      refine ⟨p1, fun i hi => ?_⟩
      rw [nx i, z, if_neg (fun q => absurd (show (-1 : Int32) = nI i from q) (by
        have : ∀ i, i < 6 → ¬ (-1 : Int32) = nI i := by decide
        exact this i hi)), Int32.add_zero]
      exact p2 i hi
    · have zn : ¬ nI j = -1 := by
        have : ∀ j, j < 6 → ¬ nI j = -1 := by decide
        exact this j j6
      rw [z, if_neg zn, cn_nI (by omega)]
      refine ⟨fun q hq => (u2_ne hq).trans (p1 q hq), fun i hi => ?_⟩
      rw [nx i, z]
      by_cases c : i = j
      · rw [c, u2_at, if_pos rfl, p2 j j6]
      · rw [u2_oi c, if_neg (fun q => c (nI_inj (by omega) (by omega) q).symm), Int32.add_zero]
        exact p2 i hi
  · rw [uR_eq]
    unfold rowN
    rw [if_neg (by omega), if_neg (by omega)]
    rfl
theorem held_cnt : f_heldBy s (nI i) r = hcnt (s (1141 + r)) i 5 := by
  unfold f_heldBy x_heldBy_5 hcnt
  exact xit_cg (N := 5) (fun k a hk => by
    (try dsimp only)
    by_cases c : s (1141 + r) k = nI i
    · rw [if_pos c, if_pos c]
    · rw [if_neg c, if_neg c, Int32.add_zero]) 5 0 0 rfl
/-- what a winner won of a region -/
theorem won_r (m : RM τ σ) (r9 : JR τ) (hs : τ 5000 1 = 3) (hi : i < mB τ) (hr : r < mR τ) : f_blocksWon σ i r = if τ 5005 i = -1 then 0 else f_of (τ (5030 + i) (2 * cn (τ 5005 i))) r := by
  have R5 := r9.hR.2
  have B6 := r9.hB.2
  have k6 := (r9.hpk i hi).2
  unfold f_blocksWon
  rw [← (m.n3 hs).1.1 i (by omega)]
  rcases r9.hkp hs i hi with z | ⟨n, n1, n2⟩
  · rw [if_pos z, if_pos (by rw [z]; decide)]
  · have ne : ¬ τ 5005 i = -1 := fun q => by
      rw [n2] at q
      have : ∀ n, n < 6 → ¬ nI n = -1 := by decide
      exact this n (by omega) q
    have n0 : ¬ nI n < (0 : Int32) := fun q => absurd ((nlt (a := n) (b := 0) (by omega) (by omega)).mp q) (by omega)
    have n6 : ¬ (6 : Int32) ≤ nI n := fun q => absurd ((nle (a := 6) (b := n) (by omega) (by omega)).mp q) (by omega)
    have ec : Int32.toNatClampNeg (nI n) = n := cn_nI (by omega)
    rw [if_neg ne, n2, if_neg n0, if_neg n6, ec, cn_nI (by omega), m.k.cd hi n1]
    exact many_of (Dm_bd r9 hi n1) (by omega)
theorem amt_w (m : RM τ σ) (r9 : JR τ) (hs : τ 5000 1 = 3) (hi : i < mB τ) (ne : ¬ τ 5005 i = -1) : f_amountWon σ i = τ (5030 + i) (2 * cn (τ 5005 i) + 1) := by
  have B6 := r9.hB.2
  have k6 := (r9.hpk i hi).2
  unfold f_amountWon
  rw [← (m.n3 hs).1.1 i (by omega)]
  rcases r9.hkp hs i hi with z | ⟨n, n1, n2⟩
  · exact absurd z ne
  · have n0 : ¬ nI n < (0 : Int32) := fun q => absurd ((nlt (a := n) (b := 0) (by omega) (by omega)).mp q) (by omega)
    have n6 : ¬ (6 : Int32) ≤ nI n := fun q => absurd ((nle (a := 6) (b := n) (by omega) (by omega)).mp q) (by omega)
    have ec : Int32.toNatClampNeg (nI n) = n := cn_nI (by omega)
    rw [n2, if_neg n0, if_neg n6, ec, cn_nI (by omega)]
    exact m.k.a hi n1
theorem agree_eq (m : RM τ σ) (r9 : JR τ) (p : JP τ) (a : RA τ σ) (hs : τ 5000 1 = 3) (es : ∀ q, q < 3000 → s q = σ q) (e1 : t 5000 1 = τ 5000 1) (e : ∀ q, 5001 ≤ q → q < 6000 → t q = τ q) : x_agreeWith_2 s (mR τ) (mB τ) () = x_MareNamed_2 t (mR τ) (mB τ) (msp τ) (mtn τ) pk () := by
  have R5 := r9.hR.2
  have B6 := r9.hB.2
  have NM := m.n3 hs
  have cnt : ∀ r, r < mR τ → (∀ q, q ≠ 20000 → x_MareNamed_22 (mB τ) (msp τ) (mtn τ) r (uR t 20000 (rowN 6)) q = t q) ∧ ∀ i, i < 6 → x_MareNamed_22 (mB τ) (msp τ) (mtn τ) r (uR t 20000 (rowN 6)) 20000 i = f_heldBy s (nI i) r := fun r hr => by
    obtain ⟨n1, n2⟩ := named_cnt (t := t) (r := r) (B := mB τ) (tn := mtn τ) (sp := msp τ) (h := fun b => hvw (wK τ r) (mtn τ r) b 6) (N := msp τ r) (fun b _ => hvw_val 6) (fun u hu b hb => by
      have k5 := (r9.hsp r hr).2
      have H := (NM3.holds r9 m.k p hs).of (v := u) fun q hq => (hu q (by omega)).trans (e q (by omega) (by omega))
      unfold f_MholderNow
      rw [if_pos (by rw [hu _ (by decide), e1]; exact hs)]
      exact H.at hr B6 (by omega)) rfl
    refine ⟨n1, fun i hi => (n2 i hi).trans ?_⟩
    have k5 := (r9.hsp r hr).2
    rw [held_cnt]
    unfold hcnt
    refine Eq.symm ((xsum_cut (N := msp τ r) (M := 5) (fun b h1 h2 => ?_) k5).trans (xsum_cg fun b hb => ?_))
    · (try dsimp only)
      rw [es _ (by omega), NM.2.1 r hr b h2]
      unfold hro
      rw [if_neg (show ¬ b < msp τ r by omega)]
      have : ∀ i, i < 6 → ¬ (-1 : Int32) = nI i := by decide
      exact if_neg (this i hi)
    · (try dsimp only)
      rw [es _ (by omega), NM.2.1 r hr b (by omega)]
      unfold hro
      rw [if_pos hb]
  have inner : ∀ r, r < mR τ → x_agreeWith_16 s (mR τ) (mB τ) r 0 = x_MareNamed_73 t (mB τ) (msp τ) (mtn τ) pk r 0 := fun r hr => by
    obtain ⟨n1, n2⟩ := cnt r hr
    unfold x_agreeWith_16 x_MareNamed_73
    refine xitR_cg (fun i acc hi => ?_) (mB τ) 0 0 (Nat.zero_add _)
    (try dsimp only)
    have w := won_r m r9 hs hi hr
    have ew : f_blocksWon s i r = f_blocksWon σ i r := by
      unfold f_blocksWon
      rw [es _ (by decide), es _ (by omega)]
    have c := n2 i (by omega)
    generalize x_MareNamed_22 (mB τ) (msp τ) (mtn τ) r (uR t 20000 (rowN 6)) = U at n1 c ⊢
    have eb : f_Bcode U i (cn (τ 5005 i)) = τ (5030 + i) (2 * cn (τ 5005 i)) := by
      unfold f_Bcode
      rw [n1 _ (by omega), e _ (by omega) (by omega)]
    rw [ew, w, c, e 5005 (by decide) (by decide), eb]
    by_cases k : τ 5005 i = -1
    · rw [if_pos k, if_pos k]
      by_cases q : f_heldBy s (nI i) r = 0
      · rw [if_pos q, if_pos q, q]
      · rw [if_neg q, if_neg q]
    · rw [if_neg k, if_neg k]
      by_cases q : f_heldBy s (nI i) r = f_of (τ (5030 + i) (2 * cn (τ 5005 i))) r
      · rw [if_pos q, if_pos q, q]
      · rw [if_neg q, if_neg q]
  unfold x_agreeWith_2 x_MareNamed_2
  refine xitR_cg (fun r u hr => ?_) (mR τ) 0 () (Nat.zero_add _)
  (try dsimp only)
  rw [inner r hr, es _ (by decide), (a.2.1 r (by omega)).1, (r9.hsp r hr).1]
  generalize x_MareNamed_73 t (mB τ) (msp τ) (mtn τ) pk r 0 = w
  cases w with
  | inl v => rfl
  | inr v => rfl
end
end
section
/-! ===== isSound, alike ===== -/
section
variable {τ σ : XS9}
theorem says_sound (rc : RC τ σ) (r : JR τ) (a : RA τ σ) (z9 : RZ τ) (jc : JC σ) (js : JS τ) (oz : OZ σ) (eB : aB σ = mB τ) (m : RM τ σ) (p : JP τ) (hy : HY τ) : f_isSound σ (mR τ) (mB τ) (aw σ) (mK τ) = f_MisSound τ (vS (u2 τ 5000 0 0)) := by
  have R5 := r.hR.2
  have B6 := r.hB.2
  have K60 := r.hK.2
  have A := anew_two (j := 0) (r := 0) (y := 0) (xc := -1) (xm := -1) (told a z9 jc) R5 B6 (LGK.mk rc js oz eB) K60 a z9 (fun i hi => by
    have h1 : ∀ i, i < 60 → ¬ nI (i + 1) = -1 := by decide
    have h2 : ∀ i, i < 60 → ¬ nI i = -1 - 1 := by decide
    exact ⟨fun q => absurd q (h1 i (by omega)), fun q => absurd q (h2 i (by omega))⟩) (fun i hi q => by
    have h1 : ∀ i, i < 60 → ¬ nI (i + 1) = -1 := by decide
    exact absurd q (h1 i (by omega)))
  obtain ⟨⟨g, n, Q⟩, fs, ft⟩ := A
  have hK0 : τ 5000 1 = 0 → x_runLog_11 σ 3000 2000 (-1) 0 0 0 (mB τ) (mR τ) (mK τ) (g_begin σ 3000, 0) = (g_begin σ 3000, 0) := fun c => by
    have : mK τ = 0 := by
      show cn (τ 5003 900) = 0
      rw [(r.hp0 c).2.2]
      rfl
    rw [this]
    rfl
  have ev : vS (u2 τ 5000 0 0) = if u2 τ 5000 0 0 7000 25 = nI 0 then f_MisSound_n (u2 τ 5000 0 0) (mR τ) (mB τ) (mK τ) (mC τ) (mpk τ) (mg τ) (mtn τ) (msp τ) else f_MisSound_c (u2 τ 5000 0 0) (mR τ) (mB τ) (mK τ) (mC τ) (mpk τ) (mg τ) (mtn τ) (msp τ) := by
    have q : ∀ q, q ≠ 5000 → u2 τ 5000 0 0 q = τ q := fun q hq => u2_ne hq
    have e1 : mR (u2 τ 5000 0 0) = mR τ := congrArg cn (congrFun (q 5001 (by decide)) 900)
    have e2 : mB (u2 τ 5000 0 0) = mB τ := congrArg cn (congrFun (q 5002 (by decide)) 900)
    have e3 : mK (u2 τ 5000 0 0) = mK τ := congrArg cn (congrFun (q 5003 (by decide)) 900)
    have e4 : mC (u2 τ 5000 0 0) = mC τ := congrArg (fun v => cn v / 2) (congrFun (q 5004 (by decide)) 900)
    have e5 : mg (u2 τ 5000 0 0) = mg τ := congrArg cn (congrFun (q 7000 (by decide)) 23)
    have e6 : mpk (u2 τ 5000 0 0) = mpk τ := funext fun j => congrArg (fun v => cn v / 2) (congrFun (q (5030 + j) (by omega)) 900)
    have e7 : mtn (u2 τ 5000 0 0) = mtn τ := funext fun j => congrArg cn (congrFun (q 5007 (by decide)) j)
    have e8 : msp (u2 τ 5000 0 0) = msp τ := funext fun j => congrArg cn (congrFun (q (5010 + j) (by omega)) 0)
    show (if u2 τ 5000 0 0 7000 25 = nI 0 then f_MisSound_n (u2 τ 5000 0 0) (mR (u2 τ 5000 0 0)) (mB (u2 τ 5000 0 0)) (mK (u2 τ 5000 0 0)) (mC (u2 τ 5000 0 0)) (mpk (u2 τ 5000 0 0)) (mg (u2 τ 5000 0 0)) (mtn (u2 τ 5000 0 0)) (msp (u2 τ 5000 0 0)) else f_MisSound_c (u2 τ 5000 0 0) (mR (u2 τ 5000 0 0)) (mB (u2 τ 5000 0 0)) (mK (u2 τ 5000 0 0)) (mC (u2 τ 5000 0 0)) (mpk (u2 τ 5000 0 0)) (mg (u2 τ 5000 0 0)) (mtn (u2 τ 5000 0 0)) (msp (u2 τ 5000 0 0))) = _
    rw [e1, e2, e3, e4, e5, e6, e7, e8]
  have fb : ∀ j, j < mB τ → σ 2004 j = f_MofBidderNow (u2 τ 5000 0 0) j (mR τ) (mB τ) (mpk τ) (mg τ) 1 := fun j hj => facts_b rc r a z9 m p (k := 1) hj (by decide)
  have fr : ∀ q, q < mR τ → σ 2001 q = f_MofRegionNow (u2 τ 5000 0 0) q (mR τ) (mB τ) (mC τ) (mg τ) 3 := fun q hq => facts_r rc r a (k := 3) hq (by decide) (count_eq a r)
  have codes : ∀ j, j < mB τ → σ 2002 j = f_MheldCode (u2 τ 5000 0 0) j (mg τ) ∧ bd 7775 (σ 2002 j) ∧ ∀ k, mR τ ≤ k → k < 5 → dgt (σ 2002 j) k = 0 := fun j hj => by
    have c := codes_eq rc hj B6
    refine ⟨c.2.1, c.2.2, fun k h1 h2 => ?_⟩
    by_cases c0 : τ 5000 1 = 0
    · rw [((rc.off c0).h j (by omega)).1]
      exact dgt_0
    · rw [((rc.on c0).he j hj).1]
      exact hy c0 j hj k h1 h2
  have t7 : u2 τ 5000 0 0 7000 25 = τ 7000 25 := congrFun (u2_ne (by decide)) 25
  have t51 : u2 τ 5000 0 0 5000 1 = τ 5000 1 := u2_oi (by decide)
  have tq : ∀ q, 5001 ≤ q → u2 τ 5000 0 0 q = τ q := fun q hq => u2_ne (by omega)
  unfold f_isSound f_MisSound
  rw [ev, t7]
  have eS : g_runLog σ 3000 2000 (-1) 0 0 0 (mB τ) (mR τ) (mK τ) = (x_runLog_11 σ 3000 2000 (-1) 0 0 0 (mB τ) (mR τ) (mK τ) (g_begin σ 3000, 0)).1 := rfl
  rw [eS]
  generalize x_runLog_11 σ 3000 2000 (-1) 0 0 0 (mB τ) (mR τ) (mK τ) (g_begin σ 3000, 0) = P at Q fs hK0 ⊢
  have ss : ∀ q, q < 3000 → P.1 q = σ q := fun q hq => fs q (by omega)
  -- the parts
  have pR : (∀ q, q < mR τ → P.1 1012 q ≤ P.1 (2000 + 1) q) ↔ ∀ q, q < mR τ → u2 τ 5000 0 0 (5010 + q) 2 ≤ f_MofRegionNow (u2 τ 5000 0 0) q (mR τ) (mB τ) (mC τ) (mg τ) 3 := forall_congr' fun q => forall_congr' fun hq => by
    rw [ss _ (by decide), ss (2000 + 1) (by decide), fr q hq, tq _ (by omega), (a.2.1 q (by omega)).2.2.1]
  have pE : ∀ j, j < mB τ → (¬ P.1 (2000 + 4) j < 0 ↔ 0 ≤ f_MofBidderNow (u2 τ 5000 0 0) j (mR τ) (mB τ) (mpk τ) (mg τ) 1) := fun j hj => by
    rw [ss (2000 + 4) (by decide), fb j hj]
    exact Int32.not_lt
  have pH : ∀ j, j < mB τ → (¬ f_isWithin (P.1 (2000 + 2) j) 5 (P.1 1010) = 0 ↔ ∀ q, q < mR τ → f_of (f_MheldCode (u2 τ 5000 0 0) j (mg τ)) q ≤ nI (msp τ q)) := fun j hj => by
    obtain ⟨c1, c2, c3⟩ := codes j hj
    have w := within_eq (q := fun q => if q < mR τ then msp τ q else 0) (f := σ 1010) (N := 5) c2 (fun q hq => by
      rw [(a.2.1 q hq).1]
      (try dsimp only)
      split
      · rename_i l
        exact r.hsp q l
      · rename_i l
        exact ⟨(z9 q (Nat.not_lt.mp l) hq).1, by omega⟩)
    rw [ss (2000 + 2) (by decide), ss 1010 (by decide), ← c1]
    refine ⟨fun h q hq => ?_, fun h z => ?_⟩
    · have h1 : ∀ q, q < 5 → dgt (σ 2002 j) q ≤ (if q < mR τ then msp τ q else 0) := Classical.byContradiction fun n => h (w.mpr n)
      have h2 := h1 q (by omega)
      rw [if_pos hq] at h2
      have k5 := (r.hsp q hq).2
      rw [of_d c2 (by omega)]
      exact (nle (by omega) (by omega)).mpr h2
    · refine w.mp z fun q hq => ?_
      (try dsimp only)
      split
      · rename_i l
        have h2 := h q l
        have k5 := (r.hsp q l).2
        have d5 := dgt_le (c := σ 2002 j) (r := q)
        rw [of_d c2 hq] at h2
        exact (nle (by omega) (by omega)).mp h2
      · rename_i l
        rw [c3 q (Nat.not_lt.mp l) hq]
        exact Nat.le_refl _
  have p3 : τ 5000 1 = 3 → (∀ j, j < mB τ → f_paymentOf P.1 j (aw σ) ≤ f_amountWon P.1 j) ∧ ∀ j, j < mB τ → ¬ u2 τ 5000 0 0 5005 j = -1 → u2 τ 5000 0 0 5006 j ≤ f_Bamount (u2 τ 5000 0 0) j (cn (u2 τ 5000 0 0 5005 j)) := fun c => by
    have K := (m.n3 c).1
    have ew : aw σ = mwy τ := congrArg cn K.2.2
    obtain ⟨W, b, f, fw, aw9, _, _, _, pv⟩ := m.pay r p a
    have le : ∀ j, j < mB τ → nI (f (mwy τ) j) ≤ nI (b j) := fun j hj => by
      have q3 := (fw.2.1 j (by omega)).1
      have q2 := (pv (mwy τ) r.hwy.2 j (by omega)).2.1
      exact (nle (by omega) (by omega)).mpr q2
    refine ⟨fun j hj => ?_, fun j hj ne => ?_⟩
    · have e1 : f_paymentOf P.1 j (aw σ) = nI (f (mwy τ) j) := by
        unfold f_paymentOf
        rw [ss 1000 (by decide), rc.st, if_pos c, ew, ss _ (by have := r.hwy.2; omega)]
        exact (pv (mwy τ) r.hwy.2 j (by omega)).1
      have e2 : f_amountWon P.1 j = nI (b j) := by
        rw [← (aw9 j (by omega)).1]
        unfold f_amountWon
        rw [ss 1040 (by decide), ss _ (by omega)]
      rw [e1, e2]
      exact le j hj
    · rw [tq 5005 (by decide)] at ne ⊢
      rw [tq 5006 (by decide), K.2.1 j (by omega), (pv (mwy τ) r.hwy.2 j (by omega)).1]
      unfold f_Bamount
      rw [tq _ (by omega), ← amt_w m r c hj ne, (aw9 j (by omega)).1]
      exact le j hj
  have agr : τ 5000 1 = 3 → x_agreeWith_2 P.1 (mR τ) (mB τ) () = x_MareNamed_2 (u2 τ 5000 0 0) (mR τ) (mB τ) (msp τ) (mtn τ) (mpk τ) () := fun c => agree_eq m r p a c ss t51 (fun q h1 h2 => tq q h1)
  have cls := yn.if3 (rep_yn (s := P.1) (R := mR τ) (B := mB τ)) (clk_yn (s := P.1) (R := mR τ) (B := mB τ)) (set_yn (s := P.1) (R := mR τ) (B := mB τ) (w := aw σ))
  have s7 : P.1 1000 7 = τ 5000 1 := by
    rw [ss 1000 (by decide)]
    exact rc.st
  by_cases c0 : τ 5000 1 = 0
  · rw [if_pos (show τ 7000 25 = nI 0 from rc.fl.mpr c0)]
    refine cls.eq (sn_yn (t := u2 τ 5000 0 0) (R := mR τ) (B := mB τ) (K := mK τ) (C := mC τ) (pk := mpk τ) (g := mg τ) (tn := mtn τ) (sp := msp τ)) ?_
    have hc : ∀ j, f_MheldCode (u2 τ 5000 0 0) j (mg τ) = f_MheldCode_n (u2 τ 5000 0 0) j := fun j => if_pos (by rw [t7]; exact rc.fl.mpr c0)
    have n3 : ¬ u2 τ 5000 0 0 5000 1 = 3 := fun q => absurd (c0.symm.trans (t51.symm.trans q)) (by decide)
    have n3' : ¬ P.1 1000 7 = 3 := fun q => absurd (c0.symm.trans (s7.symm.trans q)) (by decide)
    obtain ⟨b1, b2, b3, b4, b5, b6⟩ := begin_b (s := σ) (b := 3000) (by decide)
    have hP := hK0 c0
    refine ⟨fun ⟨_, ⟨h2, h3⟩, _⟩ => ⟨fun i hi => ⟨(pE i hi).mp (h3 i hi).1, fun q hq => ?_, fun q => absurd q n3⟩, pR.mp h2, fun q => absurd q n3⟩, fun ⟨h1, h2, _⟩ => ⟨⟨fun q hq => ?_, fun j hj => ?_⟩, ⟨pR.mpr h2, fun j hj => ⟨(pE j hj).mpr (h1 j hj).1, (pH j hj).mpr fun q hq => ?_⟩⟩, fun q => absurd q n3'⟩⟩
    · have := (pH i hi).mp (h3 i hi).2 q hq
      rw [hc i] at this
      exact this
    · rw [ss (2000 + 1) (by decide), hP]
      exact (b1 q (by omega)).trans ((rc.off c0).p q (by omega)).symm
    · rw [ss (2000 + 2) (by decide), hP]
      exact (b3 j (by omega)).1.trans ((rc.off c0).h j (by omega)).1.symm
    · have := (h1 j hj).2.1 q hq
      rw [hc j]
      exact this
  · have n25 : ¬ τ 7000 25 = nI 0 := fun q => c0 (rc.fl.mp q)
    rw [if_neg n25]
    refine cls.eq (sc_yn (t := u2 τ 5000 0 0) (R := mR τ) (B := mB τ) (K := mK τ) (C := mC τ) (pk := mpk τ) (g := mg τ) (tn := mtn τ) (sp := msp τ)) ?_
    have hc : ∀ j, f_MheldCode (u2 τ 5000 0 0) j (mg τ) = f_MheldCode_c (u2 τ 5000 0 0) j (mg τ) := fun j => if_neg (by rw [t7]; exact n25)
    have lg : ((∀ q, q < mR τ → P.1 (3000 + 1) q = P.1 (2000 + 1) q) ∧ ∀ j, j < mB τ → P.1 (3000 + 2) j = P.1 (2000 + 2) j) ↔ ((∀ q, q < mR τ → g_MrunAnew (u2 τ 5000 0 0) (-1) 0 0 0 (mR τ) (mB τ) (mK τ) (8000 + 1) q = u2 τ 5000 0 0 (7000 + 1) q) ∧ ∀ j, j < mB τ → g_MrunAnew (u2 τ 5000 0 0) (-1) 0 0 0 (mR τ) (mB τ) (mK τ) (8000 + 2) j = u2 τ 5000 0 0 (7000 + 2) j) := by
      refine and_congr (forall_congr' fun q => forall_congr' fun hq => ?_) (forall_congr' fun j => forall_congr' fun hj => ?_)
      · rw [ss (2000 + 1) (by decide), Q.p q hq, tq _ (by omega), show σ (2000 + 1) q = τ (7000 + 1) q from (rc.on c0).p q hq]
      · rw [ss (2000 + 2) (by decide), (Q.he j hj).1, tq _ (by omega), show σ (2000 + 2) j = τ (7000 + 2) j from ((rc.on c0).he j hj).1]
    rw [s7]
    refine ⟨fun ⟨h1, ⟨h2, h3⟩, h4⟩ => ⟨fun i hi => ⟨(pE i hi).mp (h3 i hi).1, fun q hq => ?_, fun q ne => (p3 (t51.symm.trans q)).2 i hi ne⟩, pR.mp h2, fun q => ?_, lg.mp h1⟩, fun ⟨h1, h2, h3, h4⟩ => ⟨lg.mpr h4, ⟨pR.mpr h2, fun j hj => ⟨(pE j hj).mpr (h1 j hj).1, (pH j hj).mpr fun q hq => ?_⟩⟩, fun q => ⟨(p3 q).1, ?_⟩⟩⟩
    · have := (pH i hi).mp (h3 i hi).2 q hq
      rw [hc i] at this
      exact this
    · have c := t51.symm.trans q
      rw [← agr c]
      exact (h4 c).2
    · have := (h1 j hj).2.1 q hq
      rw [hc j]
      exact this
    · rw [agr q]
      exact h3 (t51.trans q)
end
end
section
/-! ===== the checksum, alike ===== -/
section
variable {τ σ t u : XS9} {R B C g q i k : Nat} {pk : Nat → Nat} {x y : Int32}
/-! the same facts by a state with the same rows -/
theorem reg_cg (e : ∀ q, 5001 ≤ q → q < 9000 → t q = u q) (hq : q < 5) (hg : g < 200) (hk : k ≤ 8) : f_MofRegionNow t q R B C g k = f_MofRegionNow u q R B C g k := by
  have kh : f_KheldIn t 7000 q B g = f_KheldIn u 7000 q B g := by
    show xsum (fun i => f_of (t (7000 + 2) i) q) B = xsum (fun i => f_of (u (7000 + 2) i) q) B
    rw [e _ (by omega) (by omega)]
  have kw : f_KwishedIn t 7000 q B g = f_KwishedIn u 7000 q B g := by
    show xsum (fun i => f_of (t (7000 + 500 + g) i) q) B = xsum (fun i => f_of (u (7000 + 500 + g) i) q) B
    rw [e _ (by omega) (by omega)]
  have e7 := e 7000 (by decide) (by decide)
  have e5 := e (5010 + q) (by omega) (by omega)
  match k, hk with
  | 0, _ =>
    show t (5010 + q) 0 = u (5010 + q) 0
    rw [e5]
  | 1, _ =>
    show t (5010 + q) 1 = u (5010 + q) 1
    rw [e5]
  | 2, _ =>
    show t (5010 + q) 2 = u (5010 + q) 2
    rw [e5]
  | 3, _ =>
    show (if t 7000 25 = 0 then t (5010 + q) 2 else t (7000 + 1) q) = if u 7000 25 = 0 then u (5010 + q) 2 else u (7000 + 1) q
    rw [e7, e5, e (7000 + 1) (by decide) (by decide)]
  | 4, _ =>
    show (if t 7000 25 = 0 then 0 else f_KheldIn t 7000 q B g) = if u 7000 25 = 0 then 0 else f_KheldIn u 7000 q B g
    rw [e7, kh]
  | 5, _ =>
    show (if t 7000 25 = 0 then 0 - t (5010 + q) 0 else f_KheldIn t 7000 q B g - t (5010 + q) 0) = if u 7000 25 = 0 then 0 - u (5010 + q) 0 else f_KheldIn u 7000 q B g - u (5010 + q) 0
    rw [e7, e5, kh]
  | 6, _ =>
    show (if t 7000 25 = 0 then 0 else f_KwishedIn t 7000 q B g) = if u 7000 25 = 0 then 0 else f_KwishedIn u 7000 q B g
    rw [e7, kw]
  | 7, _ =>
    show t (5010 + q) 3 = u (5010 + q) 3
    rw [e5]
  | 8, _ =>
    show f_MstationsIn t (nI q) C = f_MstationsIn u (nI q) C
    unfold f_MstationsIn x_MstationsIn_4
    rw [e 5004 (by decide) (by decide)]
theorem bid_cg (e : ∀ q, 5001 ≤ q → q < 9000 → t q = u q) (hi : i < 6) (hR5 : R ≤ 5) (hg : g < 200) (hk : k ≤ 10) : f_MofBidderNow t i R B pk g k = f_MofBidderNow u i R B pk g k := by
  have e7 := e 7000 (by decide) (by decide)
  have e5 := e (5020 + i) (by omega) (by omega)
  have wc : f_MwishedCode t i g = f_MwishedCode u i g := by
    show (if t 7000 25 = 0 then 0 else t (7000 + 500 + g) i) = if u 7000 25 = 0 then 0 else u (7000 + 500 + g) i
    rw [e7, e _ (by omega) (by omega)]
  match k, hk with
  | 0, _ =>
    show t (5020 + i) 0 = u (5020 + i) 0
    rw [e5]
  | 1, _ =>
    show (if t 7000 25 = 0 then t (5020 + i) 1 else t (7000 + 3) i) = if u 7000 25 = 0 then u (5020 + i) 1 else u (7000 + 3) i
    rw [e7, e5, e (7000 + 3) (by decide) (by decide)]
  | 2, _ =>
    show t (5020 + i) 2 = u (5020 + i) 2
    rw [e5]
  | 3, _ =>
    show t (5020 + i) 3 = u (5020 + i) 3
    rw [e5]
  | 4, _ =>
    show (if t 7000 25 = 0 then 2 else t (7000 + 4) i) = if u 7000 25 = 0 then 2 else u (7000 + 4) i
    rw [e7, e (7000 + 4) (by decide) (by decide)]
  | 5, _ =>
    show (if t 7000 25 = 0 then 0 else t (7000 + 2) i) = if u 7000 25 = 0 then 0 else u (7000 + 2) i
    rw [e7, e (7000 + 2) (by decide) (by decide)]
  | 6, _ => exact wc
  | 7, _ =>
    show f_Mpoints t (f_MwishedCode t i g) R = f_Mpoints u (f_MwishedCode u i g) R
    rw [wc]
    unfold f_Mpoints x_Mpoints_4
    refine xit_cg (N := R) (fun r s hr => ?_) R 0 0 (Nat.zero_add _)
    (try dsimp only)
    rw [e (5010 + r) (by omega) (by omega)]
  | 8, _ => rfl
  | 9, _ =>
    show (if t (5020 + i) 4 = 0 then (0 : Int32) else 1) = if u (5020 + i) 4 = 0 then 0 else 1
    rw [e5]
  | 10, _ =>
    show (if t 7000 25 = 0 then 0 else t (7000 + 5) i) = if u 7000 25 = 0 then 0 else u (7000 + 5) i
    rw [e7, e (7000 + 5) (by decide) (by decide)]
/-- the holder of a block -/
theorem hold_eq (m : RM τ σ) (r : JR τ) (p : JP τ) (e1 : t 5000 1 = τ 5000 1) (e : ∀ q, 5001 ≤ q → q < 6000 → t q = τ q) (hi : i < mR τ) (hk : k < msp τ i) : σ (1141 + i) k = f_MholderNow t i (nI k) (mB τ) (mtn τ) := by
  have R5 := r.hR.2
  have B6 := r.hB.2
  have k5 := (r.hsp i hi).2
  unfold f_MholderNow
  by_cases c : τ 5000 1 = 3
  · rw [if_pos (e1.trans c), (m.n3 c).2.1 i hi k (by omega)]
    have H := (NM3.holds r m.k p c).of (v := t) fun q hq => e q (by omega) (by omega)
    rw [H.at (t := mtn τ i) hi B6 (b := k) (by omega)]
    exact if_pos hk
  · rw [if_neg (fun z => c (e1.symm.trans z))]
    exact (m.n0 c).1 i (by omega) k (by omega)
/-- payments that are found again, in other rooms -/
theorem pay_q (h : RM τ σ) (r : JR τ) (p : JP τ) (a : RA τ σ) {t : XS9} (e9 : t 9001 = g_Cinit (u2 τ 5000 0 0) (mR τ) (mB τ) (mpk τ) (mgr τ) (mcd τ) 9001) (e93 : t 9003 = g_Cinit (u2 τ 5000 0 0) (mR τ) (mB τ) (mpk τ) (mgr τ) (mcd τ) 9003) (e5 : ∀ q, q < 9000 → t q = g_Cinit (u2 τ 5000 0 0) (mR τ) (mB τ) (mpk τ) (mgr τ) (mcd τ) q) {qa : Nat} (hq : 20000 ≤ qa) {j : Nat} (hj : j < 6) : g_Cpay t 1 qa (mB τ) qa j = σ (1131 + 1) j ∧ g_Cpay t 2 qa (mB τ) qa j = σ (1131 + 2) j := by
  obtain ⟨m, w, y9⟩ := h.all r p a
  obtain ⟨c1, c3⟩ := h.cho r p
  obtain ⟨W, b, f, fw, hb, hc, hW, h1, hv⟩ := h.pay r p a
  have F := TKF.mk r h.k p
  obtain ⟨p1, p2, q1, q2⟩ := pay_all (σ := σ) (t := t) (qa := qa) (B := mB τ) (W := W) (a := b) fw r.hB.2 hq (fun j hj => by rw [e9]; exact (c1 j hj).symm) (fun j hj e => (hb j hj).2 (by rw [e9] at e; exact (c1 j hj).symm.trans e)) (fun j h1 h2 => by rw [e9, c1 j h2]; exact w.hi h1 h2) (fun j hj => (hb j hj).1) (fun j hj => by rw [cam_row e9 (e5 _ (by have := r.hB.2; omega))]; exact hc j hj) hW (fun S hS => by rw [e93, c3 S hS]; exact hW S hS)
  have fe : ∀ v, v < 3 → σ (1131 + v) j = g_find σ (1131 + v) j := fun v hv => by rw [y9 v hv j hj, w.find (PCx.mk (TA.mk a) F h.k) F.p6 v hv j hj]
  exact ⟨(q2 j hj).2.1.trans ((q1 j hj).1.2.1.symm.trans (fe 1 (by decide)).symm), (q2 j hj).2.2.trans ((q1 j hj).1.2.2.symm.trans (fe 2 (by decide)).symm)⟩
end
section
variable {τ σ t : XS9} {cnt sp rg : Nat → Nat} {K C w : Nat} {y0 : Int64}
theorem dgR_fst : ∀ (f i : Nat) (s : XG9), (xit (s_dgR σ C sp) f i s).1 = xit (fun i a => f_withRegion σ a i C sp) f i s.1
  | 0, _, _ => rfl
  | f + 1, i, s => dgR_fst f (i + 1) (s_dgR σ C sp i s)
theorem dig_region (rc : RC τ σ) (r : JR τ) (a : RA τ σ) (m : RM τ σ) (p : JP τ) (e1 : t 5000 1 = τ 5000 1) (e : ∀ q, 5001 ≤ q → q < 9000 → t q = τ q) (hsp : ∀ q, q < mR τ → sp q = msp τ q) {i : Nat} (hi : i < mR τ) {pk : Nat → Nat} : f_withRegion σ y0 i (mC τ) sp = x_dig_99 t (mR τ) (mB τ) K (mC τ) pk (mg τ) (mtn τ) (msp τ) i ((x_dig_61 t (mR τ) (mB τ) K (mC τ) pk (mg τ) (mtn τ) (msp τ) i y0 * 31) + (Int32.toInt64 (nI (2 * msp τ i - 1)))) := by
  have R5 := r.hR.2
  have g2 := r.hg.2
  have c := count_eq (v := nI i) a r
  have e6 : x_withRegion_6 σ y0 i (mC τ) sp y0 = x_dig_61 t (mR τ) (mB τ) K (mC τ) pk (mg τ) (mtn τ) (msp τ) i y0 := by
    unfold x_withRegion_6 x_dig_61
    refine xit_cg (N := 9) (fun k s hk => ?_) 9 0 y0 rfl
    (try dsimp only)
    rw [facts_r rc r a (k := k) hi (by omega) c, reg_cg (t := t) (u := u2 τ 5000 0 0) (fun q h1 h2 => (e q h1 h2).trans (u2_ne (by omega)).symm) (by omega) g2 (by omega)]
    rfl
  unfold f_withRegion
  rw [e6, hsp i hi]
  unfold x_withRegion_70 x_dig_99
  rw [hsp i hi]
  refine xit_cg (N := msp τ i) (fun k s hk => ?_) (msp τ i) 0 _ (Nat.zero_add _)
  (try dsimp only)
  rw [hold_eq m r p e1 (fun q h1 h2 => e q h1 (by omega)) hi hk]
  rfl
theorem dig_bidder (rc : RC τ σ) (r : JR τ) (a : RA τ σ) (z9 : RZ τ) (m : RM τ σ) (p : JP τ) (d : RD τ) (e1 : t 5000 1 = τ 5000 1) (e : ∀ q, 5001 ≤ q → q < 9000 → t q = τ q) (e91 : ∀ j, j < 6 → t 9001 j = σ 1040 j) (e25 : ∀ j, j < 6 → t 20005 j = σ (1131 + 1) j) (e26 : ∀ j, j < 6 → t 20006 j = σ (1131 + 2) j) (hcn : ∀ j, j < 6 → cnt j = pkB τ j) {i : Nat} (hi : i < mB τ) : f_withBidder σ y0 i (aw σ) cnt = x_dig_251 t (mR τ) (mB τ) K C (mpk τ) (mg τ) (mtn τ) (msp τ) i (x_dig_196 t (mR τ) (mB τ) K C (mpk τ) (mg τ) (mtn τ) (msp τ) i (x_dig_170 t (mR τ) (mB τ) K C (mpk τ) (mg τ) (mtn τ) (msp τ) i y0)) := by
  have R5 := r.hR.2
  have B6 := r.hB.2
  have g2 := r.hg.2
  have e6 : x_withBidder_6 σ y0 i (aw σ) cnt y0 = x_dig_170 t (mR τ) (mB τ) K C (mpk τ) (mg τ) (mtn τ) (msp τ) i y0 := by
    unfold x_withBidder_6 x_dig_170
    refine xit_cg (N := 11) (fun k s hk => ?_) 11 0 y0 rfl
    (try dsimp only)
    rw [facts_b rc r a z9 m p (k := k) hi (by omega), bid_cg (t := t) (u := u2 τ 5000 0 0) (fun q h1 h2 => (e q h1 h2).trans (u2_ne (by omega)).symm) (by omega) R5 g2 (by omega)]
    rfl
  have ew : σ 1040 i = f_MwinsNow t i := by
    unfold f_MwinsNow
    rw [e1]
    by_cases c : τ 5000 1 = 3
    · rw [if_pos c, e 5005 (by decide) (by decide)]
      exact ((m.n3 c).1.1 i (by omega)).symm
    · rw [if_neg c]
      exact (e91 i (by omega)).symm
  have ep : f_paymentOf σ i (aw σ) = f_Mpaid t i := by
    obtain ⟨P, hP, eP, hh⟩ := paid_eq m r p a rc.st hi
    unfold f_Mpaid
    rw [eP, e1, e 5006 (by decide) (by decide)]
    rcases hh with ⟨c, k⟩ | ⟨c, k⟩
    · rw [if_pos c, k]
    · rw [if_neg c, k]
      rfl
  have ed : f_dueOf σ i (aw σ) = f_Mdue t i (mB τ) := due_m m r p a rc.st d e1 (fun q h1 h2 => e q h1 (by omega)) hi
  have ec : cnt i = mpk τ i := by
    rw [hcn i (by omega)]
    exact if_pos hi
  unfold f_withBidder
  rw [e6, ew, ep, ed, ← e25 i (by omega), ← e26 i (by omega)]
  unfold x_withBidder_118 x_dig_251 x_dig_196
  rw [ec]
  refine xit_cg (N := mpk τ i) (fun k s hk => ?_) (mpk τ i) 0 _ (Nat.zero_add _)
  (try dsimp only)
  unfold f_Bamount f_Bcode
  rw [m.k.a hi hk, m.k.cd hi hk, e _ (by omega) (by omega)]
  rfl
theorem dig_last (rc : RC τ σ) (e : ∀ q, 5001 ≤ q → q < 9000 → t q = τ q) (K60 : mK τ ≤ 60) : f_withLastRound σ y0 (mR τ) (mB τ) (mK τ) = x_digC t (mR τ) (mB τ) (mK τ) y0 := by
  have lg := rc.lg
  unfold x_digC
  cases hK : mK τ with
  | zero => exact (if_pos rfl).symm
  | succ n =>
    rw [if_neg (by omega)]
    show f_withLast1 σ y0 (mR τ) (mB τ) n = _
    unfold f_withLast1 x_withLast1_69 x_withLast1_28 x_dig_395 x_dig_361
    have e1 : xit (fun i28 s28 => f_mixed s28 (Int32.toInt64 (σ (2000 + 101 + n) i28))) (mR τ) 0 y0 = xit (fun i361 y361 => (y361 * 31) + (Int32.toInt64 (t (6000 + (n + 1 - 1)) i361))) (mR τ) 0 y0 := xit_cg (N := mR τ) (fun k s hk => by
      (try dsimp only)
      rw [show 2000 + 101 + n = 2101 + n by omega, lg.2.2.1 n (by omega) k hk, show 6000 + (n + 1 - 1) = 6000 + n by omega, e _ (by omega) (by omega)]
      rfl) (mR τ) 0 y0 (Nat.zero_add _)
    rw [e1]
    exact xit_cg (N := mB τ) (fun k s hk => by
      (try dsimp only)
      rw [show 2000 + 201 + n = 2201 + n by omega, lg.2.2.2.1 n (by omega) k hk, show 6100 + (n + 1 - 1) = 6100 + n by omega, e _ (by omega) (by omega)]
      rfl) (mB τ) 0 _ (Nat.zero_add _)
/-- the stations, asked for one channel and for two -/
theorem clr1 (hc : 0 < C) : g_dgS σ C rg = g_clear (g_clear σ 1 C rg) 2 C rg := by
  unfold g_dgS g_clear
  rw [if_pos hc, if_pos (by decide), if_pos (by decide)]
  rfl
theorem dig_st (a : RA τ σ) (hb : RB τ) (r : JR τ) (rs : RS τ) : d_dgS σ (mC τ) (arg σ) y0 = x_digD (u2 τ 5000 0 0) (mR τ) (mC τ) (mrg τ) y0 := by
  unfold d_dgS x_digD
  by_cases c : 0 < mC τ
  · rw [if_pos c, if_neg (by omega)]
    have a1 : RA τ (g_clear σ 1 (mC τ) (arg σ)) := a.kept MA.rfl' VA.clear
    have e : g_clear σ 1 (mC τ) (arg σ) = g_cheapest σ 1 (mC τ) (arg σ) := if_pos (by decide)
    have ea : arg (g_clear σ 1 (mC τ) (arg σ)) = arg σ := by
      have v : VA σ (g_clear σ 1 (mC τ) (arg σ)) := VA.clear
      exact funext fun k => congrArg cn (v 1151 k (by unfold ka; omega))
    have h2 := cheap_eq (R := mR τ) (ch := 2) a1 hb r rs (by decide)
    rw [ea, e] at h2
    rw [cheap_eq (R := mR τ) (ch := 1) a hb r rs (by decide), h2]
    rfl
  · rw [if_neg c, if_pos (by omega)]
theorem says_digest (rc : RC τ σ) (r : JR τ) (a : RA τ σ) (z9 : RZ τ) (jc : JC σ) (js : JS τ) (oz : OZ σ) (eB : aB σ = mB τ) (m : RM τ σ) (p : JP τ) (hy : HY τ) (d : RD τ) (hb : RB τ) (rs : RS τ) (hcn : ∀ j, j < 6 → cnt j = pkB τ j) (hsp : ∀ q, q < mR τ → sp q = msp τ q) : f_digest σ (mK τ) (mB τ) (mR τ) (mC τ) (aw σ) cnt sp (arg σ) = f_Mdigest τ (mR τ) (mB τ) (mpk τ) (mgr τ) (mcd τ) (mK τ) (mC τ) (mg τ) (mtn τ) (msp τ) (mrg τ) (vS (u2 τ 5000 0 0)) := by
  have R5 := r.hR.2
  have B6 := r.hB.2
  have K60 := r.hK.2
  obtain ⟨c1, c3⟩ := m.cho r p
  have lo : ∀ q, q < 9000 → g_Cinit (u2 τ 5000 0 0) (mR τ) (mB τ) (mpk τ) (mgr τ) (mcd τ) q = u2 τ 5000 0 0 q := fun q hq => cho_lo hq
  have t0q : ∀ q, 5001 ≤ q → q < 9000 → u2 τ 5000 0 0 q = τ q := fun q h1 _ => u2_ne (by omega)
  -- the payments' rooms
  have f1 : ∀ q, q ≠ 20005 → g_Cpay (g_Cinit (u2 τ 5000 0 0) (mR τ) (mB τ) (mpk τ) (mgr τ) (mcd τ)) 1 20005 (mB τ) q = g_Cinit (u2 τ 5000 0 0) (mR τ) (mB τ) (mpk τ) (mgr τ) (mcd τ) q := fun q hq => fr_Cpay ⟨hq, B6⟩
  have f2 : ∀ q, q ≠ 20006 → g_Cpay (g_Cpay (g_Cinit (u2 τ 5000 0 0) (mR τ) (mB τ) (mpk τ) (mgr τ) (mcd τ)) 1 20005 (mB τ)) 2 20006 (mB τ) q = g_Cpay (g_Cinit (u2 τ 5000 0 0) (mR τ) (mB τ) (mpk τ) (mgr τ) (mcd τ)) 1 20005 (mB τ) q := fun q hq => fr_Cpay ⟨hq, B6⟩
  have p25 : ∀ j, j < 6 → g_Cpay (g_Cpay (g_Cinit (u2 τ 5000 0 0) (mR τ) (mB τ) (mpk τ) (mgr τ) (mcd τ)) 1 20005 (mB τ)) 2 20006 (mB τ) 20005 j = σ (1131 + 1) j := fun j hj => by
    rw [f2 _ (by decide)]
    exact (pay_q m r p a (t := g_Cinit (u2 τ 5000 0 0) (mR τ) (mB τ) (mpk τ) (mgr τ) (mcd τ)) rfl rfl (fun _ _ => rfl) (qa := 20005) (by decide) hj).1
  have p26 : ∀ j, j < 6 → g_Cpay (g_Cpay (g_Cinit (u2 τ 5000 0 0) (mR τ) (mB τ) (mpk τ) (mgr τ) (mcd τ)) 1 20005 (mB τ)) 2 20006 (mB τ) 20006 j = σ (1131 + 2) j := fun j hj =>
    (pay_q m r p a (t := g_Cpay (g_Cinit (u2 τ 5000 0 0) (mR τ) (mB τ) (mpk τ) (mgr τ) (mcd τ)) 1 20005 (mB τ)) (f1 _ (by decide)) (f1 _ (by decide)) (fun q hq => f1 q (by omega)) (qa := 20006) (by decide) hj).2
  have sales : d_dg0 σ (mK τ) (mB τ) (mR τ) (mC τ) (aw σ) cnt = x_dig_23 (g_Cinit (u2 τ 5000 0 0) (mR τ) (mB τ) (mpk τ) (mgr τ) (mcd τ)) (mR τ) (mB τ) (mK τ) (mC τ) (mpk τ) (mg τ) (mtn τ) (msp τ) 58282 := by
    unfold d_dg0 x_dig_23
    refine xit_cg (N := 17) (fun k s hk => ?_) 17 0 58282 rfl
    (try dsimp only)
    rw [facts_s rc r a z9 m p oz d eB hcn (k := k) (by omega)]
    rfl
  have regs : (d_dgR σ (mK τ) (mB τ) (mR τ) (mC τ) (aw σ) cnt sp).1 = x_digA (g_Cinit (u2 τ 5000 0 0) (mR τ) (mB τ) (mpk τ) (mgr τ) (mcd τ)) (mR τ) (mB τ) (mK τ) (mC τ) (mpk τ) (mg τ) (mtn τ) (msp τ) 58282 := by
    unfold d_dgR x_digA
    rw [dgR_fst, ← sales]
    unfold x_dig_48
    exact xit_cg (N := mR τ) (fun i s hi => dig_region rc r a m p (by rw [lo _ (by decide), u2_oi (by decide)]) (fun q h1 h2 => (lo q h2).trans (t0q q h1 h2)) hsp hi) (mR τ) 0 _ (Nat.zero_add _)
  have bids : d_dgB σ (mB τ) (aw σ) cnt (d_dgR σ (mK τ) (mB τ) (mR τ) (mC τ) (aw σ) cnt sp).1 = y_digB τ (mR τ) (mB τ) (mpk τ) (mgr τ) (mcd τ) (mK τ) (mC τ) (mg τ) (mtn τ) (msp τ) (mrg τ) := by
    unfold d_dgB y_digB x_digB x_dig_155
    rw [regs]
    refine xit_cg (N := mB τ) (fun i s hi => ?_) (mB τ) 0 _ (Nat.zero_add _)
    exact dig_bidder rc r a z9 m p d (by rw [f2 _ (by decide), f1 _ (by decide), lo _ (by decide), u2_oi (by decide)]) (fun q h1 h2 => by rw [f2 _ (by omega), f1 _ (by omega), lo _ h2]; exact t0q q h1 h2) (fun j hj => by rw [f2 _ (by decide), f1 _ (by decide)]; exact c1 j hj) p25 p26 hcn hi
  have last := dig_last (t := u2 τ 5000 0 0) (y0 := y_digB τ (mR τ) (mB τ) (mpk τ) (mgr τ) (mcd τ) (mK τ) (mC τ) (mg τ) (mtn τ) (msp τ) (mrg τ)) rc t0q K60
  have snd : f_isSound (g_dgS σ (mC τ) (arg σ)) (mR τ) (mB τ) (aw σ) (mK τ) = vS (u2 τ 5000 0 0) := by
    by_cases c : 0 < mC τ
    · rw [clr1 c]
      have v1 : VC σ (g_clear (g_clear σ 1 (mC τ) (arg σ)) 2 (mC τ) (arg σ)) := VC.clear.trans VC.clear
      have v2 : VK σ (g_clear (g_clear σ 1 (mC τ) (arg σ)) 2 (mC τ) (arg σ)) := VK.clear.trans VK.clear
      have v3 : VA σ (g_clear (g_clear σ 1 (mC τ) (arg σ)) 2 (mC τ) (arg σ)) := VA.clear.trans VA.clear
      have v4 : VX σ (g_clear (g_clear σ 1 (mC τ) (arg σ)) 2 (mC τ) (arg σ)) := VX.clear.trans VX.clear
      have S := says_sound (σ := g_clear (g_clear σ 1 (mC τ) (arg σ)) 2 (mC τ) (arg σ)) (rc.kept r MK.rfl' v2) r (a.kept MA.rfl' v3) z9 jc.clear.clear js (oz.row v1 v2) ((congrArg cn v1.2.1).trans eB) (m.kept r MX.rfl' v4) p hy
      have ew : aw (g_clear (g_clear σ 1 (mC τ) (arg σ)) 2 (mC τ) (arg σ)) = aw σ := congrArg cn (v4 1000 9 (by unfold kx; omega))
      rw [ew] at S
      exact S
    · rw [show g_dgS σ (mC τ) (arg σ) = σ from if_neg c]
      exact says_sound rc r a z9 jc js oz eB m p hy
  unfold f_digest f_Mdigest d_dg1
  rw [snd, bids, last, dig_st a hb r rs]
  unfold x_digE f_mixed
  by_cases c : vS (u2 τ 5000 0 0) = 0
  · rw [if_pos c, if_pos c]
    rfl
  · rw [if_neg c, if_neg c]
    rfl
end
end
