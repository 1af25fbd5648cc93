/-! ===== codes of the clock have no digits beyond the regions ===== -/
section
variable {τ τ2 σ : XS9} {x y v : Int32} {b' R B g w n : Nat} {q : Nat → Nat}
def fkC (σ : XS9) (b' B : Nat) (W : Nat → Int32) : XS9 := fun q i => if q = 2002 then (if i < B then σ (b' + 2) i else 0) else if q = 2003 then W i else if q = 1010 then σ (5010 + i) 0 else 0
theorem Kclose_hi (hK : KW b' g σ) (hR5 : R ≤ 5) (hB6 : B ≤ 6) (hg : g < 199) (hn : n < 60) (hb' : 7000 ≤ b') (hq : ∀ r, r < R → σ (5010 + r) 0 = nI (q r) ∧ q r ≤ 5) : ∀ j, j < B → ∀ k, R ≤ k → k < 5 → dgt (g_Kclose σ x b' R B g w n (b' + 2) j) k = dgt (σ (b' + 2) j) k := by
  have k2 : kc0 σ b' R B g w n (b' + 2) = σ (b' + 2) := kc0_row (by omega)
  have kw := hK.clo2 (R := R) (B := B) (w := w) (n := n) hB6 (by omega)
  obtain ⟨W, eW⟩ : ∃ W, W = x_Kclose_2 σ b' R B g w n σ (b' + 500 + g) := ⟨_, rfl⟩
  have hW : WE σ b' R B g w n W := fun j hj => by
    rw [eW]
    exact ⟨kw.2 j (by omega), rfl⟩
  have e3 : fkC σ b' B W (2000 + 3) = W := funext fun i => by
    show (if (2003 : Nat) = 2002 then _ else if (2003 : Nat) = 2003 then W i else _) = W i
    rw [if_neg (by decide), if_pos rfl]
  have hqc : ∀ r, r < R → fkC σ b' B W 1010 r = nI (q r) := fun r hr => by
    show (if (1010 : Nat) = 2002 then _ else if (1010 : Nat) = 2003 then _ else if (1010 : Nat) = 1010 then σ (5010 + r) 0 else 0) = _
    rw [if_neg (by decide), if_neg (by decide), if_pos rfl]
    exact (hq r hr).1
  have hE : HE 2000 b' B (fkC σ b' B W) (kc0 σ b' R B g w n) := fun j hj => by
    rw [k2]
    refine ⟨?_, hK.1 j (by omega)⟩
    show (if (2002 : Nat) = 2002 then (if j < B then σ (b' + 2) j else 0) else _) = _
    rw [if_pos rfl, if_pos hj]
  have hz : ∀ j, B ≤ j → j < 6 → fkC σ b' B W (2000 + 2) j = 0 := fun j h1 h2 => by
    show (if (2002 : Nat) = 2002 then (if j < B then σ (b' + 2) j else 0) else _) = _
    rw [if_pos rfl, if_neg (by omega)]
  have H := rounds (b := 2000) (b' := b') (x := x) (q := q) (W := W) hR5 hB6 (by omega) hq hW hqc e3 hE hz
  have D : ∀ i, i ≤ R → ∀ j, j < B → ∀ k, R ≤ k → k < 5 → dgt ((xit (st169 σ x b' R B g w n) i 0 (kc0 σ b' R B g w n, 0)).1 (b' + 2) j) k = dgt (σ (b' + 2) j) k := by
    intro i
    induction i with
    | zero =>
      intro _ j _ k _ _
      show dgt (kc0 σ b' R B g w n (b' + 2) j) k = _
      rw [k2]
    | succ i ih =>
      intro hi j hj k hk h5
      have I := H i (by omega)
      have ih := ih (by omega) j hj k hk h5
      rw [xit_last]
      generalize xit (fun i s => g_moveHeld s 2000 i B) i 0 (fkC σ b' B W) = s at I
      generalize xit (st169 σ x b' R B g w n) i 0 (kc0 σ b' R B g w n, 0) = p at I ih ⊢
      obtain ⟨q1, q2⟩ := hq i (by omega)
      have M := move_sim (b := 2000) (s := s) (s' := p.1) (by omega) hB6 q1 (by rw [I.rows _ (by omega)]; exact hqc i (by omega)) (by omega) q2 hW (by rw [I.rows _ (by omega)]; exact e3) I.he I.z
      have m2 : KP b' i B p.1 (mvM σ b' R B g w n i p.1) := M.2.1
      have e : (st169 σ x b' R B g w n i p).1 (b' + 2) = mvM σ b' R B g w n i p.1 (b' + 2) := by
        unfold st169
        split
        · exact u2_ne (by omega)
        · rfl
      rw [e, m2 j hj k h5 (by omega)]
      exact ih
  intro j hj k hk h5
  have e : g_Kclose σ x b' R B g w n (b' + 2) = (xit (st169 σ x b' R B g w n) R 0 (kc0 σ b' R B g w n, 0)).1 (b' + 2) := by
    rw [Kclose_eq, kcF_row (by omega)]
    rfl
  rw [e]
  exact D R (Nat.le_refl _) j hj k hk h5
def HZ (τ : XS9) : Prop := τ 5000 1 = 1 → ∀ j, j < mB τ → ∀ k, mR τ ≤ k → k < 5 → dgt (τ 7002 j) k = 0 ∧ dgt (τ (7500 + mg τ) j) k = 0
theorem HZ.off (h : ¬ τ 5000 1 = 1) : HZ τ := fun e => absurd e h
theorem HZ.init : HZ s0M := HZ.off (by decide)
theorem HZ.kept (h : HZ τ) (r : JR τ) (m : MK τ τ2) : HZ τ2 := fun e j hj k h1 h2 => by
  have M : ∀ q i, km q i → τ2 q i = τ q i := m
  have eg : mg τ2 = mg τ := congrArg cn (M _ _ (by unfold km; omega))
  have eB : mB τ2 = mB τ := congrArg cn (M _ _ (by unfold km; omega))
  have eR : mR τ2 = mR τ := congrArg cn (M _ _ (by unfold km; omega))
  rw [M _ _ (by unfold km; omega)] at e
  rw [eB] at hj
  rw [eR] at h1
  have := r.hg.2
  rw [eg, M _ _ (by unfold km; omega), M _ _ (by unfold km; omega)]
  exact h e j hj k h1 h2
theorem dgt_0 {k : Nat} : dgt 0 k = 0 := by
  unfold dgt
  show 0 / 6 ^ k % 6 = 0
  rw [Nat.zero_div]
theorem HZ.region (h : HZ τ) (r : JR τ) : HZ (g_Mregion τ x y v R) := by
  unfold g_Mregion
  (repeat' split) <;> first | exact h.kept r MK.s00 | skip
  rename_i h0 _
  refine HZ.off fun e => ?_
  rw [u2_ne (by decide), uR_ne (by omega), u2_oi (by decide), h0] at e
  exact absurd e (by decide)
theorem HZ.bidder {u : Int32} (h : HZ τ) (r : JR τ) : HZ (g_Mbidder τ x y v u B) := by
  unfold g_Mbidder
  (repeat' split) <;> first | exact h.kept r MK.s00 | skip
  rename_i h0 _
  refine HZ.off fun e => ?_
  rw [u2_ne (by decide), u2_ne (by omega), uR_ne (by omega), u2_oi (by decide), h0] at e
  exact absurd e (by decide)
theorem HZ.step (h : HZ τ) (r : JR τ) : HZ (g_Mstep τ x) := by
  unfold g_Mstep
  split
  · split
    · intro e j hj k h1 h2
      rw [u2_oi (by decide), u2_oi (by decide)] at e
      have e9 : ∀ q, q ≠ 5000 → u2 (u2 τ 5000 0 0) 5000 4 x q = τ q := fun q hq => by rw [u2_ne hq, u2_ne hq]
      have eg : mg (u2 (u2 τ 5000 0 0) 5000 4 x) = mg τ := by
        show cn (u2 (u2 τ 5000 0 0) 5000 4 x 7000 23) = _
        rw [e9 _ (by decide)]
      have eB : mB (u2 (u2 τ 5000 0 0) 5000 4 x) = mB τ := by
        show cn (u2 (u2 τ 5000 0 0) 5000 4 x 5002 900) = _
        rw [e9 _ (by decide)]
      have eR : mR (u2 (u2 τ 5000 0 0) 5000 4 x) = mR τ := by
        show cn (u2 (u2 τ 5000 0 0) 5000 4 x 5001 900) = _
        rw [e9 _ (by decide)]
      rw [eB] at hj
      rw [eR] at h1
      rw [eg, e9 _ (by decide), e9 _ (by omega)]
      exact h e j hj k h1 h2
    · exact h.kept r MK.s00
  · exact h.kept r MK.s00
theorem HZ.wish (h : HZ τ) (r : JR τ) (js : JS τ) : HZ (g_Mwish τ x y v (mR τ) (mB τ) (mg τ)) := by
  have hg2 := r.hg.2
  unfold g_Mwish
  split
  · split
    · rename_i hx hy
      split
      · rename_i hv
        split
        · rename_i hs
          split
          · exact h.kept r MK.s00
          · have hR5 := r.hR.2
            have hB6 := r.hB.2
            have hy2 := hy.2
            have hx2 := hx.2
            have kw := (js.1 hs).1
            intro e j hj k h1 h2
            have e9 : ∀ q, q < 7500 → q ≠ 5000 → u2 (u2 τ 5000 0 0) (7000 + 500 + mg τ) (cn x) (f_with (τ (7000 + 500 + mg τ) (cn x)) (cn y) v) q = τ q := fun q h1 h2 => by rw [u2_ne (by omega), u2_ne h2]
            have eg : mg (u2 (u2 τ 5000 0 0) (7000 + 500 + mg τ) (cn x) (f_with (τ (7000 + 500 + mg τ) (cn x)) (cn y) v)) = mg τ := congrArg cn (congrFun (e9 7000 (by decide) (by decide)) 23)
            have eB : mB (u2 (u2 τ 5000 0 0) (7000 + 500 + mg τ) (cn x) (f_with (τ (7000 + 500 + mg τ) (cn x)) (cn y) v)) = mB τ := congrArg cn (congrFun (e9 5002 (by decide) (by decide)) 900)
            have eR : mR (u2 (u2 τ 5000 0 0) (7000 + 500 + mg τ) (cn x) (f_with (τ (7000 + 500 + mg τ) (cn x)) (cn y) v)) = mR τ := congrArg cn (congrFun (e9 5001 (by decide) (by decide)) 900)
            rw [eB] at hj
            rw [eR] at h1
            obtain ⟨a1, a2⟩ := h hs j hj k h1 h2
            rw [eg, e9 7002 (by decide) (by decide)]
            refine ⟨a1, ?_⟩
            by_cases ej : j = cn x
            · rw [show 7500 + mg τ = 7000 + 500 + mg τ by omega, ej, u2_at, with_ne (kw.2 (cn x) (by omega)) (by omega) (bd.bt hv (by decide) rfl (by decide)) h2 (by omega), ← ej]
              exact a2
            · rw [show 7500 + mg τ = 7000 + 500 + mg τ by omega, u2_oi ej, u2_ne (by omega)]
              exact a2
        · exact h.kept r MK.s00
      · exact h.kept r MK.s00
    · exact h.kept r MK.s00
  · exact h.kept r MK.s00
theorem HZ.waive (h : HZ τ) (r : JR τ) : HZ (g_Mwaive τ x (mB τ) (mg τ) (mw τ)) := by
  have hg2 := r.hg.2
  unfold g_Mwaive
  split
  · split
    · split
      · exact h.kept r MK.s00
      · split
        · have e9 : ∀ q, q ≠ 5000 → q ≠ 7004 → q ≠ 7000 + 700 + mw τ → u2 (u2 (u2 τ 5000 0 0) (7000 + 4) (cn x) ((τ (7000 + 4) (cn x)) - 1)) (7000 + 700 + mw τ) (cn x) 1 q = τ q := fun q h1 h2 h3 => by rw [u2_ne h3, u2_ne h2, u2_ne h1]
          intro e j hj k h1 h2
          have eg : mg (u2 (u2 (u2 τ 5000 0 0) (7000 + 4) (cn x) ((τ (7000 + 4) (cn x)) - 1)) (7000 + 700 + mw τ) (cn x) 1) = mg τ := congrArg cn (congrFun (e9 7000 (by decide) (by decide) (by omega)) 23)
          have eB : mB (u2 (u2 (u2 τ 5000 0 0) (7000 + 4) (cn x) ((τ (7000 + 4) (cn x)) - 1)) (7000 + 700 + mw τ) (cn x) 1) = mB τ := congrArg cn (congrFun (e9 5002 (by decide) (by decide) (by omega)) 900)
          have eR : mR (u2 (u2 (u2 τ 5000 0 0) (7000 + 4) (cn x) ((τ (7000 + 4) (cn x)) - 1)) (7000 + 700 + mw τ) (cn x) 1) = mR τ := congrArg cn (congrFun (e9 5001 (by decide) (by decide) (by omega)) 900)
          rw [u2_ne (by omega), u2_ne (by decide), u2_oi (by decide)] at e
          rw [eB] at hj
          rw [eR] at h1
          rw [eg, e9 7002 (by decide) (by decide) (by omega), e9 (7500 + mg τ) (by omega) (by omega) (by omega)]
          exact h e j hj k h1 h2
        · exact h.kept r MK.s00
    · exact h.kept r MK.s00
  · exact h.kept r MK.s00
theorem HZ.opn (h : HZ τ) (r : JR τ) : HZ (g_Mopen τ R B) := by
  unfold g_Mopen
  split
  · split
    · exact h.kept r MK.s00
    · split
      · exact h.kept r MK.s00
      · intro e j hj k h1 h2
        have eg : mg (u2 (g_Kinit (u2 (u2 τ 5000 0 0) 5000 1 1) 7000 R B) 7000 25 1) = 0 := by
          show cn (u2 (g_Kinit (u2 (u2 τ 5000 0 0) 5000 1 1) 7000 R B) 7000 25 1 7000 23) = 0
          rw [u2_oi (by decide), Kinit_o (by decide)]
          unfold g_clk0
          rw [if_pos rfl, if_neg (by decide), if_neg (by decide)]
          rfl
        rw [eg, u2_ne (by decide), u2_ne (by decide), Kinit_o (by decide), Kinit_o (by decide), clk0_z (by decide), clk0_z (by decide)]
        exact ⟨dgt_0, dgt_0⟩
  · exact h.kept r MK.s00
theorem HZ.settle {pk gr : Nat → Nat} {cd : Nat → Nat → Nat} {sp : Nat → Nat} (h : HZ τ) (r : JR τ) (hB6 : B ≤ 6) : HZ (g_Msettle τ x R B pk gr cd sp) := by
  unfold g_Msettle
  split
  · split
    · refine HZ.off fun e => ?_
      rw [MK.keep hB6 5000 1 (by unfold km; omega), u2_oi (by decide), u2_at] at e
      exact absurd e (by decide)
    · exact h.kept r MK.s00
  · exact h.kept r MK.s00
end
