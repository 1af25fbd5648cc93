section
/-! ===== the clock is over: packages 0 on both sides ===== -/
section
variable {τ σ s t : XS9} {B R K i : Nat} {gr pk : Nat → Nat} {c am : Nat → Int32}
def stEc (R B K : Nat) (gr : Nat → Nat) (i7 : Nat) (s7 : XS9) : XS9 := (if (s7 (2000 + 2) i7) = 0 then s7 else g_addM s7 i7 (s7 (2000 + 2) i7) (f_lastValue s7 2000 (s7 (2000 + 2) i7) K) R B gr (fun j => cn (s7 1020 j)))
def stAm (pk : Nat → Nat) (c am : Nat → Int32) (i : Nat) (s : XS9) : XS9 := (if c i ≤ 0 then s else g_Madd s i (pk i) (c i) (am i))
theorem add_loop (a : TA t s) (F : TKF t) (k : RK t s) (m : MKT t s) (w : MKW t s) (hg : ∀ j, j < 6 → gr j = mgr t j ∧ gr j < 4) (hK : K < 60) (hpk : ∀ j, j < mB t → mpk t j = 0 ∧ pk j = 0) (hc : ∀ j, j < mB t → s 2002 j = c j ∧ bd 7775 (c j) ∧ cn (c j) < 6 ^ mR t ∧ bd 300000 (am j) ∧ f_lastValue s 2000 (c j) K = am j) : (RK (xit (stAm pk c am) (mB t) 0 t) (xit (stEc (mR t) (mB t) K gr) (mB t) 0 s) ∧ MKT (xit (stAm pk c am) (mB t) 0 t) (xit (stEc (mR t) (mB t) K gr) (mB t) 0 s) ∧ MKW (xit (stAm pk c am) (mB t) 0 t) (xit (stEc (mR t) (mB t) K gr) (mB t) 0 s)) ∧ (TKF (xit (stAm pk c am) (mB t) 0 t) ∧ TA (xit (stAm pk c am) (mB t) 0 t) (xit (stEc (mR t) (mB t) K gr) (mB t) 0 s)) ∧ (∀ q, (q < 1020 ∨ 1124 < q) → xit (stEc (mR t) (mB t) K gr) (mB t) 0 s q = s q) ∧ ∀ q, (q < 5030 ∨ 5035 < q) → xit (stAm pk c am) (mB t) 0 t q = t q := by
  have hB6 := F.1.2
  have H := xit_two (f := stEc (mR t) (mB t) K gr) (g := stAm pk c am) (fun i s2 t2 => (RK t2 s2 ∧ MKT t2 s2 ∧ MKW t2 s2) ∧ (TKF t2 ∧ TA t2 s2) ∧ (∀ q, (q < 1020 ∨ 1124 < q) → s2 q = s q) ∧ (∀ q, (q < 5030 ∨ 5035 < q) → t2 q = t q) ∧ ∀ j, i ≤ j → j < mB t → mpk t2 j = 0) (N := mB t) (fun i s2 t2 hi hP => ?_) (mB t) 0 s t (Nat.zero_add _) ⟨⟨k, m, w⟩, ⟨F, a⟩, fun _ _ => rfl, fun _ _ => rfl, fun j _ hj => (hpk j hj).1⟩
  · exact ⟨H.1, H.2.1, H.2.2.1, H.2.2.2.1⟩
  · obtain ⟨⟨k2, m2, w2⟩, ⟨F2, a2⟩, f1, f2, n2⟩ := hP
    obtain ⟨c1, c2, c3, c4, c5⟩ := hc i hi
    have eR : mR t2 = mR t := by
      show cn (t2 5001 900) = _
      rw [f2 _ (by decide)]
    have eB : mB t2 = mB t := by
      show cn (t2 5002 900) = _
      rw [f2 _ (by decide)]
    have eh : s2 (2000 + 2) i = c i := by rw [f1 _ (by decide)]; exact c1
    have el : f_lastValue s2 2000 (c i) K = am i := by
      rw [← c5]
      unfold f_lastValue
      rw [f1 _ (by omega)]
    have c0 : c i ≤ 0 ↔ c i = 0 := by
      refine ⟨fun w => ?_, fun w => by rw [w]; exact Int32.le_refl _⟩
      have h2 := c2.2
      rw [c2.1] at w ⊢
      rw [(nI_le0 (by omega)).mp w]
      rfl
    have n0 := n2 i (Nat.le_refl _) hi
    unfold stEc stAm
    rw [eh, el, (hpk i hi).2]
    by_cases z : c i = 0
    · rw [if_pos z, if_pos (c0.mpr z)]
      exact ⟨⟨k2, m2, w2⟩, ⟨F2, a2⟩, f1, f2, fun j h1 h2 => n2 j (by omega) h2⟩
    · rw [if_neg z, if_neg (fun w => z (c0.mp w))]
      have hn : mpk t2 i < 6 := by omega
      have A := add_step (gr := gr) (cnt := fun j => cn (s2 1020 j)) a2 F2 k2 m2 (by rw [eB]; exact hi) hn c2 (by rw [eR]; exact c3) c4 (fun j hj => ⟨(hg j hj).1.trans (by
        show cn (t (5020 + j) 3) = cn (t2 (5020 + j) 3)
        rw [f2 _ (by omega)]), (hg j hj).2⟩) (fun j hj => by
        (try dsimp only)
        rw [k2.n hj]
        exact cn_nI (by have := F2.p6 j hj; omega))
      have F3 := F2.madd (i := i) (by rw [eB]; exact hi) hn c2 (by rw [eR]; exact c3) c4
      rw [eR, eB] at A
      rw [n0] at A F3
      have fa : ∀ q, (q < 1020 ∨ 1124 < q) → g_addM s2 i (c i) (am i) (mR t) (mB t) gr (fun j => cn (s2 1020 j)) q = s2 q := fun q hq => fr_addM ⟨by omega, hq, fun j hj => (hg j hj).2⟩ (by
        (try dsimp only)
        rw [k2.n (by omega : i < 6)]
        rw [cn_nI (by have := F2.p6 i (by omega); omega)]
        exact F2.p6 i (by omega))
      have fm : ∀ q, (q < 5030 ∨ 5035 < q) → g_Madd t2 i 0 (c i) (am i) q = t2 q := fun q hq => madd_row (by omega)
      refine ⟨A, ⟨F3, ?_⟩, fun q hq => (fa q hq).trans (f1 q hq), fun q hq => (fm q hq).trans (f2 q hq), fun j h1 h2 => ?_⟩
      · refine ⟨by rw [fa _ (by decide), fm _ (by decide)]; exact a2.1, fun r hr => ?_⟩
        rw [fa _ (by decide), fm _ (by omega)]
        exact a2.2 r hr
      · rw [mpk_j (by omega)]
        exact n2 j (by omega) h2
/-- what packages 0 are worth -/
theorem last_eq {x : Int32} {f : Nat → Int32} {g : Nat → Int32} (hx : bd 7775 x) (hR5 : R ≤ 5) (h : ∀ r, r < R → f r = g r) (hz : ∀ r, R ≤ r → r < 5 → f r = 0) : f_total x 5 f = xit (fun i138 (s138 : Int32) => s138 + ((f_of x i138) * (g i138))) R 0 0 := by
  rw [total_x, xsum_cut (N := R) (M := 5) (fun j a b => by
    (try dsimp only)
    rw [hz j a b, Int32.mul_zero]) hR5]
  exact xsum_cg fun i hi => by
    (try dsimp only)
    rw [many_of hx (by omega), h i hi]
theorem last_bd {x : Int32} {g : Nat → Int32} (hx : bd 7775 x) (hR5 : R ≤ 5) (h : ∀ r, r < R → bd 9999 (g r)) : bd 300000 (xit (fun i138 (s138 : Int32) => s138 + ((f_of x i138) * (g i138))) R 0 0) := by
  have e : xit (fun i138 (s138 : Int32) => s138 + ((f_of x i138) * (g i138))) R 0 0 = nI (nsum (fun r => dgt x r * cn (g r)) R) := xsum_n (t := fun r => f_of x r * g r) (fun r hr => by
    (try dsimp only)
    rw [of_d hx (by omega), (h r hr).1, nI_mul, ← (h r hr).1])
  have l := nsum_le (d := fun r => dgt x r * cn (g r)) (k := 49995) (N := R) fun r hr => by
    have h1 := dgt_le (c := x) (r := r)
    have h2 := (h r hr).2
    (try dsimp only)
    calc dgt x r * cn (g r) ≤ 5 * 9999 := Nat.mul_le_mul h1 h2
      _ ≤ 49995 := by decide
  rw [e]
  exact bd.nat (by omega) (by decide)
/-- a code without digits beyond the regions -/
theorem code_lt {x : Int32} (hx : bd 7775 x) (hR5 : R ≤ 5) (hz : ∀ r, R ≤ r → r < 5 → dgt x r = 0) : cn x < 6 ^ R := by
  have h2 := hx.2
  unfold dgt at hz
  have z4 := hz 4
  have z3 := hz 3
  have z2 := hz 2
  have z1 := hz 1
  have z0 := hz 0
  have a : R = 0 ∨ R = 1 ∨ R = 2 ∨ R = 3 ∨ R = 4 ∨ R = 5 := by omega
  rcases a with rfl | rfl | rfl | rfl | rfl | rfl <;> simp only [Nat.reducePow] at * <;> omega
end
end
section
/-! ===== codes of the clock have no digits beyond the regions ===== -/
section
variable {τ τ2 σ : XS9} {x y v : Int32} {b' R B g w n : Nat} {q : Nat → Nat}
def fkC (σ : XS9) (b' B : Nat) (W : Nat → Int32) : XS9 := fun q i => if q = 2002 then (if i < B then σ (b' + 2) i else 0) else if q = 2003 then W i else if q = 1010 then σ (5010 + i) 0 else 0
theorem Kclose_hi (hK : KW b' g σ) (hR5 : R ≤ 5) (hB6 : B ≤ 6) (hg : g < 199) (hn : n < 60) (hb' : 7000 ≤ b') (hq : ∀ r, r < R → σ (5010 + r) 0 = nI (q r) ∧ q r ≤ 5) : ∀ j, j < B → ∀ k, R ≤ k → k < 5 → dgt (g_Kclose σ x b' R B g w n (b' + 2) j) k = dgt (σ (b' + 2) j) k := by
  have k2 : kc0 σ b' R B g w n (b' + 2) = σ (b' + 2) := kc0_row (by omega)
  have kw := hK.clo2 (R := R) (B := B) (w := w) (n := n) hB6 (by omega)
  obtain ⟨W, eW⟩ : ∃ W, W = x_Kclose_2 σ b' R B g w n σ (b' + 500 + g) := ⟨_, rfl⟩
  have hW : WE σ b' R B g w n W := fun j hj => by
    rw [eW]
    exact ⟨kw.2 j (by omega), rfl⟩
  have e3 : fkC σ b' B W (2000 + 3) = W := funext fun i => by
    show (if (2003 : Nat) = 2002 then _ else if (2003 : Nat) = 2003 then W i else _) = W i
    rw [if_neg (by decide), if_pos rfl]
  have hqc : ∀ r, r < R → fkC σ b' B W 1010 r = nI (q r) := fun r hr => by
    show (if (1010 : Nat) = 2002 then _ else if (1010 : Nat) = 2003 then _ else if (1010 : Nat) = 1010 then σ (5010 + r) 0 else 0) = _
    rw [if_neg (by decide), if_neg (by decide), if_pos rfl]
    exact (hq r hr).1
  have hE : HE 2000 b' B (fkC σ b' B W) (kc0 σ b' R B g w n) := fun j hj => by
    rw [k2]
    refine ⟨?_, hK.1 j (by omega)⟩
    show (if (2002 : Nat) = 2002 then (if j < B then σ (b' + 2) j else 0) else _) = _
    rw [if_pos rfl, if_pos hj]
  have hz : ∀ j, B ≤ j → j < 6 → fkC σ b' B W (2000 + 2) j = 0 := fun j h1 h2 => by
    show (if (2002 : Nat) = 2002 then (if j < B then σ (b' + 2) j else 0) else _) = _
    rw [if_pos rfl, if_neg (by omega)]
  have H := rounds (b := 2000) (b' := b') (x := x) (q := q) (W := W) hR5 hB6 (by omega) hq hW hqc e3 hE hz
  have D : ∀ i, i ≤ R → ∀ j, j < B → ∀ k, R ≤ k → k < 5 → dgt ((xit (st169 σ x b' R B g w n) i 0 (kc0 σ b' R B g w n, 0)).1 (b' + 2) j) k = dgt (σ (b' + 2) j) k := by
    intro i
    induction i with
    | zero =>
      intro _ j _ k _ _
      show dgt (kc0 σ b' R B g w n (b' + 2) j) k = _
      rw [k2]
    | succ i ih =>
      intro hi j hj k hk h5
      have I := H i (by omega)
      have ih := ih (by omega) j hj k hk h5
      rw [xit_last]
      generalize xit (fun i s => g_moveHeld s 2000 i B) i 0 (fkC σ b' B W) = s at I
      generalize xit (st169 σ x b' R B g w n) i 0 (kc0 σ b' R B g w n, 0) = p at I ih ⊢
      obtain ⟨q1, q2⟩ := hq i (by omega)
      have M := move_sim (b := 2000) (s := s) (s' := p.1) (by omega) hB6 q1 (by rw [I.rows _ (by omega)]; exact hqc i (by omega)) (by omega) q2 hW (by rw [I.rows _ (by omega)]; exact e3) I.he I.z
      have m2 : KP b' i B p.1 (mvM σ b' R B g w n i p.1) := M.2.1
      have e : (st169 σ x b' R B g w n i p).1 (b' + 2) = mvM σ b' R B g w n i p.1 (b' + 2) := by
        unfold st169
        split
        · exact u2_ne (by omega)
        · rfl
      rw [e, m2 j hj k h5 (by omega)]
      exact ih
  intro j hj k hk h5
  have e : g_Kclose σ x b' R B g w n (b' + 2) = (xit (st169 σ x b' R B g w n) R 0 (kc0 σ b' R B g w n, 0)).1 (b' + 2) := by
    rw [Kclose_eq, kcF_row (by omega)]
    rfl
  rw [e]
  exact D R (Nat.le_refl _) j hj k hk h5
def HZ (τ : XS9) : Prop := τ 5000 1 = 1 → ∀ j, j < mB τ → ∀ k, mR τ ≤ k → k < 5 → dgt (τ 7002 j) k = 0 ∧ dgt (τ (7500 + mg τ) j) k = 0
theorem HZ.off (h : ¬ τ 5000 1 = 1) : HZ τ := fun e => absurd e h
theorem HZ.init : HZ s0M := HZ.off (by decide)
theorem HZ.kept (h : HZ τ) (r : JR τ) (m : MK τ τ2) : HZ τ2 := fun e j hj k h1 h2 => by
  have M : ∀ q i, km q i → τ2 q i = τ q i := m
  have eg : mg τ2 = mg τ := congrArg cn (M _ _ (by unfold km; omega))
  have eB : mB τ2 = mB τ := congrArg cn (M _ _ (by unfold km; omega))
  have eR : mR τ2 = mR τ := congrArg cn (M _ _ (by unfold km; omega))
  rw [M _ _ (by unfold km; omega)] at e
  rw [eB] at hj
  rw [eR] at h1
  have := r.hg.2
  rw [eg, M _ _ (by unfold km; omega), M _ _ (by unfold km; omega)]
  exact h e j hj k h1 h2
theorem dgt_0 {k : Nat} : dgt 0 k = 0 := by
  unfold dgt
  show 0 / 6 ^ k % 6 = 0
  rw [Nat.zero_div]
theorem HZ.region (h : HZ τ) (r : JR τ) : HZ (g_Mregion τ x y v R) := by
  unfold g_Mregion
  (repeat' split) <;> first | exact h.kept r MK.s00 | skip
  rename_i h0 _
  refine HZ.off fun e => ?_
  rw [u2_ne (by decide), uR_ne (by omega), u2_oi (by decide), h0] at e
  exact absurd e (by decide)
theorem HZ.bidder {u : Int32} (h : HZ τ) (r : JR τ) : HZ (g_Mbidder τ x y v u B) := by
  unfold g_Mbidder
  (repeat' split) <;> first | exact h.kept r MK.s00 | skip
  rename_i h0 _
  refine HZ.off fun e => ?_
  rw [u2_ne (by decide), u2_ne (by omega), uR_ne (by omega), u2_oi (by decide), h0] at e
  exact absurd e (by decide)
theorem HZ.step (h : HZ τ) (r : JR τ) : HZ (g_Mstep τ x) := by
  unfold g_Mstep
  split
  · split
    · intro e j hj k h1 h2
      rw [u2_oi (by decide), u2_oi (by decide)] at e
      have e9 : ∀ q, q ≠ 5000 → u2 (u2 τ 5000 0 0) 5000 4 x q = τ q := fun q hq => by rw [u2_ne hq, u2_ne hq]
      have eg : mg (u2 (u2 τ 5000 0 0) 5000 4 x) = mg τ := by
        show cn (u2 (u2 τ 5000 0 0) 5000 4 x 7000 23) = _
        rw [e9 _ (by decide)]
      have eB : mB (u2 (u2 τ 5000 0 0) 5000 4 x) = mB τ := by
        show cn (u2 (u2 τ 5000 0 0) 5000 4 x 5002 900) = _
        rw [e9 _ (by decide)]
      have eR : mR (u2 (u2 τ 5000 0 0) 5000 4 x) = mR τ := by
        show cn (u2 (u2 τ 5000 0 0) 5000 4 x 5001 900) = _
        rw [e9 _ (by decide)]
      rw [eB] at hj
      rw [eR] at h1
      rw [eg, e9 _ (by decide), e9 _ (by omega)]
      exact h e j hj k h1 h2
    · exact h.kept r MK.s00
  · exact h.kept r MK.s00
theorem HZ.wish (h : HZ τ) (r : JR τ) (js : JS τ) : HZ (g_Mwish τ x y v (mR τ) (mB τ) (mg τ)) := by
  have hg2 := r.hg.2
  unfold g_Mwish
  split
  · split
    · rename_i hx hy
      split
      · rename_i hv
        split
        · rename_i hs
          split
          · exact h.kept r MK.s00
          · have hR5 := r.hR.2
            have hB6 := r.hB.2
            have hy2 := hy.2
            have hx2 := hx.2
            have kw := (js.1 hs).1
            intro e j hj k h1 h2
            have e9 : ∀ q, q < 7500 → q ≠ 5000 → u2 (u2 τ 5000 0 0) (7000 + 500 + mg τ) (cn x) (f_with (τ (7000 + 500 + mg τ) (cn x)) (cn y) v) q = τ q := fun q h1 h2 => by rw [u2_ne (by omega), u2_ne h2]
            have eg : mg (u2 (u2 τ 5000 0 0) (7000 + 500 + mg τ) (cn x) (f_with (τ (7000 + 500 + mg τ) (cn x)) (cn y) v)) = mg τ := congrArg cn (congrFun (e9 7000 (by decide) (by decide)) 23)
            have eB : mB (u2 (u2 τ 5000 0 0) (7000 + 500 + mg τ) (cn x) (f_with (τ (7000 + 500 + mg τ) (cn x)) (cn y) v)) = mB τ := congrArg cn (congrFun (e9 5002 (by decide) (by decide)) 900)
            have eR : mR (u2 (u2 τ 5000 0 0) (7000 + 500 + mg τ) (cn x) (f_with (τ (7000 + 500 + mg τ) (cn x)) (cn y) v)) = mR τ := congrArg cn (congrFun (e9 5001 (by decide) (by decide)) 900)
            rw [eB] at hj
            rw [eR] at h1
            obtain ⟨a1, a2⟩ := h hs j hj k h1 h2
            rw [eg, e9 7002 (by decide) (by decide)]
            refine ⟨a1, ?_⟩
            by_cases ej : j = cn x
            · rw [show 7500 + mg τ = 7000 + 500 + mg τ by omega, ej, u2_at, with_ne (kw.2 (cn x) (by omega)) (by omega) (bd.bt hv (by decide) rfl (by decide)) h2 (by omega), ← ej]
              exact a2
            · rw [show 7500 + mg τ = 7000 + 500 + mg τ by omega, u2_oi ej, u2_ne (by omega)]
              exact a2
        · exact h.kept r MK.s00
      · exact h.kept r MK.s00
    · exact h.kept r MK.s00
  · exact h.kept r MK.s00
theorem HZ.waive (h : HZ τ) (r : JR τ) : HZ (g_Mwaive τ x (mB τ) (mg τ) (mw τ)) := by
  have hg2 := r.hg.2
  unfold g_Mwaive
  split
  · split
    · split
      · exact h.kept r MK.s00
      · split
        · have e9 : ∀ q, q ≠ 5000 → q ≠ 7004 → q ≠ 7000 + 700 + mw τ → u2 (u2 (u2 τ 5000 0 0) (7000 + 4) (cn x) ((τ (7000 + 4) (cn x)) - 1)) (7000 + 700 + mw τ) (cn x) 1 q = τ q := fun q h1 h2 h3 => by rw [u2_ne h3, u2_ne h2, u2_ne h1]
          intro e j hj k h1 h2
          have eg : mg (u2 (u2 (u2 τ 5000 0 0) (7000 + 4) (cn x) ((τ (7000 + 4) (cn x)) - 1)) (7000 + 700 + mw τ) (cn x) 1) = mg τ := congrArg cn (congrFun (e9 7000 (by decide) (by decide) (by omega)) 23)
          have eB : mB (u2 (u2 (u2 τ 5000 0 0) (7000 + 4) (cn x) ((τ (7000 + 4) (cn x)) - 1)) (7000 + 700 + mw τ) (cn x) 1) = mB τ := congrArg cn (congrFun (e9 5002 (by decide) (by decide) (by omega)) 900)
          have eR : mR (u2 (u2 (u2 τ 5000 0 0) (7000 + 4) (cn x) ((τ (7000 + 4) (cn x)) - 1)) (7000 + 700 + mw τ) (cn x) 1) = mR τ := congrArg cn (congrFun (e9 5001 (by decide) (by decide) (by omega)) 900)
          rw [u2_ne (by omega), u2_ne (by decide), u2_oi (by decide)] at e
          rw [eB] at hj
          rw [eR] at h1
          rw [eg, e9 7002 (by decide) (by decide) (by omega), e9 (7500 + mg τ) (by omega) (by omega) (by omega)]
          exact h e j hj k h1 h2
        · exact h.kept r MK.s00
    · exact h.kept r MK.s00
  · exact h.kept r MK.s00
theorem HZ.opn (h : HZ τ) (r : JR τ) : HZ (g_Mopen τ R B) := by
  unfold g_Mopen
  split
  · split
    · exact h.kept r MK.s00
    · split
      · exact h.kept r MK.s00
      · intro e j hj k h1 h2
        have eg : mg (u2 (g_Kinit (u2 (u2 τ 5000 0 0) 5000 1 1) 7000 R B) 7000 25 1) = 0 := by
          show cn (u2 (g_Kinit (u2 (u2 τ 5000 0 0) 5000 1 1) 7000 R B) 7000 25 1 7000 23) = 0
          rw [u2_oi (by decide), Kinit_o (by decide)]
          unfold g_clk0
          rw [if_pos rfl, if_neg (by decide), if_neg (by decide)]
          rfl
        rw [eg, u2_ne (by decide), u2_ne (by decide), Kinit_o (by decide), Kinit_o (by decide), clk0_z (by decide), clk0_z (by decide)]
        exact ⟨dgt_0, dgt_0⟩
  · exact h.kept r MK.s00
theorem HZ.settle {pk gr : Nat → Nat} {cd : Nat → Nat → Nat} {sp : Nat → Nat} (h : HZ τ) (r : JR τ) (hB6 : B ≤ 6) : HZ (g_Msettle τ x R B pk gr cd sp) := by
  unfold g_Msettle
  split
  · split
    · refine HZ.off fun e => ?_
      rw [MK.keep hB6 5000 1 (by unfold km; omega), u2_oi (by decide), u2_at] at e
      exact absurd e (by decide)
    · exact h.kept r MK.s00
  · exact h.kept r MK.s00
end
end
section
/-! ===== the market is kept: calls of the other kinds ===== -/
section
variable {τ τ2 σ σ2 : XS9} {R B C K g w : Nat} {gr cnt sp pk tn rg : Nat → Nat} {cd : Nat → Nat → Nat} {x y z v u : Int32}
theorem nkx {q i : Nat} (h : (q < 1020 ∧ q ≠ 1000 ∧ q ≠ 1003 ∧ q ≠ 1005) ∨ 1145 < q) : ¬ kx q i := fun k => by unfold kx at k; omega
theorem VX.region : VX σ (g_region σ x y z R) := by
  unfold g_region
  (repeat' split) <;> first | with_reducible exact VX.rfl' | (unfold g_addRegion; exact ((((VX.set (nkx (by omega))).trans (VX.set (nkx (by omega)))).trans (VX.set (nkx (by omega)))).trans (VX.set (nkx (by omega)))).trans (VX.rows fun q hq => fr_begin (by omega))) | exact VX.rfl'
theorem VX.bidder : VX σ (g_bidder σ x y z v B) := by
  unfold g_bidder
  (repeat' split) <;> first | with_reducible exact VX.rfl' | (unfold g_addBidder; exact (((((VX.set (nkx (by omega))).trans (VX.set (nkx (by omega)))).trans (VX.set (nkx (by omega)))).trans (VX.set (nkx (by omega)))).trans (VX.set (nkx (by omega)))).trans (VX.rows fun q hq => fr_begin (by omega))) | exact VX.rfl'
theorem VX.border : VX σ (g_border σ x y R) := by
  unfold g_border
  (repeat' split) <;> first | with_reducible exact VX.rfl' | (unfold g_addBorder; exact (VX.set (nkx (by omega))).trans (VX.set (nkx (by omega)))) | exact VX.rfl'
theorem VX.rules : VX σ (g_rules σ x y) := by
  unfold g_rules
  (repeat' split) <;> first | with_reducible exact VX.rfl' | exact (VX.set (nkx (by omega))).trans (VX.set (nkx (by omega))) | exact VX.rfl'
theorem VX.step : VX σ (g_step σ x) := by
  unfold g_step
  (repeat' split) <;> first | with_reducible exact VX.rfl' | exact VX.set (fun k => by unfold kx at k; omega) | exact VX.rfl'
theorem VX.opn : VX σ (g_open σ R B) := by
  unfold g_open
  (repeat' split) <;> first | with_reducible exact VX.rfl' | exact VX.set (fun k => by unfold kx at k; omega) | exact VX.rfl'
theorem VX.wish : VX σ (g_wish σ x y z R B) := by
  unfold g_wish
  (repeat' split) <;> first | with_reducible exact VX.rfl' | exact VX.set (nkx (by omega)) | exact VX.rfl'
theorem VX.waive : VX σ (g_waive σ x B) := by
  unfold g_waive g_useWaiver
  (repeat' split) <;> first | with_reducible exact VX.rfl' | exact (VX.set (nkx (by omega))).trans (VX.set (nkx (by omega))) | exact VX.rfl'
theorem VX.knock : VX σ (g_knock σ) := VX.set (fun k => by unfold kx at k; omega)
theorem VX.station : VX σ (g_station σ x y R C) := by
  unfold g_station
  (repeat' split) <;> first | with_reducible exact VX.rfl' | (unfold g_add; exact ((VX.set (nkx (by omega))).trans (VX.set (nkx (by omega)))).trans (VX.set (nkx (by omega)))) | exact VX.rfl'
theorem VX.ask : VX σ (g_ask σ x y C) := by
  unfold g_ask
  (repeat' split) <;> first | with_reducible exact VX.rfl' | exact VX.set (nkx (by omega)) | exact VX.rfl'
theorem VX.packs : VX σ (g_packs σ x y C rg) := by
  unfold g_packs
  (repeat' split) <;> first | with_reducible exact VX.rfl' | exact VX.rows (fun q hq => fr_packM (by omega)) | exact VX.rfl'
theorem VX.channel : VX σ (g_channel σ x y z C rg) := by
  unfold g_channel
  (repeat' split) <;> first | with_reducible exact VX.rfl' | exact VX.rows (fun q hq => fr_packM (by omega)) | exact VX.rfl'
theorem VX.clear : VX σ (g_clear σ x C rg) := by
  unfold g_clear
  (repeat' split) <;> first | with_reducible exact VX.rfl' | exact VX.rows (fun q hq => fr_cheapest (by omega)) | exact VX.rfl'
theorem VX.anew (hK60 : K ≤ 60) : VX σ (g_anew σ x y z v R B K) := by
  unfold g_anew
  (repeat' split) <;> first | with_reducible exact VX.rfl' | exact VX.rows (fun q hq => fr_runLog hK60 (by omega)) | exact VX.rfl'
theorem VX.isSound (hK60 : K ≤ 60) : VX σ (g_isSound σ R B w K) := VX.rows (fun q hq => fr_runLog hK60 (by omega))
theorem VX.digest (hK60 : K ≤ 60) : VX σ (g_digest σ K B R C w rg) := by
  unfold g_digest g_dgS
  split
  · exact ((VX.rows (fun q hq => fr_cheapest (by omega))).trans (VX.rows (fun q hq => fr_cheapest (by omega)))).trans (VX.isSound hK60)
  · exact VX.isSound hK60
/-! the reference -/
theorem nkX {q i : Nat} (h : q < 5000 ∨ 5036 ≤ q ∨ (q = 5000 ∧ i ≠ 1 ∧ i ≠ 2 ∧ i ≠ 5 ∧ i ≠ 7) ∨ q = 5003 ∨ q = 5004) : ¬ kX q i := fun k => by unfold kX at k; omega
theorem MX.step : MX τ (g_Mstep τ x) := by
  unfold g_Mstep
  (repeat' split) <;> first | with_reducible exact MX.s00 | exact MX.s0.trans (MX.set (nkX (by omega))) | exact MX.s00
theorem MX.wish : MX τ (g_Mwish τ x y v R B g) := by
  unfold g_Mwish
  (repeat' split) <;> first | with_reducible exact MX.s00 | exact MX.s0.trans (MX.set (nkX (by omega))) | exact MX.s00
theorem MX.waive : MX τ (g_Mwaive τ x B g w) := by
  unfold g_Mwaive
  (repeat' split) <;> first | with_reducible exact MX.s00 | exact (MX.s0.trans (MX.set (nkX (by omega)))).trans (MX.set (nkX (by omega))) | exact MX.s00
theorem MX.knock : MX τ (g_Mknock τ) := MX.s0.trans (MX.set (nkX (by omega)))
theorem MX.station : MX τ (g_Mstation τ x y R C) := by
  unfold g_Mstation g_addI
  (repeat' split) <;> first | with_reducible exact MX.s00 | exact (((MX.s0.trans (MX.set (nkX (by omega)))).trans (MX.set (nkX (by omega)))).trans (MX.set (nkX (by omega)))).trans (MX.set (nkX (by omega))) | exact MX.s00
theorem MX.ask : MX τ (g_Mask τ x y C) := by
  unfold g_Mask g_setS
  (repeat' split) <;> first | with_reducible exact MX.s00 | exact (MX.s0.trans (MX.set (nkX (by omega)))).trans (MX.set (nkX (by omega))) | exact MX.s00
theorem MX.cinit : MX τ (u2 (g_Cinit τ R B pk gr cd) 9000 20 0) := MX.hi fun q hq => by rw [u2_ne (by omega), fr_Cinit (by omega)]
theorem MX.cpay {y : Nat} (hB6 : B ≤ 6) : MX τ (u2 (u2 (g_Cpay (g_Cinit τ R B pk gr cd) y 20000 B) 9000 20 0) 20000 20 0) := MX.hi fun q hq => by rw [u2_ne (by omega), u2_ne (by omega), fr_Cpay ⟨by omega, hB6⟩, fr_Cinit (by omega)]
theorem MX.packs : MX τ (g_Mpacks τ x y R C rg) := by
  unfold g_Mpacks
  split
  · split
    · rename_i hy
      have hc := cn6 hy
      exact MX.s0.trans (MX.hi fun q hq => by rw [u2_ne (by omega), fr_Mcp ⟨by omega, hc⟩, uR_ne (by omega)])
    · exact MX.s0
  · exact MX.s0
theorem MX.clear : MX τ (g_Mclear τ x R C rg) := by
  unfold g_Mclear
  split
  · rename_i hy
    exact MX.s0.trans (MX.hi fun q hq => fr_MclearNow ⟨by omega, cn6 hy⟩)
  · exact MX.s00
theorem MX.channel : MX τ (g_Mchannel τ x y v R C rg) := by
  rcases chan_mem (τ := τ) (x := x) (y := y) (v := v) (R := R) (C := C) (rg := rg) with ⟨t, e⟩ | ⟨e1, e2⟩
  · rw [e]
    exact MX.s00
  · exact MX.s0.trans (MX.hi fun q hq => e1 q (by omega))
/-! before the packages: who tells regions, borders, bidders, rules, and the opening -/
theorem RM.low (h : RM τ σ) (hs : τ 5000 1 ≤ 1) (hs2 : τ2 5000 1 ≤ 1) (hB : mB τ2 ≤ 6) (c : VX σ σ2) (hc : bd 5 (τ2 5000 2)) (hd : τ2 5000 5 = τ 5000 5) (ho : ∀ j, j < 6 → τ2 (5020 + j) 4 = 0) (hp : ∀ j, j < 6 → pkB τ2 j = 0) : RM τ2 σ2 := by
  have cc : ∀ q i, kx q i → σ2 q i = σ q i := c
  have n3 : ∀ {t : XS9}, t 5000 1 ≤ 1 → ¬ t 5000 1 = 3 := fun q e => by
    rw [e] at q
    exact absurd q (by decide)
  obtain ⟨⟨⟨a1, a2, a3⟩, ⟨b1, b2⟩, b3⟩, ⟨c1, c2, c3⟩, ⟨d1, d2⟩, d3⟩ := h.e hs
  obtain ⟨n1, n2⟩ := h.n0 (n3 hs)
  refine ⟨⟨⟨hc, fun j hj => ?_, fun j hj k hk => ?_⟩, by rw [cc _ _ (by unfold kx; omega), hd]; exact h.d⟩, fun _ => ?_, fun e => absurd hs2 e, fun _ => ⟨fun q hq b hb => by rw [cc _ _ (by unfold kx; omega)]; exact n1 q hq b hb, by rw [cc _ _ (by unfold kx; omega)]; exact n2⟩, fun e => absurd e (n3 hs2)⟩
  · rw [cc _ _ (by unfold kx; omega), h.k.n hj, d3 j hj, hp j hj]
  · have := hp j (by omega)
    unfold pkB at this
    rw [if_pos hj] at this
    omega
  · refine ⟨⟨⟨fun j hj => ?_, fun q hq => ?_, fun g hg q hq => ?_⟩, ⟨?_, fun S h1 h2 => ?_⟩, fun S hS j hj => ?_⟩, ⟨fun j hj => ?_, fun S hS => ?_, fun w hw j hj => ?_⟩, ⟨?_, ho⟩, hp⟩
    · rw [cc _ _ (by unfold kx; omega)]; exact a1 j hj
    · rw [cc _ _ (by unfold kx; omega)]; exact a2 q hq
    · rw [cc _ _ (by unfold kx; omega)]; exact a3 g hg q hq
    · rw [cc _ _ (by unfold kx; omega)]; exact b1
    · rw [cc _ _ (by unfold kx; omega)]; exact b2 S h1 h2
    · rw [cc _ _ (by unfold kx; omega)]; exact b3 S hS j hj
    · rw [cc _ _ (by unfold kx; omega)]; exact c1 j hj
    · rw [cc _ _ (by unfold kx; omega)]; exact c2 S hS
    · rw [cc _ _ (by unfold kx; omega)]; exact c3 w hw j hj
    · rw [cc _ _ (by unfold kx; omega)]; exact d1
theorem RM.lowP (h : RM τ σ) (hs : τ 5000 1 ≤ 1) (hB : ∀ j, j < 6 → j < mB τ2 → j < mB τ ∨ mpk τ2 j = 0) (hr : ∀ j, j < 6 → j < mB τ → τ2 (5030 + j) 900 = τ (5030 + j) 900) : ∀ j, j < 6 → pkB τ2 j = 0 := fun j hj => by
  unfold pkB
  split
  · rename_i l
    rcases hB j hj l with l2 | l2
    · have := (h.e hs).2.2.2 j hj
      unfold pkB at this
      rw [if_pos l2] at this
      show cn (τ2 (5030 + j) 900) / 2 = 0
      rw [hr j hj l2]
      exact this
    · exact l2
  · rfl
theorem st0 (e : τ 5000 1 = 0) : τ 5000 1 ≤ 1 := by rw [e]; decide
theorem RM.region (h : RM τ σ) (r : JR τ) (hst : σ 1000 7 = τ 5000 1) (hR5 : R ≤ 5) : RM (g_Mregion τ x y v R) (g_region σ x y v R) := by
  have go : ∀ t : XS9, (∀ q, q ≠ 5000 → q ≠ 5001 → (q < 5010 ∨ 5014 < q) → t q = τ q) → t 5000 1 = τ 5000 1 → t 5000 2 = τ 5000 2 → t 5000 5 = τ 5000 5 → τ 5000 1 = 0 → RM t (g_region σ x y v R) := fun t e e1 e2 e5 e0 =>
    h.low (st0 e0) (by rw [e1, e0]; decide) (by show cn (t 5002 900) ≤ 6; rw [e _ (by decide) (by decide) (by decide)]; exact r.hB.2) VX.region (by rw [e2]; exact h.k.1) e5 (fun j hj => by rw [e _ (by omega) (by omega) (by omega)]; exact (h.e (st0 e0)).2.2.1.2 j hj) (h.lowP (st0 e0) (fun j hj l => .inl (by
      have : mB t = mB τ := by
        show cn (t 5002 900) = _
        rw [e _ (by decide) (by decide) (by decide)]
      rw [this] at l
      exact l)) (fun j hj _ => by rw [e _ (by omega) (by omega) (by omega)]))
  unfold g_Mregion
  (repeat' split) <;> first | exact h.kept r MX.s00 VX.region | skip
  rename_i h0 hn
  have h5 : R < 5 := Nat.lt_of_le_of_ne hR5 (fun q => hn (by rw [q]; rfl))
  refine go _ (fun q h1 h2 h3 => by rw [u2_ne h2, uR_ne (show q ≠ 5010 + R by omega), u2_ne h1]) ?_ ?_ ?_ h0
  · rw [u2_ne (by decide), uR_ne (by omega), u2_oi (by decide)]
  · rw [u2_ne (by decide), uR_ne (by omega), u2_oi (by decide)]
  · rw [u2_ne (by decide), uR_ne (by omega), u2_oi (by decide)]
theorem RM.bidder (h : RM τ σ) (r : JR τ) (hB6 : B ≤ 6) (eB : mB τ = B) : RM (g_Mbidder τ x y v u B) (g_bidder σ x y v u B) := by
  have go : ∀ f : Nat → Int32, f 4 = 0 → τ 5000 1 = 0 → B < 6 → RM (u2 (u2 (uR (u2 τ 5000 0 0) (5020 + B) f) (5030 + B) 900 0) 5002 900 (nI (B + 1))) (g_bidder σ x y v u B) := fun f f4 h0 hB5 => by
    have e : ∀ q, q ≠ 5000 → q ≠ 5002 → q ≠ 5020 + B → q ≠ 5030 + B → u2 (u2 (uR (u2 τ 5000 0 0) (5020 + B) f) (5030 + B) 900 0) 5002 900 (nI (B + 1)) q = τ q := fun q h1 h2 h3 h4 => by rw [u2_ne h2, u2_ne h4, uR_ne h3, u2_ne h1]
    have e5 : ∀ i, i ≠ 0 → u2 (u2 (uR (u2 τ 5000 0 0) (5020 + B) f) (5030 + B) 900 0) 5002 900 (nI (B + 1)) 5000 i = τ 5000 i := fun i hi => by rw [u2_ne (by decide), u2_ne (by omega), uR_ne (by omega), u2_oi hi]
    have eN : mB (u2 (u2 (uR (u2 τ 5000 0 0) (5020 + B) f) (5030 + B) 900 0) 5002 900 (nI (B + 1))) = B + 1 := by
      show cn (u2 _ 5002 900 (nI (B + 1)) 5002 900) = _
      rw [u2_at, cn_nI (by omega)]
    refine h.low (st0 h0) (by rw [e5 1 (by decide), h0]; decide) (by rw [eN]; omega) VX.bidder (by rw [e5 2 (by decide)]; exact h.k.1) (e5 5 (by decide)) (fun j hj => ?_) (h.lowP (st0 h0) (fun j hj l => ?_) (fun j hj l => ?_))
    · by_cases ej : j = B
      · rw [ej, u2_ne (by omega), u2_ne (by omega), uR_eq]
        exact f4
      · rw [e _ (by omega) (by omega) (by omega) (by omega)]
        exact (h.e (st0 h0)).2.2.1.2 j hj
    · rw [eN] at l
      by_cases ej : j = B
      · refine .inr ?_
        show cn (u2 _ 5002 900 (nI (B + 1)) (5030 + j) 900) / 2 = 0
        rw [u2_ne (by omega), ej, u2_at]
        rfl
      · exact .inl (by omega)
    · rw [e _ (by omega) (by omega) (by omega) (by omega)]
  unfold g_Mbidder
  (repeat' split) <;> first | exact h.kept r MX.s00 VX.bidder | skip
  rename_i h0 hn
  exact go _ rfl h0 (Nat.lt_of_le_of_ne hB6 (fun q => hn (by rw [q]; rfl)))
theorem RM.border (h : RM τ σ) (r : JR τ) (hR5 : R ≤ 5) : RM (g_Mborder τ x y R) (g_border σ x y R) := by
  unfold g_Mborder
  split
  · rename_i hx
    have hx2 := hx.2
    split
    · rename_i hy
      have hy2 := hy.2
      split
      · exact h.kept r MX.s00 VX.border
      · split
        · rename_i h0
          refine h.low (st0 h0) ?_ ?_ VX.border ?_ ?_ (fun j hj => ?_) (h.lowP (st0 h0) (fun j hj l => .inl ?_) (fun j hj l => ?_))
          · rw [u2_ne (by omega), u2_ne (by omega), u2_oi (by decide), h0]
            decide
          · show cn (u2 _ _ _ _ 5002 900) ≤ 6
            rw [u2_ne (by omega), u2_ne (by omega), u2_ne (by decide)]
            exact r.hB.2
          · rw [u2_ne (by omega), u2_ne (by omega), u2_oi (by decide)]
            exact h.k.1
          · rw [u2_ne (by omega), u2_ne (by omega), u2_oi (by decide)]
          · rw [u2_ne (by omega), u2_ne (by omega), u2_ne (by omega)]
            exact (h.e (st0 h0)).2.2.1.2 j hj
          · have l : j < cn (u2 _ _ _ _ 5002 900) := l
            rw [u2_ne (by omega), u2_ne (by omega), u2_ne (by decide)] at l
            exact l
          · rw [u2_ne (by omega), u2_ne (by omega), u2_ne (by omega)]
        · exact h.kept r MX.s00 VX.border
    · exact h.kept r MX.s00 VX.border
  · exact h.kept r MX.s00 VX.border
theorem RM.rules (h : RM τ σ) (r : JR τ) : RM (g_Mrules τ x y) (g_rules σ x y) := by
  unfold g_Mrules
  split
  · rename_i hx
    split
    · rename_i h0
      have e : ∀ q, q ≠ 5000 → u2 (u2 (u2 τ 5000 0 0) 5000 2 x) 5000 3 y q = τ q := fun q hq => by rw [u2_ne hq, u2_ne hq, u2_ne hq]
      refine h.low (st0 h0) ?_ ?_ VX.rules ?_ ?_ (fun j hj => ?_) (h.lowP (st0 h0) (fun j hj l => .inl ?_) (fun j hj l => ?_))
      · rw [u2_oi (by decide), u2_oi (by decide), u2_oi (by decide), h0]
        decide
      · show cn (u2 _ _ _ _ 5002 900) ≤ 6
        rw [e _ (by decide)]
        exact r.hB.2
      · rw [u2_oi (by decide), u2_at]
        exact bd.bt hx (by decide) rfl (by decide)
      · rw [u2_oi (by decide), u2_oi (by decide), u2_oi (by decide)]
      · rw [e _ (by omega)]
        exact (h.e (st0 h0)).2.2.1.2 j hj
      · have l : j < cn (u2 _ _ _ _ 5002 900) := l
        rw [e _ (by decide)] at l
        exact l
      · rw [e _ (by omega)]
    · exact h.kept r MX.s00 VX.rules
  · exact h.kept r MX.s00 VX.rules
theorem RM.opn (h : RM τ σ) (r : JR τ) (hR5 : R ≤ 5) (hB6 : B ≤ 6) : RM (g_Mopen τ R B) (g_open σ R B) := by
  unfold g_Mopen
  split
  · rename_i h0
    split
    · exact h.kept r MX.s00 VX.opn
    · split
      · exact h.kept r MX.s00 VX.opn
      · have e : ∀ q, q ≠ 5000 → q < 7000 → u2 (g_Kinit (u2 (u2 τ 5000 0 0) 5000 1 1) 7000 R B) 7000 25 1 q = τ q := fun q h1 h2 => by
          rw [u2_ne (by omega), Kinit_o (by omega)]
          unfold g_clk0
          rw [if_neg (by omega), if_neg (by omega), u2_ne h1, u2_ne h1]
        have e5 : ∀ i, i ≠ 0 → i ≠ 1 → u2 (g_Kinit (u2 (u2 τ 5000 0 0) 5000 1 1) 7000 R B) 7000 25 1 5000 i = τ 5000 i := fun i h1 h2 => by
          rw [u2_ne (by omega), Kinit_o (by omega)]
          unfold g_clk0
          rw [if_neg (by omega), if_neg (by omega), u2_oi h2, u2_oi h1]
        refine h.low (st0 h0) ?_ ?_ VX.opn ?_ ?_ (fun j hj => ?_) (h.lowP (st0 h0) (fun j hj l => .inl ?_) (fun j hj l => ?_))
        · rw [u2_ne (by omega), Kinit_o (by omega)]
          unfold g_clk0
          rw [if_neg (by omega), if_neg (by omega), u2_at]
          decide
        · show cn (u2 _ _ _ _ 5002 900) ≤ 6
          rw [e _ (by decide) (by decide)]
          exact r.hB.2
        · rw [e5 2 (by decide) (by decide)]
          exact h.k.1
        · exact e5 5 (by decide) (by decide)
        · rw [e _ (by omega) (by omega)]
          exact (h.e (st0 h0)).2.2.1.2 j hj
        · have l : j < cn (u2 _ _ _ _ 5002 900) := l
          rw [e _ (by decide) (by decide)] at l
          exact l
        · rw [e _ (by omega) (by omega)]
  · exact h.kept r MX.s00 VX.opn
theorem RM.init : RM s0M s0C := by
  have z : ∀ q i, (q < 1040 ∨ q = 1041 ∨ q = 1044 ∨ (1114 < q ∧ q < 1141)) → q ≠ 1001 → q ≠ 1000 → s0C q i = 0 := fun q i h1 h2 h3 => by
    rw [s0C_z h2 (by omega) (by omega) h3]
    rfl
  have m1 : ∀ q i, ((1051 ≤ q ∧ q ≤ 1114) ∨ q = 1043 ∨ q = 1040 ∨ (1141 ≤ q ∧ q ≤ 1145)) → s0C q i = -1 := fun q i h => by
    unfold s0C
    rw [if_neg (by omega), if_neg (by omega), if_pos h]
  have p0 : ∀ j, j < 6 → pkB s0M j = 0 := fun j _ => if_neg (Nat.not_lt_zero _)
  refine ⟨⟨⟨⟨rfl, by decide⟩, fun j hj => by rw [p0 j hj, z 1020 j (by omega) (by omega) (by omega)]; rfl, fun j hj => absurd hj (Nat.not_lt_zero _)⟩, ?_⟩, fun _ => ⟨⟨⟨fun j hj => m1 _ _ (by omega), fun r hr => z _ _ (by omega) (by omega) (by omega), fun g hg r hr => z _ _ (by omega) (by omega) (by omega)⟩, ⟨?_, fun S h1 h2 => ?_⟩, fun S hS j hj => m1 _ _ (by omega)⟩, ⟨fun j hj => m1 _ _ (by omega), fun S hS => z _ _ (by omega) (by omega) (by omega), fun w hw j hj => z _ _ (by omega) (by omega) (by omega)⟩, ⟨z _ _ (by omega) (by omega) (by omega), fun j hj => s0M_50 (by omega)⟩, p0⟩, fun e => absurd (show s0M 5000 1 ≤ 1 by decide) e, fun _ => ⟨fun r hr b hb => m1 _ _ (by omega), z _ _ (by omega) (by omega) (by omega)⟩, fun e => absurd e (by decide)⟩
  · decide
  · decide
  · unfold s0C
    rw [if_neg (by decide), if_pos rfl, if_neg (by omega)]
end
end
section
/-! ===== the market and the clock's closes ===== -/
section
variable {τ σ t s : XS9} {R B : Nat} {gr : Nat → Nat} {x : Int32}
theorem not01 {v : Int32} (h : v = 2 ∨ v = 3) : ¬ v ≤ 1 := fun q => by
  rcases h with h | h <;> (rw [h] at q; exact absurd q (by decide))
/-- the clock is over: the packages, the winners, the payments -/
theorem RM.over (h : RM τ σ) (hs : τ 5000 1 = 1) (hs2 : t 5000 1 = 2) (m : ∀ q i, kX q i → ¬ (q = 5000 ∧ i = 1) → t q i = τ q i) (c : VX σ s) (r : JR τ) (p : JP τ) (a : RA τ σ) (hcap : TA t s) (hgr : ∀ j, j < 6 → gr j = mgr τ j ∧ gr j < 4) {K : Nat} (hK : K < 60) {pk : Nat → Nat} {cc am : Nat → Int32} (hpk : ∀ j, j < mB τ → mpk τ j = 0 ∧ pk j = 0) (hc : ∀ j, j < mB τ → s 2002 j = cc j ∧ bd 7775 (cc j) ∧ cn (cc j) < 6 ^ mR τ ∧ bd 300000 (am j) ∧ f_lastValue s 2000 (cc j) K = am j) : RM (xit (stAm pk cc am) (mB τ) 0 t) (g_find (xit (stEc (mR τ) (mB τ) K gr) (mB τ) 0 s)) := by
  have hB6 := r.hB.2
  have hR5 := r.hR.2
  have st : τ 5000 1 ≤ 1 := by rw [hs]; decide
  have eR : mR t = mR τ := congrArg cn (m _ _ (by unfold kX; omega) (by omega))
  have eB : mB t = mB τ := congrArg cn (m _ _ (by unfold kX; omega) (by omega))
  have ep : ∀ j, j < 6 → mpk t j = mpk τ j := fun j hj => by
    show cn (t (5030 + j) 900) / 2 = _
    rw [m _ _ (by unfold kX; omega) (by omega)]
  have eg : ∀ j, j < 6 → mgr t j = mgr τ j := fun j hj => by
    show cn (t (5020 + j) 3) = _
    rw [m _ _ (by unfold kX; omega) (by omega)]
  have kx' : ∀ q i, kx q i → s q i = σ q i := c
  have E := h.e st
  have pB : ∀ j, j < 6 → pkB t j = 0 := fun j hj => by
    have := E.2.2.2 j hj
    unfold pkB at this ⊢
    rw [eB, ep j hj]
    exact this
  -- the empty market at t and s
  have E2 : EMP t s := by
    obtain ⟨⟨⟨a1, a2, a3⟩, ⟨b1, b2⟩, b3⟩, ⟨c1, c2, c3⟩, ⟨d1, d2⟩, d3⟩ := E
    refine ⟨⟨⟨fun j hj => ?_, fun q hq => ?_, fun g hg q hq => ?_⟩, ⟨?_, fun S h1 h2 => ?_⟩, fun S hS j hj => ?_⟩, ⟨fun j hj => ?_, fun S hS => ?_, fun w hw j hj => ?_⟩, ⟨?_, fun j hj => ?_⟩, pB⟩
    · rw [kx' _ _ (by unfold kx; omega)]; exact a1 j hj
    · rw [kx' _ _ (by unfold kx; omega)]; exact a2 q hq
    · rw [kx' _ _ (by unfold kx; omega)]; exact a3 g hg q hq
    · rw [kx' _ _ (by unfold kx; omega)]; exact b1
    · rw [kx' _ _ (by unfold kx; omega)]; exact b2 S h1 h2
    · rw [kx' _ _ (by unfold kx; omega)]; exact b3 S hS j hj
    · rw [kx' _ _ (by unfold kx; omega)]; exact c1 j hj
    · rw [kx' _ _ (by unfold kx; omega)]; exact c2 S hS
    · rw [kx' _ _ (by unfold kx; omega)]; exact c3 w hw j hj
    · rw [kx' _ _ (by unfold kx; omega)]; exact d1
    · rw [m _ _ (by unfold kX; omega) (by omega)]; exact d2 j hj
  obtain ⟨M0, W0⟩ := E2.mk
  have K0 : RK t s := ⟨by rw [m _ _ (by unfold kX; omega) (by omega)]; exact h.k.1, fun j hj => by rw [kx' _ _ (by unfold kx; omega), h.k.n hj, pB j hj]; exact congrArg nI (E.2.2.2 j hj), fun j hj k hk => by
    rw [eB] at hj
    rw [ep j (by omega), (hpk j hj).1] at hk
    omega⟩
  have F0 : TKF t := (TKF.mk r h.k p).of fun q i hk => m q i (by unfold kt at hk; unfold kX; omega) (by unfold kt at hk; omega)
  have L := add_loop (gr := gr) (pk := pk) (c := cc) (am := am) hcap F0 K0 M0 W0 (fun j hj => by rw [eg j hj]; exact hgr j hj) hK (fun j hj => by
    rw [eB] at hj
    rw [ep j (by omega)]
    exact hpk j hj) (fun j hj => by
    rw [eB] at hj
    rw [eR]
    exact hc j hj)
  rw [eR, eB] at L
  generalize xit (stEc (mR τ) (mB τ) K gr) (mB τ) 0 s = s2 at L ⊢
  generalize xit (stAm pk cc am) (mB τ) 0 t = t2 at L ⊢
  obtain ⟨⟨k2, m2, w2⟩, ⟨F2, a2⟩, f1, f2⟩ := L
  have ff : ∀ q, (q < 1131 ∨ 1133 < q) → g_find s2 q = s2 q := fun q hq => fr_find ⟨by omega, by omega, by omega⟩
  have e2 : t2 5000 1 = 2 := by rw [f2 _ (by decide)]; exact hs2
  have P2 := PCx.mk a2 F2 k2
  have eR2 : mR t2 = mR t := by
    show cn (t2 5001 900) = _
    rw [f2 _ (by decide)]
  have sameX : (∀ d, Xm t2 d ↔ Xm t2 d) ∧ ∀ d, cAm (Am t2) d = cAm (Am t2) d := ⟨fun _ => Iff.rfl, fun _ => rfl⟩
  obtain ⟨n1, n2⟩ := h.n0 (by rw [hs]; decide)
  refine ⟨⟨⟨k2.1, fun j hj => by rw [ff _ (by omega)]; exact k2.2.1 j hj, fun j hj k hk => ?_⟩, ?_⟩, fun e => absurd e (not01 (.inl e2)), fun _ => ⟨m2.of sameX (fun _ _ => rfl) fun q i hq => by rw [ff _ (by omega)], w2.of sameX fun q i hq => by rw [ff _ (by omega)], PYQ.found w2 P2 F2.p6⟩, fun _ => ⟨fun q hq b hb => ?_, ?_⟩, fun e => absurd (e2.symm.trans e) (by decide)⟩
  · have := F2.1.2
    rw [ff _ (by omega), ff _ (by omega)]
    exact k2.2.2 j hj k hk
  · rw [ff _ (by omega), f1 _ (by decide), f2 _ (by decide), kx' _ _ (by unfold kx; omega), m _ _ (by unfold kX; omega) (by omega)]
    exact h.d
  · rw [ff _ (by omega), f1 _ (by omega), kx' _ _ (by unfold kx; omega)]
    exact n1 q hq b hb
  · rw [ff _ (by omega), f1 _ (by decide), kx' _ _ (by unfold kx; omega)]
    exact n2
/-- one close on both sides -/
theorem RM.clo (h : RM τ σ) (P : PCl (mR τ) (mB τ) τ σ) (hz : HZ τ) (hs : τ 5000 1 = 1) (hgr : ∀ j, j < 6 → gr j = mgr τ j ∧ gr j < 4) : RM (g_clo τ) (if f_closeRound σ 2000 (σ 1000 8) (mB τ) (mR τ) (cn (σ 2000 9)) = 0 then g_closeRound σ 2000 (σ 1000 8) (mB τ) (mR τ) (cn (σ 2000 9)) else g_endClock (g_closeRound σ 2000 (σ 1000 8) (mB τ) (mR τ) (cn (σ 2000 9))) (mR τ) (mB τ) (min (cn (σ 2000 9)) 59) gr) ∧ HZ (g_clo τ) := by
  obtain ⟨⟨rc, a, z⟩, ⟨jc, kb⟩, ⟨r, js, jp⟩, _, _⟩ := P
  obtain ⟨kw, zo9, e1, e2, e3, g9⟩ := js.1 hs
  have hB6 := r.hB.2
  have hR5 := r.hR.2
  have ek : cn (σ 2000 9) = mn τ := (congrArg cn rc.k).trans e3
  obtain ⟨A, F⟩ := RC.clo1 rc a z jc r js hs
  have cl : g_clo τ = g_McloseOne τ (mR τ) (mB τ) (mK τ) (mg τ) (mw τ) (mn τ) (mpk τ) := rfl
  rw [cl, ek, rc.stp, e3]
  have hpk0 : ∀ j, j < 6 → mpk τ j = 0 := js.2.1 (.inr hs)
  have cc := clo1_c (σ := τ) (R := mR τ) (B := mB τ) (K := mn τ) (g := mg τ) (w := mw τ) (n := mn τ) (by omega) (by omega) g9 g9
  have fr : ∀ q, (q < 5003 ∨ (5003 < q ∧ q < 5200) ∨ (8000 ≤ q)) → g_clo1 τ (mR τ) (mB τ) (mn τ) (mg τ) (mw τ) (mn τ) q = τ q := fun q hq => fr_clo1 (by omega) (by omega) g9 g9 (by omega)
  have f7 : ∀ q, 7000 ≤ q → q < 8000 → g_clo1 τ (mR τ) (mB τ) (mn τ) (mg τ) (mw τ) (mn τ) q = g_Kclose τ (τ 5000 4) 7000 (mR τ) (mB τ) (mg τ) (mw τ) (mn τ) q := fun q h1 h2 => by
    unfold g_clo1
    exact fr_rnd (by omega)
  have rp := rnd_p (σ := g_Kclose τ (τ 5000 4) 7000 (mR τ) (mB τ) (mg τ) (mw τ) (mn τ)) (K := mn τ) (t := τ 5000 4) (f1 := τ (7000 + 1)) (f2 := τ (7000 + 500 + mg τ)) (f3 := g_Kclose τ (τ 5000 4) 7000 (mR τ) (mB τ) (mg τ) (mw τ) (mn τ) (7000 + 2)) (f4 := τ (7000 + 700 + mw τ)) g9
  have m6000 : g_clo1 τ (mR τ) (mB τ) (mn τ) (mg τ) (mw τ) (mn τ) (6000 + mn τ) = τ 7001 := rp.1
  have m6200 : g_clo1 τ (mR τ) (mB τ) (mn τ) (mg τ) (mw τ) (mn τ) (6200 + mn τ) = g_Kclose τ (τ 5000 4) 7000 (mR τ) (mB τ) (mg τ) (mw τ) (mn τ) 7002 := rp.2.2.1
  have hi := Kclose_hi (σ := τ) (x := τ 5000 4) (b' := 7000) (R := mR τ) (B := mB τ) (g := mg τ) (w := mw τ) (n := mn τ) (q := msp τ) kw hR5 hB6 (by omega) g9 (by omega) (fun q hq => r.hsp q hq)
  have kw2 := kw.close (x := τ 5000 4) (w := mw τ) (n := mn τ) hR5 hB6 (by omega) (by omega) g9
  have zK : ∀ j, j < mB τ → ∀ k, mR τ ≤ k → k < 5 → dgt (g_Kclose τ (τ 5000 4) 7000 (mR τ) (mB τ) (mg τ) (mw τ) (mn τ) 7002 j) k = 0 := fun j hj k h1 h2 => (hi j hj k h1 h2).trans (hz hs j hj k h1 h2).1
  have st1 : g_clo1 τ (mR τ) (mB τ) (mn τ) (mg τ) (mw τ) (mn τ) 5000 1 = 1 := by
    rw [fr _ (by omega)]
    exact hs
  have mx : MX τ (g_clo1 τ (mR τ) (mB τ) (mn τ) (mg τ) (mw τ) (mn τ)) := fun q i hk => by rw [fr q (by unfold kX at hk; omega)]
  have vx : VX σ (g_closeRound σ 2000 (τ 5000 4) (mB τ) (mR τ) (mn τ)) := VX.rows fun q hq => fr_closeRound (by omega)
  have e7000 : g_Kclose τ (τ 5000 4) 7000 (mR τ) (mB τ) (mg τ) (mw τ) (mn τ) (7000 + 500 + (mg τ + 1)) = g_Kclose τ (τ 5000 4) 7000 (mR τ) (mB τ) (mg τ) (mw τ) (mn τ) (7000 + 2) := by
    rw [Kclose_eq, kcF_wish (by omega) g9, kcF_row (by omega)]
  have hz1 : HZ (g_clo1 τ (mR τ) (mB τ) (mn τ) (mg τ) (mw τ) (mn τ)) := fun _ j hj k h1 h2 => by
    rw [mx.B] at hj
    rw [mx.R] at h1
    have eg : mg (g_clo1 τ (mR τ) (mB τ) (mn τ) (mg τ) (mw τ) (mn τ)) = mg τ + 1 := (congrArg cn cc.2.2.2.2.1).trans (cn_nI (by omega))
    rw [eg, f7 7002 (by decide) (by decide), f7 (7500 + (mg τ + 1)) (by omega) (by omega)]
    refine ⟨zK j hj k h1 h2, ?_⟩
    have e9 : g_Kclose τ (τ 5000 4) 7000 (mR τ) (mB τ) (mg τ) (mw τ) (mn τ) (7500 + (mg τ + 1)) = g_Kclose τ (τ 5000 4) 7000 (mR τ) (mB τ) (mg τ) (mw τ) (mn τ) 7002 := e7000
    rw [e9]
    exact zK j hj k h1 h2
  unfold g_McloseOne
  rw [← F]
  by_cases c : f_closeRound σ 2000 (τ 5000 4) (mB τ) (mR τ) (mn τ) = 0
  · rw [if_pos c, if_pos c]
    exact ⟨h.kept r mx vx, hz1⟩
  · rw [if_neg c, if_neg c]
    have Q := A.on1 st1
    rw [mx.R, mx.B] at Q
    have ent : mn (g_clo1 τ (mR τ) (mB τ) (mn τ) (mg τ) (mw τ) (mn τ)) = mn τ + 1 := (congrArg cn cc.2.2.1).trans (cn_nI (by omega))
    rw [ent] at Q
    have h59 : min (mn τ) 59 = mn τ := by omega
    rw [h59]
    have held : ∀ j, j < mB τ → g_closeRound σ 2000 (τ 5000 4) (mB τ) (mR τ) (mn τ) 2002 j = g_clo1 τ (mR τ) (mB τ) (mn τ) (mg τ) (mw τ) (mn τ) (6200 + mn τ) j ∧ bd 7775 (g_clo1 τ (mR τ) (mB τ) (mn τ) (mg τ) (mw τ) (mn τ) (6200 + mn τ) j) := fun j hj => by
      have q1 := Q.he j hj
      rw [m6200]
      have q2 : g_clo1 τ (mR τ) (mB τ) (mn τ) (mg τ) (mw τ) (mn τ) (7000 + 2) = g_Kclose τ (τ 5000 4) 7000 (mR τ) (mB τ) (mg τ) (mw τ) (mn τ) 7002 := f7 7002 (by decide) (by decide)
      rw [q2] at q1
      exact q1
    have lp := Q.lp (mn τ) (by omega)
    have lp2 : ∀ q, q < mR τ → g_closeRound σ 2000 (τ 5000 4) (mB τ) (mR τ) (mn τ) (2000 + 101 + mn τ) q = g_clo1 τ (mR τ) (mB τ) (mn τ) (mg τ) (mw τ) (mn τ) (6000 + mn τ) q := fun q hq => by
      have h60 : nI (mn τ) < 60 := (nI_ltI (a := mn τ) (b := 60) (by omega) (by omega)).mpr g9
      rw [m6000, show g_closeRound σ 2000 (τ 5000 4) (mB τ) (mR τ) (mn τ) (2000 + 101 + mn τ) q = σ 2001 q from cR_p (b := 2000) h60 g9 (by omega)]
      exact (rc.on1 hs).p q hq
    have ov := RM.over (t := u2 (g_clo1 τ (mR τ) (mB τ) (mn τ) (mg τ) (mw τ) (mn τ)) 5000 1 2) (s := u2 (g_closeRound σ 2000 (τ 5000 4) (mB τ) (mR τ) (mn τ)) 1000 7 2) (gr := gr) (K := mn τ) (pk := mpk τ) (cc := g_clo1 τ (mR τ) (mB τ) (mn τ) (mg τ) (mw τ) (mn τ) (6200 + mn τ)) (am := fun i => xit (fun i138 (s138 : Int32) => s138 + ((f_of (g_clo1 τ (mR τ) (mB τ) (mn τ) (mg τ) (mw τ) (mn τ) (6200 + mn τ) i) i138) * (g_clo1 τ (mR τ) (mB τ) (mn τ) (mg τ) (mw τ) (mn τ) (6000 + mn τ) i138))) (mR τ) 0 0) h hs u2_at (fun q i hk hn => by
      rw [u2_o (fun a b => hn ⟨a, b⟩)]
      exact mx q i hk) (vx.trans (VX.set (fun k => by unfold kx at k; omega))) r jp a ⟨by
      rw [u2_ne (by decide), u2_oi (by decide), fr_closeRound (by omega), fr _ (by omega)]
      exact a.1.2.1, fun q hq => by
      rw [u2_ne (by decide), u2_ne (by omega), fr_closeRound (by omega), fr _ (by omega)]
      exact (a.2.1 q hq).1⟩ hgr g9 (fun j hj => ⟨hpk0 j (by omega), hpk0 j (by omega)⟩) (fun j hj => by
      obtain ⟨q1, q2⟩ := held j hj
      refine ⟨by rw [u2_ne (by decide)]; exact q1, q2, code_lt q2 hR5 (fun k h1 h2 => by rw [m6200]; exact zK j hj k h1 h2), last_bd q2 hR5 (fun q hq => by rw [m6000]; exact jp.2.2.2.1 hs q (by omega)), ?_⟩
      unfold f_lastValue
      rw [u2_ne (by omega)]
      exact last_eq q2 hR5 lp2 (fun q h1 h2 => lp.2 q h1 h2))
    refine ⟨ov, HZ.off fun e => ?_⟩
    have e5 : x_McloseOne_122 τ (mR τ) (mB τ) (mn τ) (mg τ) (mw τ) (mn τ) (mpk τ) (u2 (g_clo1 τ (mR τ) (mB τ) (mn τ) (mg τ) (mw τ) (mn τ)) 5000 1 2) 5000 1 = 2 := by
      rw [MK.over hB6 5000 1 (by unfold km; omega)]
      exact u2_at
    rw [e5] at e
    exact absurd e (by decide)
theorem close_loop2 (hgr : ∀ τ' : XS9, MA τ τ' → ∀ j, j < 6 → gr j = mgr τ' j ∧ gr j < 4) (R B : Nat) : ∀ (f i : Nat) (τ' σ : XS9), MA τ τ' → PCl R B τ' σ → RM τ' σ → HZ τ' → RM (xitB stMc f i τ') (xitB (stCl R B gr) f i σ) ∧ HZ (xitB stMc f i τ')
  | 0, _, _, _, _, _, h, z => ⟨h, z⟩
  | f + 1, i, τ', σ, ma, P, h, z => by
    have P0 := P
    obtain ⟨⟨rc, a, z9⟩, ⟨jc, kb⟩, ⟨r, js, jp⟩, eR, eB⟩ := P0
    by_cases hs : τ' 5000 1 = 1
    · have hc : σ 1000 7 = 1 := rc.st.trans hs
      have hg : ∀ j, j < 6 → gr j < 4 := fun j hj => (hgr τ' ma j hj).2
      have X := rc.clo a z9 jc r js hs hg
      have Y := h.clo (by rw [eR, eB]; exact P) z hs (hgr τ' ma)
      have hR5 := r.hR.2
      have hB6 := r.hB.2
      rw [eR] at hR5
      rw [eB] at hB6
      rw [eR, eB] at X Y
      have h60 := jc.hK.2
      have C1 : JC (g_closeRound σ 2000 (σ 1000 8) B R (cn (σ 2000 9))) ∧ KB (g_closeRound σ 2000 (σ 1000 8) B R (cn (σ 2000 9))) := ⟨jc.closeRound, kb.closeRound kb.2.2.2.2.2 hR5 hB6 h60⟩
      have C2 : VA σ (g_closeRound σ 2000 (σ 1000 8) B R (cn (σ 2000 9))) := VA.rows fun q hq => fr_closeRound (by omega)
      have ma2 : MA τ (g_clo τ') := ma.trans (MA.clo r js hs)
      rw [xitB_l (show stMc i τ' = .inl (g_clo τ') from if_pos hs)]
      by_cases c : f_closeRound σ 2000 (σ 1000 8) B R (cn (σ 2000 9)) = 0
      · rw [if_pos c] at X Y
        rw [xitB_l (show stCl R B gr i σ = .inl (g_closeRound σ 2000 (σ 1000 8) B R (cn (σ 2000 9))) from (if_pos hc).trans (if_pos c))]
        exact close_loop2 hgr R B f (i + 1) _ _ ma2 (P.fin hs C1 C2 X) Y.1 Y.2
      · rw [if_neg c] at X Y
        rw [xitB_l (show stCl R B gr i σ = .inl (g_endClock (g_closeRound σ 2000 (σ 1000 8) B R (cn (σ 2000 9))) R B (min (cn (σ 2000 9)) 59) gr) from (if_pos hc).trans (if_neg c))]
        exact close_loop2 hgr R B f (i + 1) _ _ ma2 (P.fin hs (JK.endClock C1.1 C1.2 hB6 (by omega) hg) (C2.trans (VA.endClock C1.1 hB6 hg)) X) Y.1 Y.2
    · rw [xitB_r (show stMc i τ' = .inr τ' from if_neg hs), xitB_r (show stCl R B gr i σ = .inr σ from if_neg (fun e => hs (rc.st.symm.trans e)))]
      exact ⟨h, z⟩
theorem RM.close (h : RM τ σ) (P : PCl (mR τ) (mB τ) τ σ) (hz : HZ τ) (hgr : ∀ j, j < 6 → gr j = mgr τ j ∧ gr j < 4) : RM (g_Mclose τ x) (g_close σ x (mR τ) (mB τ) gr) ∧ HZ (g_Mclose τ x) := by
  have P0 := P.s0
  have rc := P.1.1
  have r := P.2.2.1.1
  unfold g_Mclose g_close
  by_cases c1 : n_bt x 1 9
  · by_cases c2 : τ 5000 1 = 1
    · rw [if_pos c1, if_pos c2, if_pos c1, if_pos (rc.st.trans c2)]
      exact close_loop2 (τ := τ) (gr := gr) (fun τ' ma j hj => by
        rw [(hgr j hj).1]
        refine ⟨?_, by rw [← (hgr j hj).1]; exact (hgr j hj).2⟩
        show cn (τ (5020 + j) 3) = cn (τ' (5020 + j) 3)
        rw [ma (5020 + j) 3 (by unfold kb; omega)]) (mR τ) (mB τ) (cn x) 0 _ _ MA.s0 P0 (h.kept r MX.s0 VX.rfl') (hz.kept r MK.s0)
    · rw [if_pos c1, if_neg c2, if_pos c1, if_neg (fun e => c2 (rc.st.symm.trans e))]
      exact ⟨h.kept r MX.s00 VX.rfl', hz.kept r MK.s00⟩
  · rw [if_neg c1, if_neg c1]
    exact ⟨h.kept r MX.s00 VX.rfl', hz.kept r MK.s00⟩
end
end
section
/-! ===== the market: settling, defaults, offers ===== -/
section
variable {τ σ t s : XS9} {R B i wy : Nat} {x y z v : Int32} {spc gr cnt : Nat → Nat}
theorem RM.mid (h : RM τ σ) (hs : ¬ τ 5000 1 ≤ 1) (r : JR τ) (p : JP τ) (m : ∀ q i, kX q i → (q ≠ 5000 ∨ i = 2) → t q i = τ q i) (c : ∀ q i, kx q i → q ≠ 1000 → s q i = σ q i) : (RK t s ∧ TKF t) ∧ MKT t s ∧ MKW t s ∧ PYQ s := by
  have hR5 := r.hR.2
  have hB6 := r.hB.2
  have eR : mR t = mR τ := congrArg cn (m _ _ (by unfold kX; omega) (by omega))
  have eB : mB t = mB τ := congrArg cn (m _ _ (by unfold kX; omega) (by omega))
  have ep : ∀ j, j < 6 → mpk t j = mpk τ j := fun j hj => by
    show cn (t (5030 + j) 900) / 2 = _
    rw [m _ _ (by unfold kX; omega) (by omega)]
  have er : ∀ j, j < 6 → t (5030 + j) = τ (5030 + j) := fun j hj => funext fun i => m _ _ (by unfold kX; omega) (by omega)
  have eP : ∀ j, j < 6 → pkB t j = pkB τ j := fun j hj => by
    unfold pkB
    rw [eB, ep j hj]
  have X := Xm_same (τ := τ) (τ2 := t) eP er (fun j hj => by
    show cn (τ (5020 + j) 3) = cn (t (5020 + j) 3)
    rw [m _ _ (by unfold kX; omega) (by omega)]) (fun q hq => by
    show cn (t (5010 + q) 0) = cn (τ (5010 + q) 0)
    rw [m _ _ (by unfold kX; omega) (by omega)]) (by rw [m _ _ (by unfold kX; omega) (by omega)]) eR
  obtain ⟨m1, m2, m3⟩ := h.m hs
  refine ⟨⟨⟨by rw [m _ _ (by unfold kX; omega) (by omega)]; exact h.k.1, fun j hj => by rw [c _ _ (by unfold kx; omega) (by omega), h.k.n hj, eP j hj], fun j hj k hk => ?_⟩, (TKF.mk r h.k p).of fun q i hk => m q i (by unfold kt at hk; unfold kX; omega) (by unfold kt at hk; omega)⟩, m1.of X (fun j hj => m _ _ (by unfold kX; omega) (by omega)) fun q i hq => c _ _ (by unfold kx; omega) (by omega), m2.of X fun q i hq => c _ _ (by unfold kx; omega) (by omega), m3.of fun q i hq => c _ _ (by unfold kx; omega) (by omega)⟩
  rw [eB] at hj
  rw [ep j (by omega)] at hk
  have k6 := (r.hpk j hj).2
  rw [c _ _ (by unfold kx; omega) (by omega), c _ _ (by unfold kx; omega) (by omega), er j (by omega), eR]
  exact h.k.2.2 j hj k hk
theorem RM.keep (hs3 : t 5000 1 = 3) (k : RK t s) (hd : s 1000 10 = t 5000 5) (F : TKF t) (a : TA t s) (m : MKT t s) (w : MKW t s) (y : PYQ s) (hwy : t 5000 7 = nI wy) (hw3 : wy < 3) (h9 : s 1000 9 = t 5000 7) (hn : ∀ r, r < 5 → s 1013 r = t (5010 + r) 3) (hsp : ∀ r, r < mR t → spc r = msp t r) : RM (g_Mkeep t (mR t) (mB t) (mpk t) (mgr t) (mcd t) wy (msp t)) (g_give s (mR t) spc) := by
  have hR5 := F.1.1
  have hB6 := F.1.2
  obtain ⟨⟨k1, k2⟩, k3⟩ := keep_sim (spc := spc) (wy := wy) (not01 (.inr hs3)) F (PCx.mk a F k) m w y hw3 hn hsp
  have tr : ∀ q, ((q < 5005 ∨ 5007 < q) ∧ q < 9000) → g_Mkeep t (mR t) (mB t) (mpk t) (mgr t) (mcd t) wy (msp t) q = t q := fun q hq => keep_rows hB6 hq
  have sr : ∀ q, q ≠ 1005 → (q < 1141 ∨ 1145 < q) → g_give s (mR t) spc q = s q := fun q h1 h2 => fr_give hR5 ⟨h1, h2⟩
  generalize g_Mkeep t (mR t) (mB t) (mpk t) (mgr t) (mcd t) wy (msp t) = t2 at k1 k2 k3 tr ⊢
  generalize g_give s (mR t) spc = s2 at k3 sr ⊢
  have eR : mR t2 = mR t := by
    show cn (t2 5001 900) = _
    rw [tr _ (by decide)]
  have eB : mB t2 = mB t := by
    show cn (t2 5002 900) = _
    rw [tr _ (by decide)]
  have ep : ∀ j, j < 6 → mpk t2 j = mpk t j := fun j hj => by
    show cn (t2 (5030 + j) 900) / 2 = _
    rw [tr _ (by omega)]
  have eP : ∀ j, j < 6 → pkB t2 j = pkB t j := fun j hj => by
    unfold pkB
    rw [eB, ep j hj]
  have e5 : t2 5000 = t 5000 := tr _ (by decide)
  have X := Xm_same (τ := t) (τ2 := t2) eP (fun j hj => tr _ (by omega)) (fun j hj => by
    show cn (t (5020 + j) 3) = cn (t2 (5020 + j) 3)
    rw [tr _ (by omega)]) (fun q hq => by
    show cn (t2 (5010 + q) 0) = cn (t (5010 + q) 0)
    rw [tr _ (by omega)]) (by rw [e5]) eR
  have s3 : t2 5000 1 = 3 := by rw [e5]; exact hs3
  have ew : mwy t2 = wy := by
    show cn (t2 5000 7) = wy
    rw [e5, hwy, cn_nI (by omega)]
  refine ⟨⟨⟨by rw [e5]; exact k.1, fun j hj => by rw [sr _ (by decide) (by decide), eP j hj]; exact k.2.1 j hj, fun j hj k9 hk => ?_⟩, by rw [sr _ (by decide) (by decide), e5]; exact hd⟩, fun e => absurd e (not01 (.inr s3)), fun _ => ⟨m.of X (fun j hj => by rw [tr _ (by omega)]) fun q i hq => by rw [sr _ (by omega) (by omega)], w.of X fun q i hq => by rw [sr _ (by omega) (by omega)], y.of fun q i hq => by rw [sr _ (by omega) (by omega)]⟩, fun e => absurd s3 e, fun _ => ⟨⟨fun j hj => by rw [sr _ (by decide) (by decide)]; exact k1 j hj, fun j hj => by rw [ew, sr _ (by omega) (by omega)]; exact k2 j hj, by rw [sr _ (by decide) (by decide), e5]; exact h9⟩, k3⟩⟩
  rw [eB] at hj
  rw [ep j (by omega)] at hk
  rw [sr _ (by omega) (by omega), sr _ (by omega) (by omega), tr _ (by omega), eR]
  exact k.2.2 j hj k9 hk
theorem RM.settle (h : RM τ σ) (r : JR τ) (p : JP τ) (a : RA τ σ) (hst : σ 1000 7 = τ 5000 1) : RM (g_Msettle τ x (mR τ) (mB τ) (mpk τ) (mgr τ) (mcd τ) (msp τ)) (g_settle σ x (mR τ) (asp σ)) := by
  unfold g_Msettle g_settle
  by_cases c1 : n_bt x 0 2
  · by_cases c2 : τ 5000 1 = 2
    · rw [if_pos c1, if_pos c2, if_pos c1, if_pos (hst.trans c2)]
      have hx : bd 2 x := bd.bt c1 (by decide) rfl (by decide)
      have hx2 := hx.2
      have e : ∀ q, q ≠ 5000 → u2 (u2 (u2 τ 5000 0 0) 5000 1 3) 5000 7 (nI (cn x)) q = τ q := fun q hq => by rw [u2_ne hq, u2_ne hq, u2_ne hq]
      have e5 : ∀ i, i ≠ 0 → i ≠ 1 → i ≠ 7 → u2 (u2 (u2 τ 5000 0 0) 5000 1 3) 5000 7 (nI (cn x)) 5000 i = τ 5000 i := fun i h0 h1 h7 => by rw [u2_oi h7, u2_oi h1, u2_oi h0]
      have f : ∀ q, q ≠ 1000 → u2 (u2 σ 1000 9 x) 1000 7 3 q = σ q := fun q hq => by rw [u2_ne hq, u2_ne hq]
      obtain ⟨⟨k, F⟩, m, w, y9⟩ := h.mid (t := u2 (u2 (u2 τ 5000 0 0) 5000 1 3) 5000 7 (nI (cn x))) (s := u2 (u2 σ 1000 9 x) 1000 7 3) (not01 (.inl c2)) r p (fun q i hk hn => by
        by_cases eq : q = 5000
        · subst eq
          exact e5 i (by omega) (by omega) (by omega)
        · rw [e q eq]) (fun q i hk hn => by rw [f q hn])
      have H := RM.keep (t := u2 (u2 (u2 τ 5000 0 0) 5000 1 3) 5000 7 (nI (cn x))) (s := u2 (u2 σ 1000 9 x) 1000 7 3) (spc := asp σ) (wy := cn x) (by rw [u2_oi (by decide), u2_at]) k (by
        rw [u2_oi (by decide), u2_oi (by decide), e5 5 (by decide) (by decide) (by decide)]
        exact h.d) F ⟨by
        rw [f _ (by decide), e5 2 (by decide) (by decide) (by decide)]
        exact a.1.2.1, fun q hq => by
        rw [f _ (by decide), e _ (by omega)]
        exact (a.2.1 q hq).1⟩ m w y9 u2_at (by omega) (by
        rw [u2_oi (by decide), u2_at, u2_at]
        exact hx.1) (fun q hq => by
        rw [f _ (by decide), e _ (by omega)]
        exact (a.2.1 q hq).2.2.2) (fun q hq => by
        have eR : mR (u2 (u2 (u2 τ 5000 0 0) 5000 1 3) 5000 7 (nI (cn x))) = mR τ := by
          show cn (u2 _ _ _ _ 5001 900) = _
          rw [e _ (by decide)]
        rw [eR] at hq
        have := r.hR.2
        show cn (σ 1010 q) = cn (u2 _ _ _ _ (5010 + q) 0)
        rw [e _ (by omega), (a.2.1 q (by omega)).1])
      have q1 : mR (u2 (u2 (u2 τ 5000 0 0) 5000 1 3) 5000 7 (nI (cn x))) = mR τ := by
        show cn (u2 _ _ _ _ 5001 900) = _
        rw [e _ (by decide)]
      have q2 : mB (u2 (u2 (u2 τ 5000 0 0) 5000 1 3) 5000 7 (nI (cn x))) = mB τ := by
        show cn (u2 _ _ _ _ 5002 900) = _
        rw [e _ (by decide)]
      have q3 : mpk (u2 (u2 (u2 τ 5000 0 0) 5000 1 3) 5000 7 (nI (cn x))) = mpk τ := funext fun j => by
        show cn (u2 _ _ _ _ (5030 + j) 900) / 2 = _
        rw [e _ (by omega)]
      have q4 : mgr (u2 (u2 (u2 τ 5000 0 0) 5000 1 3) 5000 7 (nI (cn x))) = mgr τ := funext fun j => by
        show cn (u2 _ _ _ _ (5020 + j) 3) = _
        rw [e _ (by omega)]
      have q5 : mcd (u2 (u2 (u2 τ 5000 0 0) 5000 1 3) 5000 7 (nI (cn x))) = mcd τ := funext fun j => funext fun k => by
        show cn (u2 _ _ _ _ (5030 + j) (2 * k)) = _
        rw [e _ (by omega)]
      have q6 : msp (u2 (u2 (u2 τ 5000 0 0) 5000 1 3) 5000 7 (nI (cn x))) = msp τ := funext fun j => by
        show cn (u2 _ _ _ _ (5010 + j) 0) = _
        rw [e _ (by omega)]
      rw [q1, q2, q3, q4, q5, q6] at H
      exact H
    · rw [if_pos c1, if_neg c2, if_pos c1, if_neg (fun e => c2 (hst.symm.trans e))]
      exact h.kept r MX.s00 VX.rfl'
  · rw [if_neg c1, if_neg c1]
    exact h.kept r MX.s00 VX.rfl'
/-- one more is out, on both sides -/
theorem out_step (m : MKT t s) (w : MKW t s) (F : TKF t) (k : RK t s) (a : TA t s) (hi : i < 6) : (RK (u2 t (5020 + i) 4 1) (g_find (g_leaveOut s i)) ∧ TKF (u2 t (5020 + i) 4 1)) ∧ MKT (u2 t (5020 + i) 4 1) (g_find (g_leaveOut s i)) ∧ MKW (u2 t (5020 + i) 4 1) (g_find (g_leaveOut s i)) ∧ PYQ (g_find (g_leaveOut s i)) ∧ ∀ q, q ≠ 1003 → (q < 1040 ∨ (1041 < q ∧ q < 1131) ∨ 1133 < q) → g_find (g_leaveOut s i) q = s q := by
  have hB6 := F.1.2
  have e : ∀ q, q ≠ 5020 + i → u2 t (5020 + i) 4 1 q = t q := fun q hq => u2_ne hq
  have eR : mR (u2 t (5020 + i) 4 1) = mR t := by
    show cn (u2 t (5020 + i) 4 1 5001 900) = _
    rw [e _ (by omega)]
  have eB : mB (u2 t (5020 + i) 4 1) = mB t := by
    show cn (u2 t (5020 + i) 4 1 5002 900) = _
    rw [e _ (by omega)]
  have ep : ∀ j, j < 6 → mpk (u2 t (5020 + i) 4 1) j = mpk t j := fun j hj => by
    show cn (u2 t (5020 + i) 4 1 (5030 + j) 900) / 2 = _
    rw [e _ (by omega)]
  have eP : ∀ j, j < 6 → pkB (u2 t (5020 + i) 4 1) j = pkB t j := fun j hj => by
    unfold pkB
    rw [eB, ep j hj]
  have X := Xm_same (τ := t) (τ2 := u2 t (5020 + i) 4 1) eP (fun j hj => e _ (by omega)) (fun j hj => by
    show cn (t (5020 + j) 3) = cn (u2 t (5020 + i) 4 1 (5020 + j) 3)
    rw [u2_sl (by decide)]) (fun q hq => by
    show cn (u2 t (5020 + i) 4 1 (5010 + q) 0) = cn (t (5010 + q) 0)
    rw [u2_sl (by decide)]) (by rw [e _ (by omega)]) eR
  have F2 : TKF (u2 t (5020 + i) 4 1) := F.of fun q i9 hk => by
    by_cases h4 : i9 = 4
    · rw [e q (by unfold kt at hk; omega)]
    · exact u2_sl h4
  obtain ⟨s1, es1⟩ : ∃ s1, s1 = u2 s 1003 5 ((s 1003 5) ||| (1 <<< ((nI i) &&& 31))) := ⟨_, rfl⟩
  have r1 : ∀ q, q ≠ 1003 → s1 q = s q := fun q hq => by rw [es1, u2_ne hq]
  have P0 := PCx.mk a F k
  have am6 : ∀ d, Xm (u2 t (5020 + i) 4 1) d → (∀ j, j < 6 → d j ≤ 6) ∧ cAm (Am (u2 t (5020 + i) 4 1)) d ≤ 1800000 := fun d hd => by
    have h1 := ((X.1 d).mpr hd).1
    rw [← X.2 d]
    exact ⟨fun j hj => Nat.le_trans (h1 j hj) (F.p6 j hj), P0.am h1⟩
  have BO1 : BOc (Am (u2 t (5020 + i) 4 1)) (Xm (u2 t (5020 + i) 4 1)) s1 := ((m.2.1.cg fun d _ => X.2 d).iff X.1).of fun q hq => r1 q (by omega)
  obtain ⟨w1, w2⟩ := find_w BO1 am6 ⟨_, (X.1 _).mp ⟨cOk_0, cFe_0⟩, cSp_0⟩
  have el : g_leaveOut s i = g_findWinners s1 := by
    unfold g_leaveOut
    rw [es1]
  have fw : ∀ q, q ≠ 1040 → q ≠ 1041 → g_findWinners s1 q = s1 q := fun q h1 h2 => fr_findWinners ⟨h1, h2⟩
  have ff : ∀ q, (q < 1131 ∨ 1133 < q) → g_find (g_findWinners s1) q = g_findWinners s1 q := fun q hq => fr_find ⟨by omega, by omega, by omega⟩
  rw [el]
  have W1 : MKW (u2 t (5020 + i) 4 1) (g_findWinners s1) := by
    unfold MKW
    rw [fw 1003 (by decide) (by decide)]
    exact ⟨w1, w2⟩
  have k2 : RK (u2 t (5020 + i) 4 1) (g_findWinners s1) := by
    refine ⟨by rw [e _ (by omega)]; exact k.1, fun j hj => by rw [fw _ (by decide) (by decide), r1 _ (by decide), eP j hj]; exact k.2.1 j hj, fun j hj k9 hk => ?_⟩
    rw [eB] at hj
    rw [ep j (by omega)] at hk
    rw [fw _ (by omega) (by omega), fw _ (by omega) (by omega), r1 _ (by omega), r1 _ (by omega), e _ (by omega), eR]
    exact k.2.2 j hj k9 hk
  have T2 : TA (u2 t (5020 + i) 4 1) (g_findWinners s1) := ⟨by rw [fw _ (by decide) (by decide), r1 _ (by decide), e _ (by omega)]; exact a.1, fun r hr => by rw [fw _ (by decide) (by decide), r1 _ (by decide), e _ (by omega)]; exact a.2 r hr⟩
  have P2 := PCx.mk T2 F2 k2
  have same : (∀ d, Xm (u2 t (5020 + i) 4 1) d ↔ Xm (u2 t (5020 + i) 4 1) d) ∧ ∀ d, cAm (Am (u2 t (5020 + i) 4 1)) d = cAm (Am (u2 t (5020 + i) 4 1)) d := ⟨fun _ => Iff.rfl, fun _ => rfl⟩
  have M1 : MKT (u2 t (5020 + i) 4 1) (g_findWinners s1) := by
    refine ⟨⟨fun j hj => by rw [fw _ (by decide) (by decide), r1 _ (by decide)]; exact m.1.1 j hj, fun r hr => by rw [fw _ (by decide) (by decide), r1 _ (by decide)]; exact m.1.2.1 r hr, fun g hg r hr => by rw [fw _ (by omega) (by omega), r1 _ (by omega)]; exact m.1.2.2 g hg r hr⟩, BO1.of fun q hq => fw q (by omega) (by omega), fun j hj => ?_⟩
    rw [fw _ (by decide) (by decide), es1, u2_at, b_or, b_bit (by omega) (by omega)]
    by_cases ej : j = i
    · rw [ej, u2_at, decide_eq_true rfl, Bool.or_true]
      exact ⟨fun z => (by cases z), fun z => absurd z (by decide)⟩
    · rw [u2_ne (by omega), decide_eq_false ej, Bool.or_false]
      exact m.2.2 j hj
  refine ⟨⟨⟨k2.1, fun j hj => by rw [ff _ (by omega)]; exact k2.2.1 j hj, fun j hj k9 hk => ?_⟩, F2⟩, M1.of same (fun _ _ => rfl) fun q i hq => by rw [ff _ (by omega)], W1.of same fun q i hq => by rw [ff _ (by omega)], PYQ.found W1 P2 F2.p6, fun q h1 h2 => by rw [ff q (by omega), fw q (by omega) (by omega), r1 q h1]⟩
  rw [ff _ (by rw [eB] at hj; omega), ff _ (by rw [eB] at hj; omega)]
  exact k2.2.2 j hj k9 hk
/-- a winner's amount, on both sides -/
theorem won_eq (h : RM τ σ) (r : JR τ) (p : JP τ) (a : RA τ σ) (hs : τ 5000 1 = 3) (hi : i < mB τ) (hn : ¬ σ 1040 i = -1) : f_amountWon σ i = f_Bamount (u2 τ 5000 0 0) i (cn (τ 5005 i)) := by
  have hB6 := r.hB.2
  have F := TKF.mk r h.k p
  obtain ⟨m, w, y9⟩ := h.m (not01 (.inr hs))
  obtain ⟨c, ⟨c1, _⟩, c2, c3⟩ := w.1
  have P := PCx.mk (TA.mk a) F h.k
  have h1 := c1.1 i (by omega)
  have h6 := F.p6 i (by omega)
  rw [(won_c P F.p6 c1.1 (c3 i (by omega)) (by omega)).1]
  have e5 := (h.n3 hs).1.1 i (by omega)
  have z : c i ≠ 0 := fun z => hn (by rw [c3 i (by omega), z]; rfl)
  obtain ⟨f1, f2, f3, f4⟩ := (rwc_at (v := c i) (by omega)).2 z
  unfold cAd f_Bamount
  rw [if_neg z, e5, c3 i (by omega), f3, u2_ne (by omega)]
  exact (F.pcm hi (pkB_lt (k := c i - 1) (by omega)).2).symm
theorem RM.fail (h : RM τ σ) (r : JR τ) (p : JP τ) (a : RA τ σ) (hst : σ 1000 7 = τ 5000 1) : RM (g_Mfail τ x (mR τ) (mB τ) (mpk τ) (mgr τ) (mcd τ) (mwy τ) (msp τ)) (g_fail σ x (mR τ) (mB τ) (asp σ)) := by
  have hB6 := r.hB.2
  have hR5 := r.hR.2
  unfold g_Mfail g_fail
  by_cases c1 : n_lt x (mB τ)
  · have c12 := c1.2
    by_cases c2 : τ 5000 1 = 3
    · have e5 := (h.n3 c2).1.1 (cn x) (by omega)
      by_cases c3 : σ 1040 (cn x) = -1
      · rw [if_pos c1, if_pos c2, if_pos (e5.trans c3), if_pos c1, if_pos (hst.trans c2), if_pos c3]
        exact h.kept r MX.s00 VX.rfl'
      · rw [if_pos c1, if_pos c2, if_neg (fun e => c3 (e5.symm.trans e)), if_pos c1, if_pos (hst.trans c2), if_neg c3, won_eq h r p a c2 c12 c3, h.d]
        obtain ⟨d9, ed⟩ : ∃ d9, d9 = τ 5000 5 + f_Bamount (u2 τ 5000 0 0) (cn x) (cn (τ 5005 (cn x))) / 10 := ⟨_, rfl⟩
        rw [← ed]
        have e : ∀ q, q ≠ 5000 → u2 (u2 τ 5000 0 0) 5000 5 d9 q = τ q := fun q hq => by rw [u2_ne hq, u2_ne hq]
        have e50 : ∀ i, i ≠ 0 → i ≠ 5 → u2 (u2 τ 5000 0 0) 5000 5 d9 5000 i = τ 5000 i := fun i h0 h1 => by rw [u2_oi h1, u2_oi h0]
        have f : ∀ q, q ≠ 1000 → u2 σ 1000 10 d9 q = σ q := fun q hq => u2_ne hq
        obtain ⟨⟨k, F⟩, m, w, y9⟩ := h.mid (t := u2 (u2 τ 5000 0 0) 5000 5 d9) (s := u2 σ 1000 10 d9) (not01 (.inr c2)) r p (fun q i hk hn => by
          by_cases eq : q = 5000
          · subst eq
            exact e50 i (by omega) (by omega)
          · rw [e q eq]) (fun q i hk hn => by rw [f q hn])
        have T : TA (u2 (u2 τ 5000 0 0) 5000 5 d9) (u2 σ 1000 10 d9) := ⟨by
          rw [f _ (by decide), e50 2 (by decide) (by decide)]
          exact a.1.2.1, fun q hq => by
          rw [f _ (by decide), e _ (by omega)]
          exact (a.2.1 q hq).1⟩
        obtain ⟨⟨k2, F2⟩, m2, w2, y2, s2⟩ := out_step (i := cn x) m w F k T (by omega)
        have e2 : ∀ q, q ≠ 5000 → q ≠ 5020 + cn x → u2 (u2 (u2 τ 5000 0 0) 5000 5 d9) (5020 + cn x) 4 1 q = τ q := fun q h1 h2 => by rw [u2_ne h2, e q h1]
        have e3 : ∀ i, i ≠ 0 → i ≠ 5 → u2 (u2 (u2 τ 5000 0 0) 5000 5 d9) (5020 + cn x) 4 1 5000 i = τ 5000 i := fun i h0 h1 => by rw [u2_ne (by omega), e50 i h0 h1]
        have g1 : ∀ q, q ≠ 1000 → q ≠ 1003 → (q < 1040 ∨ (1041 < q ∧ q < 1131) ∨ 1133 < q) → g_find (g_leaveOut (u2 σ 1000 10 d9) (cn x)) q = σ q := fun q h1 h2 h3 => by rw [s2 q h2 h3, f q h1]
        have g0 : ∀ i, i ≠ 10 → g_find (g_leaveOut (u2 σ 1000 10 d9) (cn x)) 1000 i = σ 1000 i := fun i h0 => by rw [s2 1000 (by decide) (by decide), u2_oi h0]
        have q1 : mR (u2 (u2 (u2 τ 5000 0 0) 5000 5 d9) (5020 + cn x) 4 1) = mR τ := by
          show cn (u2 _ _ _ _ 5001 900) = _
          rw [e2 _ (by decide) (by omega)]
        have q2 : mB (u2 (u2 (u2 τ 5000 0 0) 5000 5 d9) (5020 + cn x) 4 1) = mB τ := by
          show cn (u2 _ _ _ _ 5002 900) = _
          rw [e2 _ (by decide) (by omega)]
        have q3 : mpk (u2 (u2 (u2 τ 5000 0 0) 5000 5 d9) (5020 + cn x) 4 1) = mpk τ := funext fun j => by
          show cn (u2 _ _ _ _ (5030 + j) 900) / 2 = _
          rw [e2 _ (by omega) (by omega)]
        have q4 : mgr (u2 (u2 (u2 τ 5000 0 0) 5000 5 d9) (5020 + cn x) 4 1) = mgr τ := funext fun j => by
          show cn (u2 _ _ _ _ (5020 + j) 3) = _
          rw [u2_sl (by decide), e _ (by omega)]
        have q5 : mcd (u2 (u2 (u2 τ 5000 0 0) 5000 5 d9) (5020 + cn x) 4 1) = mcd τ := funext fun j => funext fun k => by
          show cn (u2 _ _ _ _ (5030 + j) (2 * k)) = _
          rw [e2 _ (by omega) (by omega)]
        have q6 : msp (u2 (u2 (u2 τ 5000 0 0) 5000 5 d9) (5020 + cn x) 4 1) = msp τ := funext fun j => by
          show cn (u2 _ _ _ _ (5010 + j) 0) = _
          rw [u2_sl (by decide), e _ (by omega)]
        have H := RM.keep (t := u2 (u2 (u2 τ 5000 0 0) 5000 5 d9) (5020 + cn x) 4 1) (s := g_find (g_leaveOut (u2 σ 1000 10 d9) (cn x))) (spc := asp σ) (wy := mwy τ) (by rw [e3 1 (by decide) (by decide)]; exact c2) k2 (by
          rw [s2 1000 (by decide) (by decide), u2_at, u2_ne (by omega), u2_at]) F2 ⟨by
          rw [g1 _ (by decide) (by decide) (by decide), e3 2 (by decide) (by decide)]
          exact a.1.2.1, fun q hq => by
          rw [g1 _ (by decide) (by decide) (by decide), e2 _ (by omega) (by omega)]
          exact (a.2.1 q hq).1⟩ m2 w2 y2 (by rw [e3 7 (by decide) (by decide)]; exact r.hwy.1) r.hwy.2 (by
          rw [g0 9 (by decide), e3 7 (by decide) (by decide)]
          exact (h.n3 c2).1.2.2) (fun q hq => by
          rw [g1 _ (by decide) (by decide) (by decide), u2_sl (by decide), e _ (by omega)]
          exact (a.2.1 q hq).2.2.2) (fun q hq => by
          rw [q1] at hq
          rw [q6]
          show cn (σ 1010 q) = cn (τ (5010 + q) 0)
          rw [(a.2.1 q (by omega)).1])
        rw [q1, q2, q3, q4, q5, q6] at H
        exact H
    · rw [if_pos c1, if_neg c2, if_pos c1, if_neg (fun e => c2 (hst.symm.trans e))]
      exact h.kept r MX.s00 VX.rfl'
  · rw [if_neg c1, if_neg c1]
    exact h.kept r MX.s00 VX.rfl'
/-- one more package, told by a bidder -/
theorem RM.offer (h : RM τ σ) (r : JR τ) (p : JP τ) (a : RA τ σ) (z9 : RZ τ) (hst : σ 1000 7 = τ 5000 1) (hgr : ∀ j, j < 6 → gr j = mgr τ j ∧ gr j < 4) (hcn : ∀ j, j < 6 → cnt j = pkB τ j) : RM (g_Moffer τ x y v (mR τ) (mB τ) (mpk τ)) (g_offer σ x y v (mR τ) (mB τ) gr cnt) := by
  have hB6 := r.hB.2
  unfold g_Moffer g_offer
  by_cases c1 : n_lt x (mB τ)
  · have c12 := c1.2
    have ce := code_eq (σ := σ) (y := y) r
    rw [if_pos c1, if_pos c1]
    by_cases c2 : y < 0
    · rw [if_pos c2, if_pos (ce.mpr (.inl c2))]
      exact h.kept r MX.s00 VX.rfl'
    · rw [if_neg c2]
      by_cases c3 : f_power (mR τ) ≤ y
      · rw [if_pos c3, if_pos (ce.mpr (.inr c3))]
        exact h.kept r MX.s00 VX.rfl'
      · rw [if_neg c3, if_neg (fun w => (ce.mp w).elim c2 c3)]
        by_cases c4 : 0 ≤ v
        · rw [if_pos c4, if_pos c4]
          by_cases c5 : τ 5000 1 = 2
          · rw [if_pos c5, if_pos (hst.trans c5)]
            obtain ⟨hy, hy2⟩ := code_bd r c2 c3
            have ep : cnt (cn x) = mpk τ (cn x) := by
              rw [hcn (cn x) (by omega)]
              exact if_pos c12
            rw [ep]
            by_cases c6 : 6 ≤ nI (mpk τ (cn x))
            · rw [if_pos c6, if_pos c6]
              exact h.kept r MX.s00 VX.rfl'
            · rw [if_neg c6, if_neg c6]
              have mo := may_off (i := cn x) (z := v) a r p z9 h.k c12 hy hy2 c4
              by_cases c7 : f_mayOffer σ (cn x) y v (mR τ) = 0
              · rw [if_pos c7]
                have mo := mo.mp c7
                by_cases d1 : y ≤ 0
                · rw [if_pos d1]
                  exact h.kept r MX.s00 VX.rfl'
                · rw [if_neg d1]
                  by_cases d2 : τ (5020 + cn x) 0 < v
                  · rw [if_pos d2]
                    exact h.kept r MX.s00 VX.rfl'
                  · rw [if_neg d2]
                    by_cases d3 : (x_Moffer_104 τ y (mR τ) (1, Int64.ofNat (0 : Fin 2))).1 = 0
                    · rw [if_pos d3]
                      exact h.kept r MX.s00 VX.rfl'
                    · rw [if_neg d3, if_neg (((mo.resolve_left d1).resolve_left d2).resolve_left d3)]
                      exact h.kept r MX.s00 VX.rfl'
              · have mo := fun w => c7 (mo.mpr w)
                have d2 : ¬ τ (5020 + cn x) 0 < v := fun w => mo (.inr (.inl w))
                rw [if_neg c7, if_neg (fun w => mo (.inl w)), if_neg d2, if_neg (fun w => mo (.inr (.inr (.inl w)))), if_pos (Classical.byContradiction fun w => mo (.inr (.inr (.inr w))))]
                have hn : mpk τ (cn x) < 6 := by
                  have k6 := (r.hpk (cn x) c12).2
                  exact (nI_ltI (a := mpk τ (cn x)) (b := 6) (by omega) (by omega)).mp (Int32.not_le.mp c6)
                have vb : bd 300000 v := (bd.leq (p.2.1 (cn x) (by omega)) (by decide) c4 d2 (Nat.le_refl _)).le (by decide)
                obtain ⟨⟨k, F⟩, m, w, _⟩ := h.mid (t := u2 τ 5000 0 0) (s := σ) (not01 (.inl c5)) r p (fun q i hk hn => MX.s0 q i hk) (fun _ _ _ _ => rfl)
                have T : TA (u2 τ 5000 0 0) σ := ⟨by rw [u2_oi (by decide)]; exact a.1.2.1, fun q hq => by rw [u2_ne (by omega)]; exact (a.2.1 q hq).1⟩
                have q1 : mR (u2 τ 5000 0 0) = mR τ := MX.s0.R
                have q2 : mB (u2 τ 5000 0 0) = mB τ := MX.s0.B
                have q3 : ∀ j, j < 6 → mpk (u2 τ 5000 0 0) j = mpk τ j := fun j hj => MX.s0.pk hj
                have A := add_step (i := cn x) (x := y) (y := v) (gr := gr) (cnt := cnt) T F k m (by rw [q2]; exact c12) (by rw [q3 _ (by omega)]; exact hn) hy (by rw [q1]; exact hy2) vb (fun j hj => by
                  rw [show mgr (u2 τ 5000 0 0) j = mgr τ j by
                    show cn (u2 τ 5000 0 0 (5020 + j) 3) = _
                    rw [u2_ne (by omega)]]
                  exact hgr j hj) (fun j hj => by rw [MX.s0.pkb hj]; exact hcn j hj)
                rw [q3 _ (by omega), q1, q2] at A
                have F3 := F.madd (i := cn x) (x := y) (y := v) (by rw [q2]; exact c12) (by rw [q3 _ (by omega)]; exact hn) hy (by rw [q1]; exact hy2) vb
                rw [q3 _ (by omega)] at F3
                obtain ⟨k2, m2, w2⟩ := A
                have fa : ∀ q, (q < 1020 ∨ 1124 < q) → g_addM σ (cn x) y v (mR τ) (mB τ) gr cnt q = σ q := fun q hq => fr_addM ⟨by omega, hq, fun j hj => (hgr j hj).2⟩ (by rw [ep]; omega)
                have fm : ∀ q, (q < 5030 ∨ 5035 < q) → g_Madd (u2 τ 5000 0 0) (cn x) (mpk τ (cn x)) y v q = u2 τ 5000 0 0 q := fun q hq => madd_row (by omega)
                have T2 : TA (g_Madd (u2 τ 5000 0 0) (cn x) (mpk τ (cn x)) y v) (g_addM σ (cn x) y v (mR τ) (mB τ) gr cnt) := ⟨by rw [fa _ (by decide), fm _ (by decide)]; exact T.1, fun q hq => by rw [fa _ (by decide), fm _ (by omega)]; exact T.2 q hq⟩
                have P2 := PCx.mk T2 F3 k2
                have s2 : g_Madd (u2 τ 5000 0 0) (cn x) (mpk τ (cn x)) y v 5000 1 = 2 := by
                  rw [fm _ (by decide), u2_oi (by decide)]
                  exact c5
                have d5 : g_Madd (u2 τ 5000 0 0) (cn x) (mpk τ (cn x)) y v 5000 5 = τ 5000 5 := by
                  rw [fm _ (by decide), u2_oi (by decide)]
                generalize g_addM σ (cn x) y v (mR τ) (mB τ) gr cnt = s3 at k2 m2 w2 fa P2 ⊢
                generalize g_Madd (u2 τ 5000 0 0) (cn x) (mpk τ (cn x)) y v = t3 at k2 m2 w2 s2 d5 F3 P2 ⊢
                have ff : ∀ q, (q < 1131 ∨ 1133 < q) → g_find s3 q = s3 q := fun q hq => fr_find ⟨by omega, by omega, by omega⟩
                have same : (∀ d, Xm t3 d ↔ Xm t3 d) ∧ ∀ d, cAm (Am t3) d = cAm (Am t3) d := ⟨fun _ => Iff.rfl, fun _ => rfl⟩
                obtain ⟨n1, n2⟩ := h.n0 (by rw [c5]; decide)
                have hB3 := F3.1.2
                refine ⟨⟨⟨k2.1, fun j hj => by rw [ff _ (by omega)]; exact k2.2.1 j hj, fun j hj k9 hk => by rw [ff _ (by omega), ff _ (by omega)]; exact k2.2.2 j hj k9 hk⟩, by rw [ff _ (by omega), fa _ (by decide), d5]; exact h.d⟩, fun e => absurd e (not01 (.inl s2)), fun _ => ⟨m2.of same (fun _ _ => rfl) fun q i hq => by rw [ff _ (by omega)], w2.of same fun q i hq => by rw [ff _ (by omega)], PYQ.found w2 P2 F3.p6⟩, fun _ => ⟨fun q hq b hb => by rw [ff _ (by omega), fa _ (by omega)]; exact n1 q hq b hb, by rw [ff _ (by omega), fa _ (by decide)]; exact n2⟩, fun e => absurd (s2.symm.trans e) (by decide)⟩
          · rw [if_neg c5, if_neg (fun e => c5 (hst.symm.trans e))]
            exact h.kept r MX.s00 VX.rfl'
        · rw [if_neg c4, if_neg c4]
          exact h.kept r MX.s00 VX.rfl'
  · rw [if_neg c1, if_neg c1]
    exact h.kept r MX.s00 VX.rfl'
end
end
section
/-! ===== what the market's calls say ===== -/
section
variable {τ σ t s : XS9} {R B i wy : Nat} {x y z v : Int32} {gr cnt : Nat → Nat}
theorem lt_two {n : Nat} (hn : n < 1000) : (¬ y < 0 ∧ y < nI n) ↔ n_lt y n := by
  refine ⟨fun ⟨h1, h2⟩ => ?_, fun ⟨h1, h2⟩ => ?_⟩
  · obtain ⟨e1, e2⟩ := cn_of (Int32.not_lt.mp h1)
    rw [e1] at h2
    have yl : y.toInt < 2 ^ 31 := y.toInt_lt
    exact ⟨e1, (nlt (by omega) (by omega)).mp h2⟩
  · rw [h1]
    exact ⟨Int32.not_lt.mpr ((nle (a := 0) (by omega) (by omega)).mpr (Nat.zero_le _)), (nlt (by omega) (by omega)).mpr h2⟩
/-- all stages: the market stands -/
theorem RM.all (h : RM τ σ) (r : JR τ) (p : JP τ) (a : RA τ σ) : MKT τ σ ∧ MKW τ σ ∧ PYQ σ := by
  by_cases hs : τ 5000 1 ≤ 1
  · have E := h.e hs
    obtain ⟨m, w⟩ := E.mk
    refine ⟨m, w, fun v hv j hj => ?_⟩
    have F := TKF.mk r h.k p
    obtain ⟨W, b, p1, p2, h1, h2, h3, h4, h5, h6⟩ := pay_eq (B := 6) (t := tC σ) w.1 w.2 (PCx.mk (TA.mk a) F h.k) F.p6 (Nat.le_refl _) (fun j h1 h2 => by omega) (fun d hd => ouX_dn hd) (fun j _ => if_pos rfl) (fun S _ => by
      unfold tC
      rw [if_neg (by decide), if_pos rfl]) (fun j hj k hk => by
      rw [E.2.2.2 j hj] at hk
      omega)
    have b0 : b j = 0 := (h2 j hj).2 (by
      show (if (9001 : Nat) = 9001 then σ 1040 j else _) = -1
      rw [if_pos rfl]
      exact E.2.1.1 j hj)
    have z : σ (1131 + v) j = 0 := E.2.1.2.2 v hv j hj
    rw [z]
    match v, hv with
    | 0, _ =>
      rw [(h6 j hj).1, b0]
      rfl
    | 1, _ =>
      have := (h5 j hj).2.1
      rw [(h6 j hj).2.1, show p1 j = 0 by omega]
      rfl
    | 2, _ =>
      have := (h5 j hj).2.2
      rw [(h6 j hj).2.2, show p2 j = 0 by omega]
      rfl
  · exact h.m hs
/-- the choice that a question makes -/
theorem RM.cho (h : RM τ σ) (r : JR τ) (p : JP τ) : (∀ j, j < 6 → g_Cinit (u2 τ 5000 0 0) (mR τ) (mB τ) (mpk τ) (mgr τ) (mcd τ) 9001 j = σ 1040 j) ∧ ∀ S, S < 64 → g_Cinit (u2 τ 5000 0 0) (mR τ) (mB τ) (mpk τ) (mgr τ) (mcd τ) 9003 S = σ 1041 S := by
  by_cases hs : τ 5000 1 ≤ 1
  · have E := h.e hs
    obtain ⟨b1, b2⟩ := cinitB_rows (t := u2 τ 5000 0 0) (R := mR τ) (B := mB τ) (pkM := mpk τ) (grM := mgr τ) (cd := mcd τ)
    have e : g_Cinit (u2 τ 5000 0 0) (mR τ) (mB τ) (mpk τ) (mgr τ) (mcd τ) = g_CinitB (u2 τ 5000 0 0) (mR τ) (mB τ) (mpk τ) (mgr τ) (mcd τ) := if_pos (by rw [u2_oi (by decide)]; exact hs)
    rw [e]
    exact ⟨fun j hj => (b1 j hj).trans (E.2.1.1 j hj).symm, fun S hS => (b2 S hS).trans (E.2.1.2.1 S hS).symm⟩
  · obtain ⟨⟨k, F⟩, m, w, _⟩ := h.mid (t := u2 τ 5000 0 0) (s := σ) hs r p (fun q i hk hn => MX.s0 q i hk) (fun _ _ _ _ => rfl)
    have H := cho_eq (t := u2 τ 5000 0 0) (σ := σ) (by rw [u2_oi (by decide)]; exact hs) F m w
    have e : ∀ q, q ≠ 5000 → u2 τ 5000 0 0 q = τ q := fun q hq => u2_ne hq
    have q1 : mR (u2 τ 5000 0 0) = mR τ := MX.s0.R
    have q2 : mB (u2 τ 5000 0 0) = mB τ := MX.s0.B
    have q3 : mpk (u2 τ 5000 0 0) = mpk τ := funext fun j => by
      show cn (u2 _ _ _ _ (5030 + j) 900) / 2 = _
      rw [e _ (by omega)]
    have q4 : mgr (u2 τ 5000 0 0) = mgr τ := funext fun j => by
      show cn (u2 _ _ _ _ (5020 + j) 3) = _
      rw [e _ (by omega)]
    have q5 : mcd (u2 τ 5000 0 0) = mcd τ := funext fun j => funext fun k => by
      show cn (u2 _ _ _ _ (5030 + j) (2 * k)) = _
      rw [e _ (by omega)]
    rw [q1, q2, q3, q4, q5] at H
    exact H
theorem cho_lo {q : Nat} (hq : q < 9000) : g_Cinit (u2 τ 5000 0 0) (mR τ) (mB τ) (mpk τ) (mgr τ) (mcd τ) q = u2 τ 5000 0 0 q := fr_Cinit (.inl hq)
/-- payments by a question's choice -/
theorem RM.pay (h : RM τ σ) (r : JR τ) (p : JP τ) (a : RA τ σ) : ∃ W b : Nat → Nat, ∃ f : Nat → Nat → Nat, FWs W b (mB τ) ∧ (∀ j, j < 6 → f_amountWon σ j = nI (b j) ∧ (σ 1040 j = -1 → b j = 0)) ∧ (∀ j, j < mB τ → f_Camount (g_Cinit (u2 τ 5000 0 0) (mR τ) (mB τ) (mpk τ) (mgr τ) (mcd τ)) j = nI (b j)) ∧ (∀ S, S < 64 → σ 1041 S = nI (W S)) ∧ (∀ j, j < 6 → σ 1131 j = nI (b j)) ∧ ∀ v, v < 3 → ∀ j, j < 6 → σ (1131 + v) j = nI (f v j) ∧ f v j ≤ b j ∧ g_Cpay (g_Cinit (u2 τ 5000 0 0) (mR τ) (mB τ) (mpk τ) (mgr τ) (mcd τ)) v 20000 (mB τ) 20000 j = nI (f v j) := by
  obtain ⟨m, w, y9⟩ := h.all r p a
  obtain ⟨c1, c3⟩ := h.cho r p
  have F := TKF.mk r h.k p
  have hB6 := r.hB.2
  obtain ⟨W, b, f, h1, h2, h3, h4, h5, h6⟩ := y9.same (τ := τ) (t := g_Cinit (u2 τ 5000 0 0) (mR τ) (mB τ) (mpk τ) (mgr τ) (mcd τ)) w (PCx.mk (TA.mk a) F h.k) F.p6 hB6 c1 c3 (fun j hj k hk => by
    rw [cho_lo (by omega), u2_ne (by omega)]
    exact F.pcm hj (pkB_lt hk).2)
  exact ⟨W, b, f, h1, fun j hj => ⟨(h2 j hj).1, fun e => (h2 j hj).2 ((c1 j hj).trans e)⟩, h3, h4, h5, h6⟩
theorem says_ofPackage (h : RM τ σ) (r : JR τ) (hcn : ∀ j, j < 6 → cnt j = pkB τ j) : g_MofPackage τ x y v (mB τ) (mpk τ) 5000 0 = lw_k [eIOB] (o_ofPackage σ x y v (mB τ) cnt) ∧ ∀ w, o_ofPackage σ x y v (mB τ) cnt = .inl w → w = f_MofPackage τ x y v (mB τ) (mpk τ) := by
  have hB6 := r.hB.2
  unfold g_MofPackage o_ofPackage f_MofPackage
  by_cases c1 : n_lt x (mB τ)
  · have c12 := c1.2
    have ep : cnt (cn x) = mpk τ (cn x) := by
      rw [hcn (cn x) (by omega)]
      exact if_pos c12
    have k6 := (r.hpk (cn x) c12).2
    have l2 := lt_two (y := y) (n := mpk τ (cn x)) (by omega)
    rw [if_pos c1, if_pos c1, if_pos c1, ep]
    by_cases c2 : n_lt y (mpk τ (cn x))
    · have c0 := (sub1_lt (x := y) (R := mpk τ (cn x)) (by omega)).mpr c2
      obtain ⟨d1, d2⟩ := l2.mpr c2
      rw [if_pos c0, if_pos c0, if_neg d1, if_pos d2]
      have hk := h.k.2.2 (cn x) c12 (cn y) c2.2
      by_cases c3 : v = 0
      · rw [if_pos c3, if_pos c3]
        refine fine0 ?_
        unfold f_Bcode
        rw [u2_ne (by omega)]
        exact hk.1
      · rw [if_neg c3, if_neg c3]
        refine fine0 ?_
        unfold f_Bamount
        rw [u2_ne (by omega)]
        exact hk.2.1
    · have c0 := fun q => c2 ((sub1_lt (x := y) (R := mpk τ (cn x)) (by omega)).mp q)
      rw [if_neg c0, if_neg c0]
      by_cases d1 : y < 0
      · rw [if_pos d1]
        exact bad rfl
      · rw [if_neg d1, if_neg (fun d2 => c2 (l2.mp ⟨d1, d2⟩))]
        exact bad rfl
  · rw [if_neg c1, if_neg c1, if_neg c1]
    exact bad rfl
theorem says_wins (h : RM τ σ) (r : JR τ) (p : JP τ) : g_Mwins τ x (mR τ) (mB τ) (mpk τ) (mgr τ) (mcd τ) 5000 0 = lw_k [eIOB] (o_wins σ x (mB τ)) ∧ ∀ w, o_wins σ x (mB τ) = .inl w → w = f_Mwins τ x (mR τ) (mB τ) (mpk τ) (mgr τ) (mcd τ) := by
  have hB6 := r.hB.2
  unfold g_Mwins o_wins f_Mwins
  by_cases c1 : n_lt x (mB τ)
  · have c12 := c1.2
    rw [if_pos c1, if_pos c1, if_pos c1]
    refine ⟨?_, fun w e => ?_⟩
    · rw [u2_ne (by decide), cho_lo (by decide), u2_at]
      rfl
    · rw [← Sum.inl.inj e]
      unfold f_MwinsNow
      rw [cho_lo (by decide), u2_oi (by decide)]
      by_cases c2 : τ 5000 1 = 3
      · rw [if_pos c2, cho_lo (by decide), u2_ne (by decide)]
        exact ((h.n3 c2).1.1 (cn x) (by omega)).symm
      · rw [if_neg c2]
        exact ((h.cho r p).1 (cn x) (by omega)).symm
  · rw [if_neg c1, if_neg c1, if_neg c1]
    exact bad rfl
theorem says_worth (h : RM τ σ) (r : JR τ) (p : JP τ) : g_Mworth τ x (mR τ) (mB τ) (mpk τ) (mgr τ) (mcd τ) 5000 0 = lw_k [eIAE] (o_worth σ x (mB τ)) ∧ ∀ w, o_worth σ x (mB τ) = .inl w → w = f_Mworth τ x (mR τ) (mB τ) (mpk τ) (mgr τ) (mcd τ) := by
  have p6 := pow_le6 r.hB.2
  unfold g_Mworth o_worth f_Mworth
  by_cases c1 : n_lt x (2 ^ mB τ)
  · have c12 := c1.2
    rw [if_pos c1, if_pos c1, if_pos c1]
    refine ⟨?_, fun w e => ?_⟩
    · rw [u2_ne (by decide), cho_lo (by decide), u2_at]
      rfl
    · rw [← Sum.inl.inj e]
      exact ((h.cho r p).2 (cn x) (by omega)).symm
  · rw [if_neg c1, if_neg c1, if_neg c1]
    exact bad rfl
theorem says_wouldPay (h : RM τ σ) (r : JR τ) (p : JP τ) (a : RA τ σ) : g_MwouldPay τ x y (mR τ) (mB τ) (mpk τ) (mgr τ) (mcd τ) 5000 0 = lw_k [eIOB, eIAE] (o_wouldPay σ x y (mB τ)) ∧ ∀ w, o_wouldPay σ x y (mB τ) = .inl w → w = f_MwouldPay τ x y (mR τ) (mB τ) (mpk τ) (mgr τ) (mcd τ) := by
  have hB6 := r.hB.2
  unfold g_MwouldPay o_wouldPay f_MwouldPay
  by_cases c1 : n_lt x (mB τ)
  · have c12 := c1.2
    rw [if_pos c1, if_pos c1, if_pos c1]
    by_cases c2 : n_bt y 0 2
    · have hy := (bd.bt (m := 2) c2 (by decide) rfl (by decide)).2
      rw [if_pos c2, if_pos c2, if_pos c2]
      refine ⟨?_, fun w e => ?_⟩
      · rw [u2_ne (by decide), u2_ne (by decide), fr_Cpay ⟨by decide, hB6⟩, cho_lo (by decide), u2_at]
        rfl
      · rw [← Sum.inl.inj e]
        obtain ⟨W, b, f, _, _, _, _, _, h6⟩ := h.pay r p a
        obtain ⟨q1, _, q2⟩ := h6 (cn y) (by omega) (cn x) (by omega)
        rw [q1, q2]
    · rw [if_neg c2, if_neg c2, if_neg c2]
      exact bad rfl
  · rw [if_neg c1, if_neg c1, if_neg c1]
    exact bad rfl
theorem says_objects (h : RM τ σ) (r : JR τ) (p : JP τ) (a : RA τ σ) : g_Mobjects τ x y (mR τ) (mB τ) (mpk τ) (mgr τ) (mcd τ) 5000 0 = lw_k [eIAE] (o_objects σ x y (mB τ)) ∧ ∀ w, o_objects σ x y (mB τ) = .inl w → w = f_Mobjects τ x y (mR τ) (mB τ) (mpk τ) (mgr τ) (mcd τ) := by
  have hB6 := r.hB.2
  have p6 := pow_le6 r.hB.2
  unfold g_Mobjects o_objects f_Mobjects
  by_cases c1 : n_lt x (2 ^ mB τ)
  · have c12 := c1.2
    rw [if_pos c1, if_pos c1, if_pos c1]
    by_cases c2 : n_bt y 0 2
    · have hy := (bd.bt (m := 2) c2 (by decide) rfl (by decide)).2
      rw [if_pos c2, if_pos c2, if_pos c2]
      refine ⟨?_, fun w e => ?_⟩
      · rw [u2_ne (by decide), u2_ne (by decide), fr_Cpay ⟨by decide, hB6⟩, cho_lo (by decide), u2_at]
        rfl
      · rw [← Sum.inl.inj e]
        obtain ⟨W, b, f, hF, h2, h3, h4, h5, h6⟩ := h.pay r p a
        obtain ⟨ch1, ch3⟩ := h.cho r p
        have oc := obj_cw (s := σ) (W := W) (a := b) (p := f (cn y)) (w := cn y) (S := cn x) (by omega) h5 (fun j hj => (h6 (cn y) (by omega) j hj).1) (h4 (cn x) (by omega))
        have gr9 : ∀ q, q ≠ 20000 → g_Cpay (g_Cinit (u2 τ 5000 0 0) (mR τ) (mB τ) (mpk τ) (mgr τ) (mcd τ)) (cn y) 20000 (mB τ) q = g_Cinit (u2 τ 5000 0 0) (mR τ) (mB τ) (mpk τ) (mgr τ) (mcd τ) q := fun q hq => fr_Cpay ⟨hq, hB6⟩
        have om := obj_m (t := g_Cpay (g_Cinit (u2 τ 5000 0 0) (mR τ) (mB τ) (mpk τ) (mgr τ) (mcd τ)) (cn y) 20000 (mB τ)) (W := W) (a := b) (p := f (cn y)) (qa := 20000) (B := mB τ) (S := cn x) (by omega) hB6 ⟨fun j hj => (h6 (cn y) (by omega) j hj).2.2, fun j hj => ⟨by rw [cam_row (gr9 9001 (by decide)) (gr9 (5030 + j) (by omega))]; exact h3 j hj, fun e9 => by
          rw [gr9 9001 (by decide), ch1 j (by omega)] at e9
          exact (h2 j (by omega)).2 e9⟩⟩ (fun j hj => (h6 (cn y) (by omega) j hj).2.1) hF.2.2.2 (by
          rw [gr9 9003 (by decide), ch3 (cn x) (by omega)]
          exact h4 (cn x) (by omega))
        rw [oc, om]
    · rw [if_neg c2, if_neg c2, if_neg c2]
      exact bad rfl
  · rw [if_neg c1, if_neg c1, if_neg c1]
    exact bad rfl
/-- the names' holders -/
theorem NM3.holds (r : JR τ) (k : RK τ σ) (p : JP τ) (hs : τ 5000 1 = 3) : hdM τ (wK τ) (mB τ) (mR τ) := fun q hq j hj => by
  have hR5 := r.hR.2
  refine ⟨?_, fun hb => ?_, fun _ e => ?_, fun hb e => ?_⟩
  · unfold wK
    split
    · exact dgt_le
    · omega
  · exact if_neg (fun w => by have := w.1; omega)
  · exact if_neg (fun w => w.2 e)
  · rw [show wK τ q j = dgt (τ (5030 + j) (2 * cn (τ 5005 j))) q from if_pos ⟨hb, e⟩]
    unfold f_Bcode
    rcases r.hkp hs j hb with z | ⟨n, n1, n2⟩
    · exact absurd z e
    · have k6 := (r.hpk j hb).2
      rw [n2, cn_nI (by omega)]
      exact of_d (Dm_bd r hb n1) (by omega)
theorem says_holder (h : RM τ σ) (r : JR τ) (p : JP τ) (a : RA τ σ) {spc : Nat → Nat} (hsp : ∀ q, q < mR τ → spc q = msp τ q) : g_Mholder τ x y (mR τ) (mB τ) (mtn τ) (msp τ) 5000 0 = lw_k [eIOB] (o_holder σ x y (mR τ) spc) ∧ ∀ w, o_holder σ x y (mR τ) spc = .inl w → w = f_Mholder τ x y (mR τ) (mB τ) (mtn τ) (msp τ) := by
  have hR5 := r.hR.2
  have hB6 := r.hB.2
  unfold g_Mholder o_holder f_Mholder
  by_cases c1 : n_lt x (mR τ)
  · have c12 := c1.2
    have k5 := (r.hsp (cn x) c12).2
    have l2 := lt_two (y := y) (n := msp τ (cn x)) (by omega)
    rw [if_pos c1, if_pos c1, if_pos c1, hsp (cn x) c12]
    by_cases c2 : n_lt y (msp τ (cn x))
    · have c0 := (sub1_lt (x := y) (R := msp τ (cn x)) (by omega)).mpr c2
      obtain ⟨d1, d2⟩ := l2.mpr c2
      have c22 := c2.2
      rw [if_pos c0, if_pos c0, if_neg d1, if_pos d2]
      refine fine0 ?_
      unfold f_MholderNow
      rw [u2_oi (by decide)]
      by_cases c3 : τ 5000 1 = 3
      · rw [if_pos c3, (h.n3 c3).2.1 (cn x) c12 (cn y) (by omega)]
        have H := (NM3.holds r h.k p c3).of (v := u2 τ 5000 0 0) fun q hq => u2_ne (by omega)
        have e := H.at (t := mtn τ (cn x)) c12 hB6 (b := cn y) (by omega)
        rw [← c2.1] at e
        rw [e]
        exact if_pos c22
      · rw [if_neg c3]
        exact (h.n0 c3).1 (cn x) (by omega) (cn y) (by omega)
    · have c0 := fun q => c2 ((sub1_lt (x := y) (R := msp τ (cn x)) (by omega)).mp q)
      rw [if_neg c0, if_neg c0]
      by_cases d1 : y < 0
      · rw [if_pos d1]
        exact bad rfl
      · rw [if_neg d1, if_neg (fun d2 => c2 (l2.mp ⟨d1, d2⟩))]
        exact bad rfl
  · rw [if_neg c1, if_neg c1, if_neg c1]
    exact bad rfl
theorem says_offer (h : RM τ σ) (r : JR τ) (p : JP τ) (a : RA τ σ) (z9 : RZ τ) (hst : σ 1000 7 = τ 5000 1) (hcn : ∀ j, j < 6 → cnt j = pkB τ j) : g_Moffer τ x y v (mR τ) (mB τ) (mpk τ) 5000 0 = lw_k [eIOB, eIAE, eISE] (o_offer σ x y v (mR τ) (mB τ) gr cnt) ∧ ∀ w, o_offer σ x y v (mR τ) (mB τ) gr cnt = .inl w → w = f_Moffer τ x y v (mR τ) (mB τ) (mpk τ) := by
  have hB6 := r.hB.2
  unfold g_Moffer o_offer f_Moffer
  by_cases c1 : n_lt x (mB τ)
  · have c12 := c1.2
    have ce := code_eq (σ := σ) (y := y) r
    rw [if_pos c1, if_pos c1, if_pos c1]
    by_cases c2 : y < 0
    · rw [if_pos c2, if_pos (ce.mpr (.inl c2)), if_pos c2]
      exact bad rfl
    · rw [if_neg c2, if_neg c2]
      by_cases c3 : f_power (mR τ) ≤ y
      · rw [if_pos c3, if_pos (ce.mpr (.inr c3)), if_pos c3]
        exact bad rfl
      · rw [if_neg c3, if_neg (fun w => (ce.mp w).elim c2 c3), if_neg c3]
        by_cases c4 : 0 ≤ v
        · rw [if_pos c4, if_pos c4, if_pos c4]
          by_cases c5 : τ 5000 1 = 2
          · rw [if_pos c5, if_pos (hst.trans c5), if_pos c5]
            obtain ⟨hy, hy2⟩ := code_bd r c2 c3
            have ep : cnt (cn x) = mpk τ (cn x) := by
              rw [hcn (cn x) (by omega)]
              exact if_pos c12
            rw [ep]
            by_cases c6 : 6 ≤ nI (mpk τ (cn x))
            · rw [if_pos c6, if_pos c6, if_pos c6]
              exact bad rfl
            · rw [if_neg c6, if_neg c6, if_neg c6]
              have mo := may_off (i := cn x) (z := v) a r p z9 h.k c12 hy hy2 c4
              by_cases c7 : f_mayOffer σ (cn x) y v (mR τ) = 0
              · rw [if_pos c7]
                have mo := mo.mp c7
                by_cases d1 : y ≤ 0
                · rw [if_pos d1, if_pos d1]
                  exact bad rfl
                · rw [if_neg d1, if_neg d1]
                  by_cases d2 : τ (5020 + cn x) 0 < v
                  · rw [if_pos d2, if_pos d2]
                    exact bad rfl
                  · rw [if_neg d2, if_neg d2]
                    by_cases d3 : (x_Moffer_104 τ y (mR τ) (1, Int64.ofNat (0 : Fin 2))).1 = 0
                    · rw [if_pos d3, if_pos d3]
                      exact bad rfl
                    · have d4 := ((mo.resolve_left d1).resolve_left d2).resolve_left d3
                      rw [if_neg d3, if_neg d3, if_neg d4, if_neg d4]
                      exact bad rfl
              · have mo := fun w => c7 (mo.mpr w)
                have d1 : ¬ y ≤ 0 := fun w => mo (.inl w)
                have d2 : ¬ τ (5020 + cn x) 0 < v := fun w => mo (.inr (.inl w))
                have d3 : ¬ (x_Moffer_104 τ y (mR τ) (1, Int64.ofNat (0 : Fin 2))).1 = 0 := fun w => mo (.inr (.inr (.inl w)))
                have d4 : 0 ≤ lg_cmp (Int32.toInt64 v) ((x_Moffer_104 τ y (mR τ) (1, Int64.ofNat (0 : Fin 2))).2) := Classical.byContradiction fun w => mo (.inr (.inr (.inr w)))
                rw [if_neg c7, if_neg d1, if_neg d1, if_neg d2, if_neg d2, if_neg d3, if_neg d3, if_pos d4, if_pos d4]
                refine ⟨?_, fun w e => (Sum.inl.inj e).symm⟩
                rw [madd_row (by omega), u2_at]
                rfl
          · rw [if_neg c5, if_neg (fun e => c5 (hst.symm.trans e)), if_neg c5]
            exact bad rfl
        · rw [if_neg c4, if_neg c4, if_neg c4]
          exact bad rfl
  · rw [if_neg c1, if_neg c1, if_neg c1]
    exact bad rfl
theorem says_fail (h : RM τ σ) (r : JR τ) (p : JP τ) (a : RA τ σ) (hst : σ 1000 7 = τ 5000 1) {sp : Nat → Nat} : g_Mfail τ x (mR τ) (mB τ) (mpk τ) (mgr τ) (mcd τ) (mwy τ) (msp τ) 5000 0 = lw_k [eIOB, eISE] (o_fail σ x (mR τ) (mB τ) sp) ∧ ∀ w, o_fail σ x (mR τ) (mB τ) sp = .inl w → w = f_Mfail τ x (mR τ) (mB τ) (mpk τ) (mgr τ) (mcd τ) (mwy τ) (msp τ) := by
  have hB6 := r.hB.2
  unfold g_Mfail o_fail f_Mfail
  by_cases c1 : n_lt x (mB τ)
  · have c12 := c1.2
    rw [if_pos c1, if_pos c1, if_pos c1]
    by_cases c2 : τ 5000 1 = 3
    · have e5 := (h.n3 c2).1.1 (cn x) (by omega)
      rw [if_pos c2, if_pos (hst.trans c2), if_pos c2]
      by_cases c3 : σ 1040 (cn x) = -1
      · rw [if_pos (e5.trans c3), if_pos c3, if_pos (e5.trans c3)]
        exact bad rfl
      · have n5 : ¬ τ 5005 (cn x) = -1 := fun e => c3 (e5.symm.trans e)
        rw [if_neg n5, if_neg c3, if_neg n5]
        refine ⟨?_, fun w e => ?_⟩
        · rw [fr_Mkeep ⟨by decide, by decide, by decide, hB6⟩, u2_ne (by omega), u2_oi (by decide), u2_at]
          rfl
        · rw [← Sum.inl.inj e, won_eq h r p a c2 c12 c3]
    · rw [if_neg c2, if_neg (fun e => c2 (hst.symm.trans e)), if_neg c2]
      exact bad rfl
  · rw [if_neg c1, if_neg c1, if_neg c1]
    exact bad rfl
/-- how many have won -/
theorem cnt_eq {f g : Nat → Int32} (hB6 : B ≤ 6) (h : ∀ j, j < 6 → f j = g j) (hz : ∀ j, B ≤ j → j < 6 → f j = -1) : xit (fun i4 (s4 : Int32) => (if (f i4) = (-1) then s4 else s4 + 1)) 6 0 0 = xit (fun i4 (s4 : Int32) => (if (g i4) = (-1) then s4 + 0 else s4 + 1)) B 0 0 := by
  have e1 : xit (fun i4 (s4 : Int32) => (if (f i4) = (-1) then s4 else s4 + 1)) 6 0 0 = xsum (fun i => if f i = -1 then 0 else 1) 6 := xit_cg (N := 6) (fun i s hi => by
    (try dsimp only)
    by_cases c : f i = -1
    · rw [if_pos c, if_pos c, Int32.add_zero]
    · rw [if_neg c, if_neg c]) 6 0 0 rfl
  have e2 : xit (fun i4 (s4 : Int32) => (if (g i4) = (-1) then s4 + 0 else s4 + 1)) B 0 0 = xsum (fun i => if f i = -1 then 0 else 1) B := xit_cg (N := B) (fun i s hi => by
    (try dsimp only)
    rw [h i (by omega)]
    by_cases c : g i = -1
    · rw [if_pos c, if_pos c]
    · rw [if_neg c, if_neg c]) B 0 0 (Nat.zero_add _)
  rw [e1, e2]
  exact xsum_cut (fun j h1 h2 => if_pos (hz j h1 h2)) hB6
theorem MKW.hi (w : MKW τ σ) {j : Nat} (h1 : mB τ ≤ j) (h2 : j < 6) : σ 1040 j = -1 := by
  obtain ⟨c, ⟨c1, _⟩, _, c3⟩ := w.1
  have := c1.1 j h2
  rw [pkB_z h1] at this
  rw [c3 j h2, show c j = 0 by omega]
  rfl
theorem says_settle (h : RM τ σ) (r : JR τ) (p : JP τ) (a : RA τ σ) (hst : σ 1000 7 = τ 5000 1) : g_Msettle τ x (mR τ) (mB τ) (mpk τ) (mgr τ) (mcd τ) (msp τ) 5000 0 = lw_k [eIAE, eISE] (o_settle σ x (mR τ) (asp σ)) ∧ ∀ w, o_settle σ x (mR τ) (asp σ) = .inl w → w = f_Msettle τ x (mR τ) (mB τ) (mpk τ) (mgr τ) (mcd τ) (msp τ) := by
  have hB6 := r.hB.2
  have H := RM.settle (x := x) h r p a hst
  unfold g_Msettle g_settle at H
  unfold g_Msettle o_settle f_Msettle
  by_cases c1 : n_bt x 0 2
  · by_cases c2 : τ 5000 1 = 2
    · rw [if_pos c1, if_pos c2, if_pos c1, if_pos (hst.trans c2)] at H
      rw [if_pos c1, if_pos c2, if_pos c1, if_pos (hst.trans c2), if_pos c1, if_pos c2]
      have e3 : g_Mkeep (u2 (u2 (u2 τ 5000 0 0) 5000 1 3) 5000 7 (nI (cn x))) (mR τ) (mB τ) (mpk τ) (mgr τ) (mcd τ) (cn x) (msp τ) 5000 = u2 (u2 (u2 τ 5000 0 0) 5000 1 3) 5000 7 (nI (cn x)) 5000 := fr_Mkeep ⟨by decide, by decide, by decide, hB6⟩
      refine ⟨?_, fun w e => ?_⟩
      · rw [e3, u2_oi (by decide), u2_oi (by decide), u2_at]
        rfl
      · rw [← Sum.inl.inj e]
        have s3 : g_Mkeep (u2 (u2 (u2 τ 5000 0 0) 5000 1 3) 5000 7 (nI (cn x))) (mR τ) (mB τ) (mpk τ) (mgr τ) (mcd τ) (cn x) (msp τ) 5000 1 = 3 := by
          rw [e3, u2_oi (by decide), u2_at]
        have k := (H.n3 s3).1.1
        have eB : mB (g_Mkeep (u2 (u2 (u2 τ 5000 0 0) 5000 1 3) 5000 7 (nI (cn x))) (mR τ) (mB τ) (mpk τ) (mgr τ) (mcd τ) (cn x) (msp τ)) = mB τ := by
          show cn (g_Mkeep _ _ _ _ _ _ _ _ 5002 900) = _
          rw [fr_Mkeep ⟨by decide, by decide, by decide, hB6⟩, u2_ne (by decide), u2_ne (by decide), u2_ne (by decide)]
        have w9 := (H.m (not01 (.inr s3))).2.1
        unfold f_winners x_winners_4 f_MwinnersKept x_MwinnersKept_4
        exact cnt_eq hB6 (fun j hj => (k j hj).symm) (fun j h1 h2 => w9.hi (by rw [eB]; exact h1) h2)
    · rw [if_pos c1, if_neg c2, if_pos c1, if_neg (fun e => c2 (hst.symm.trans e)), if_pos c1, if_neg c2]
      exact bad rfl
  · rw [if_neg c1, if_neg c1, if_neg c1]
    exact bad rfl
end
end
section
/-! ===== what the market's calls rest on ===== -/
theorem gr_eq {τ σ : XS9} (a : RA τ σ) (j : JC σ) : ∀ i, i < 6 → agr σ i = mgr τ i ∧ agr σ i < 4 := fun i hi => ⟨congrArg cn (a.2.2.1 i hi).2.2.2, (j.hgr i hi).2⟩
theorem ct_eq {τ σ : XS9} (h : RM τ σ) (r : JR τ) : ∀ i, i < 6 → acn σ i = pkB τ i := fun i hi => by
  show cn (σ 1020 i) = pkB τ i
  rw [h.k.n hi]
  refine cn_nI ?_
  unfold pkB
  split
  · rename_i l
    have := (r.hpk i l).2
    omega
  · decide
theorem sp_eq {τ σ : XS9} (a : RA τ σ) (r : JR τ) : ∀ q, q < mR τ → asp σ q = msp τ q := fun q hq => congrArg cn (a.2.1 q (Nat.lt_of_lt_of_le hq r.hR.2)).1
end
section
/-! ===== what is asked of a bidder; what it pays ===== -/
section
variable {τ τ2 σ : XS9} {x y : Int32} {B R : Nat}
theorem out_eq (m : MKT τ σ) {i : Nat} (hi : i < 6) : f_isOut σ i = 0 ↔ τ (5020 + i) 4 = 0 := by
  have b := b_tst2 (x := σ 1003 5) (j := i) (by omega)
  unfold f_isOut
  by_cases c : ((σ 1003 5) &&& (1 <<< ((nI i) &&& 31))) = 0
  · rw [if_pos c]
    exact ⟨fun _ => (m.2.2 i hi).mp (b.mp c), fun _ => rfl⟩
  · rw [if_neg c]
    exact ⟨fun z => absurd z (by decide), fun z => absurd (b.mpr ((m.2.2 i hi).mpr z)) c⟩
theorem facts_b (h : RC τ σ) (r : JR τ) (a : RA τ σ) (z9 : RZ τ) (m : RM τ σ) (p : JP τ) {i k : Nat} (hi : i < mB τ) (hk : k ≤ 10) : f_bidderFact σ i k = f_MofBidderNow (u2 τ 5000 0 0) i (mR τ) (mB τ) (mpk τ) (mg τ) k := by
  have R5 := r.hR.2
  have B6 := r.hB.2
  have hi6 : i < 6 := by omega
  have e7 : ∀ q, q ≠ 5000 → u2 τ 5000 0 0 q = τ q := fun q hq => u2_ne hq
  obtain ⟨a0, a1, a2, a3⟩ := a.2.2.1 i hi6
  obtain ⟨⟨w1, w2⟩, v1, v2⟩ := codes_eq h hi B6
  have z7 : u2 τ 5000 0 0 7000 25 = 0 ↔ τ 5000 1 = 0 := by
    rw [e7 _ (by decide)]
    exact h.fl
  match k, hk with
  | 0, _ =>
    show σ 1014 i = u2 τ 5000 0 0 (5020 + i) 0
    rw [e7 _ (by omega)]
    exact a0
  | 1, _ =>
    show σ 2004 i = if u2 τ 5000 0 0 7000 25 = 0 then u2 τ 5000 0 0 (5020 + i) 1 else u2 τ 5000 0 0 (7000 + 3) i
    by_cases c : τ 5000 1 = 0
    · rw [if_pos (z7.mpr c), e7 _ (by omega), (h.off c).2.1 i hi6]
      exact a1
    · rw [if_neg (fun z => c (z7.mp z)), e7 _ (by omega)]
      exact (h.on c).el i hi
  | 2, _ =>
    show σ 1016 i = u2 τ 5000 0 0 (5020 + i) 2
    rw [e7 _ (by omega)]
    exact a2
  | 3, _ =>
    show σ 1017 i = u2 τ 5000 0 0 (5020 + i) 3
    rw [e7 _ (by omega)]
    exact a3
  | 4, _ =>
    show σ 2005 i = if u2 τ 5000 0 0 7000 25 = 0 then 2 else u2 τ 5000 0 0 (7000 + 4) i
    by_cases c : τ 5000 1 = 0
    · rw [if_pos (z7.mpr c)]
      exact (h.off c).2.2.2.1 i hi
    · rw [if_neg (fun z => c (z7.mp z)), e7 _ (by omega)]
      exact ((h.on c).wv i hi).1
  | 5, _ => exact v1
  | 6, _ => exact w1
  | 7, _ =>
    show f_total (σ 2003 i) 5 (σ 1011) = f_Mpoints (u2 τ 5000 0 0) (f_MwishedCode (u2 τ 5000 0 0) i (mg τ)) (mR τ)
    rw [← w1]
    exact last_eq (g := fun q => u2 τ 5000 0 0 (5010 + q) 1) w2 R5 (fun q hq => by
      (try dsimp only)
      rw [e7 _ (by omega)]
      exact (a.2.1 q (by omega)).2.1) (fun q h1 h2 => (a.2.1 q h2).2.1.trans (z9 q h1 h2).2.1)
  | 8, _ =>
    show σ 1020 i = nI (mpk τ i)
    rw [m.k.n hi6]
    unfold pkB
    rw [if_pos hi]
  | 9, _ =>
    show (if f_isOut σ i = 0 then (0 : Int32) else 1) = if u2 τ 5000 0 0 (5020 + i) 4 = 0 then 0 else 1
    rw [e7 _ (by omega)]
    have o := out_eq (m.all r p a).1 hi6
    by_cases c : τ (5020 + i) 4 = 0
    · rw [if_pos c, if_pos (o.mpr c)]
    · rw [if_neg c, if_neg (fun z => c (o.mp z))]
  | 10, _ =>
    show σ 2006 i = if u2 τ 5000 0 0 7000 25 = 0 then 0 else u2 τ 5000 0 0 (7000 + 5) i
    by_cases c : τ 5000 1 = 0
    · rw [if_pos (z7.mpr c)]
      exact ((h.off c).h i hi6).2.2
    · rw [if_neg (fun z => c (z7.mp z)), e7 _ (by omega)]
      exact (h.on c).co i hi
theorem says_ofBidder (h : RC τ σ) (r : JR τ) (a : RA τ σ) (z9 : RZ τ) (m : RM τ σ) (p : JP τ) : g_MofBidder τ x y (mR τ) (mB τ) (mpk τ) (mg τ) 5000 0 = lw_k [eIOB, eIAE] (o_ofBidder σ x y (mB τ)) ∧ ∀ w, o_ofBidder σ x y (mB τ) = .inl w → w = f_MofBidder τ x y (mR τ) (mB τ) (mpk τ) (mg τ) := by
  unfold g_MofBidder o_ofBidder f_MofBidder
  by_cases c1 : n_lt x (mB τ)
  · by_cases c2 : n_bt y 0 10
    · simp only [if_pos c1, if_pos c2]
      have hy := bd.bt (m := 10) c2 (by decide) rfl (by decide)
      exact fine0 (facts_b h r a z9 m p c1.2 hy.2)
    · simp only [if_pos c1, if_neg c2]
      exact bad rfl
  · simp only [if_neg c1]
    exact bad rfl
/-! credits -/
def RD (τ : XS9) : Prop := ∀ j, j < 6 → bd 30 (τ (5020 + j) 2)
theorem RD.of (h : RD τ) (e : ∀ j, j < 6 → τ2 (5020 + j) 2 = τ (5020 + j) 2) : RD τ2 := fun j hj => by
  rw [e j hj]
  exact h j hj
theorem RD.kept (h : RD τ) (m : MA τ τ2) : RD τ2 := h.of fun j hj => m _ _ (by unfold kb; omega)
theorem RD.s00 (h : RD τ) {x : Int32} : RD (u2 (u2 τ 5000 0 0) 5000 0 x) := h.kept MA.s00
theorem RD.init : RD s0M := fun j hj => by
  rw [s0M_50 (by omega)]
  exact bd.zero
theorem RD.region {x y v : Int32} (h : RD τ) (hR5 : R ≤ 5) : RD (g_Mregion τ x y v R) := by
  unfold g_Mregion
  (repeat' split) <;> first | with_reducible exact h.s00 | exact h.of fun j hj => by rw [u2_ne (by omega), uR_ne (by omega), u2_ne (by omega)] | exact h.s00
theorem RD.bidder {x y v u : Int32} (h : RD τ) (hB6 : B ≤ 6) : RD (g_Mbidder τ x y v u B) := by
  unfold g_Mbidder
  (repeat' split) <;> first | with_reducible exact h.s00 | skip
  rename_i hx hy hv hu h0 hn
  intro j hj
  by_cases e : j = B
  · rw [e, u2_ne (by omega), u2_ne (by omega), uR_eq]
    exact bd.bt (m := 30) hv (by decide) rfl (by decide)
  · rw [u2_ne (by omega), u2_ne (by omega), uR_ne (by omega), u2_ne (by omega)]
    exact h j hj
theorem RD.rules {x y : Int32} (h : RD τ) : RD (g_Mrules τ x y) := by
  unfold g_Mrules
  (repeat' split) <;> first | with_reducible exact h.s00 | exact h.of fun j hj => by rw [u2_ne (by omega), u2_ne (by omega), u2_ne (by omega)] | exact h.s00
theorem RD.knock (h : RD τ) : RD (g_Mknock τ) := by
  unfold g_Mknock
  exact h.of fun j hj => by rw [u2_ne (by omega), u2_ne (by omega)]
theorem RD.slot {q : Nat} {x : Int32} (h : RD τ) : RD (u2 τ q 3 x) := h.of fun j hj => u2_sl (by omega)
theorem RD.border {x y : Int32} (h : RD τ) (hR5 : R ≤ 5) : RD (g_Mborder τ x y R) := by
  unfold g_Mborder
  split
  · split
    · split
      · exact h.s00
      · split
        · exact (h.kept MA.s0).slot.slot
        · exact h.s00
    · exact h.s00
  · exact h.s00
theorem RD.station {x y : Int32} {C : Nat} (h : RD τ) : RD (g_Mstation τ x y R C) := by
  unfold g_Mstation g_addI
  (repeat' split) <;> first | with_reducible exact h.s00 | exact h.of fun j hj => by rw [u2_ne (by omega), u2_ne (by omega), u2_ne (by omega), u2_ne (by omega), u2_ne (by omega)] | exact h.s00
theorem RD.ask {x y : Int32} {C : Nat} (h : RD τ) : RD (g_Mask τ x y C) := by
  unfold g_Mask g_setS
  (repeat' split) <;> first | with_reducible exact h.s00 | exact h.of fun j hj => by rw [u2_ne (by omega), u2_ne (by omega), u2_ne (by omega)] | exact h.s00
/-! what is due -/
theorem l_div {m : Nat} (hm : m < 2147483648) : Int64.toInt32 (Int64.ofNat m / 100) = nI (m / 100) := by
  have h100 : (100 : Int64).toInt = 100 := by decide
  have e : (Int64.ofNat m / 100) = Int64.ofNat (m / 100) := by
    refine Int64.toInt_inj.mp ?_
    rw [Int64.toInt_div_of_ne_right _ _ (by decide), Int64.toInt_ofNat_of_lt (by omega), Int64.toInt_ofNat_of_lt (by omega), h100, Int.tdiv_eq_ediv_of_nonneg (by omega)]
    omega
  rw [e]
  exact Int64.toInt32_ofNat'
theorem due_eq {P c : Nat} (hP : P ≤ 1800000) (hc : c ≤ 30) : nI P * (100 - nI c) / 100 = nI (P * (100 - c) / 100) ∧ Int64.toInt32 (Int32.toInt64 (nI P) * Int32.toInt64 (100 - nI c) / 100) = nI (P * (100 - c) / 100) := by
  have e1 : (100 : Int32) - nI c = nI (100 - c) := nI_minus (a := 100) (b := c) (by omega)
  have b : P * (100 - c) ≤ 180000000 := calc P * (100 - c) ≤ 1800000 * 100 := Nat.mul_le_mul hP (by omega)
    _ ≤ 180000000 := by decide
  have m9 : Int32.maxValue.toInt = 2147483647 := rfl
  have t1 : Int32.toInt64 (nI P) = Int64.ofNat P := Int32.toInt64_ofNat' (by rw [m9]; omega)
  have t2 : Int32.toInt64 (nI (100 - c)) = Int64.ofNat (100 - c) := Int32.toInt64_ofNat' (by rw [m9]; omega)
  rw [e1, t1, t2, nI_mul, ← Int64.ofNat_mul]
  exact ⟨nI_div (m := P * (100 - c)) (k := 100) (by omega) (by decide) (by decide), l_div (by omega)⟩
theorem paid_eq (h : RM τ σ) (r : JR τ) (p : JP τ) (a : RA τ σ) (hst : σ 1000 7 = τ 5000 1) {i : Nat} (hi : i < mB τ) : ∃ P, P ≤ 300000 ∧ f_paymentOf σ i (aw σ) = nI P ∧ ((τ 5000 1 = 3 ∧ τ 5006 i = nI P) ∨ (¬ τ 5000 1 = 3 ∧ P = 0)) := by
  have B6 := r.hB.2
  unfold f_paymentOf
  rw [hst]
  by_cases c : τ 5000 1 = 3
  · have K := (h.n3 c).1
    have ew : aw σ = mwy τ := congrArg cn K.2.2
    obtain ⟨W, b, f, fw, _, _, _, _, pv⟩ := h.pay r p a
    obtain ⟨q1, q2, _⟩ := pv (mwy τ) r.hwy.2 i (by omega)
    have q3 := (fw.2.1 i (by omega)).1
    rw [if_pos c, ew]
    exact ⟨f (mwy τ) i, by omega, q1, .inl ⟨c, (K.2.1 i (by omega)).trans q1⟩⟩
  · rw [if_neg c]
    exact ⟨0, by decide, rfl, .inr ⟨c, rfl⟩⟩
theorem due_m (h : RM τ σ) (r : JR τ) (p : JP τ) (a : RA τ σ) (hst : σ 1000 7 = τ 5000 1) (d : RD τ) {t : XS9} (e1 : t 5000 1 = τ 5000 1) (e : ∀ q, 5001 ≤ q → q < 6000 → t q = τ q) {i : Nat} (hi : i < mB τ) : f_dueOf σ i (aw σ) = f_Mdue t i B := by
  have B6 := r.hB.2
  obtain ⟨P, hP, eP, hh⟩ := paid_eq h r p a hst hi
  obtain ⟨d1, d2⟩ := d i (by omega)
  have ec : σ 1016 i = τ (5020 + i) 2 := (a.2.2.1 i (by omega)).2.2.1
  obtain ⟨q1, q2⟩ := due_eq (P := P) (c := cn (τ (5020 + i) 2)) (by omega) d2
  rw [← d1] at q1 q2
  unfold f_dueOf f_Mdue
  rw [eP, ec, q1, e1, e 5006 (by decide) (by decide), e (5020 + i) (by omega) (by omega)]
  rcases hh with ⟨c, k⟩ | ⟨c, k⟩
  · rw [if_pos c, k]
    exact q2.symm
  · rw [if_neg c, k, Nat.zero_mul]
    rfl
theorem says_pays (h : RM τ σ) (r : JR τ) (p : JP τ) (a : RA τ σ) (hst : σ 1000 7 = τ 5000 1) (d : RD τ) : g_Mpays τ x y (mB τ) 5000 0 = lw_k [eIOB] (o_pays σ x y (mB τ) (aw σ)) ∧ ∀ w, o_pays σ x y (mB τ) (aw σ) = .inl w → w = f_Mpays τ x y (mB τ) := by
  unfold g_Mpays o_pays f_Mpays
  by_cases c1 : n_lt x (mB τ)
  · by_cases c2 : y = 0
    · simp only [if_pos c1, if_pos c2]
      refine fine0 ?_
      obtain ⟨P, hP, eP, hh⟩ := paid_eq h r p a hst c1.2
      unfold f_Mpaid
      rw [eP, u2_oi (by decide), u2_ne (by decide)]
      rcases hh with ⟨c, k⟩ | ⟨c, k⟩
      · rw [if_pos c, k]
      · rw [if_neg c, k]
        rfl
    · simp only [if_pos c1, if_neg c2]
      exact fine0 (due_m h r p a hst d (u2_oi (by decide)) (fun q h1 h2 => u2_ne (by omega)) c1.2)
  · simp only [if_neg c1]
    exact bad rfl
end
end
section
/-! ===== what is asked of the sale ===== -/
/-! nothing is of bidders that are not there -/
def OZ (σ : XS9) : Prop := (∀ j, aB σ ≤ j → j < 6 → σ 2002 j = 0 ∧ σ 2003 j = 0 ∧ σ 2006 j = 0) ∧ ∀ k, k < 60 → k < aK σ → ∀ j, aB σ ≤ j → j < 6 → σ (2201 + k) j = 0
section
variable {τ σ σ2 s : XS9} {x y z v : Int32} {R B K b : Nat} {gr cnt sp rg : Nat → Nat}
theorem OZ.of (h : OZ σ) (e9 : σ2 1001 9 = σ 1001 9) (eK : σ2 2000 9 = σ 2000 9) (e : ∀ q, (q = 2002 ∨ q = 2003 ∨ q = 2006 ∨ (2201 ≤ q ∧ q ≤ 2260)) → ∀ j, aB σ ≤ j → σ2 q j = σ q j) : OZ σ2 := by
  have eB : aB σ2 = aB σ := congrArg cn e9
  have eK2 : aK σ2 = aK σ := congrArg cn eK
  refine ⟨fun j h1 h2 => ?_, fun k h0 hk j h1 h2 => ?_⟩
  · rw [eB] at h1
    rw [e _ (by omega) j h1, e _ (by omega) j h1, e _ (by omega) j h1]
    exact h.1 j h1 h2
  · rw [eB] at h1
    rw [eK2] at hk
    rw [e _ (by omega) j h1]
    exact h.2 k h0 hk j h1 h2
theorem OZ.row (h : OZ σ) (v : VC σ σ2) (k : VK σ σ2) : OZ σ2 := h.of v.2.1 (k 2000 9 (by unfold kc; omega)) fun q hq j _ => k q j (by unfold kc; omega)
theorem OZ.init : OZ s0C := by
  have z : ∀ q j, 2001 ≤ q → s0C q j = 0 := fun q j hq => by
    rw [s0C_z (by omega) (by omega) (by omega) (by omega)]
    rfl
  exact ⟨fun j _ _ => ⟨z _ _ (by decide), z _ _ (by decide), z _ _ (by decide)⟩, fun k _ _ j _ _ => z _ _ (by omega)⟩
theorem OZ.begun : OZ (g_begin s 2000) := ⟨fun j _ hj => begin_ok.2.2.1 j hj, fun k _ hk => by
  have e : aK (g_begin s 2000) = 0 := (congrArg cn begin_ok.2.2.2.2.2).trans rfl
  omega⟩
theorem OZ.region (h : OZ σ) : OZ (g_region σ x y z R) := by
  unfold g_region
  (repeat' split) <;> first | exact OZ.begun | exact h
theorem OZ.bidder (h : OZ σ) : OZ (g_bidder σ x y z v B) := by
  unfold g_bidder
  (repeat' split) <;> first | exact OZ.begun | exact h
theorem OZ.u1 {i : Nat} (h : OZ σ) : OZ (u2 σ 1000 i x) := h.of (congrFun (u2_ne (by decide)) 9) (congrFun (u2_ne (by decide)) 9) (fun q hq j _ => congrFun (u2_ne (by omega)) j)
theorem OZ.opn (h : OZ σ) : OZ (g_open σ R B) := by
  unfold g_open
  (repeat' split) <;> first | exact h | exact h.u1
theorem OZ.step (h : OZ σ) : OZ (g_step σ x) := by
  unfold g_step
  (repeat' split) <;> first | exact h | exact h.u1
theorem OZ.wish (h : OZ σ) : OZ (g_wish σ x y z R (aB σ)) := by
  unfold g_wish
  by_cases hx : n_lt x (aB σ)
  · have hx2 := hx.2
    rw [if_pos hx]
    (repeat' split) <;> first | exact h | exact h.of (congrFun (u2_ne (by decide)) 9) (congrFun (u2_ne (by decide)) 9) (fun q hq j hj => u2_o (fun a b => by omega))
  · rw [if_neg hx]
    exact h
theorem OZ.waive (h : OZ σ) : OZ (g_waive σ x B) := by
  have go : ∀ i, OZ (g_useWaiver σ 2000 i) := fun i => h.of (congrFun (fr_useWaiver (by decide)) 9) (by
    unfold g_useWaiver
    rw [u2_oi (by decide), u2_ne (by decide)]) (fun q hq j _ => congrFun (fr_useWaiver (by omega)) j)
  unfold g_waive
  (repeat' split) <;> first | exact h | exact go _
theorem OZ.settle (h : OZ σ) (hR5 : R ≤ 5) : OZ (g_settle σ x R sp) := by
  have go : OZ (g_give (u2 (u2 σ 1000 9 x) 1000 7 3) R sp) := h.of (congrFun ((fr_give hR5 (by decide)).trans ((u2_ne (by decide)).trans (u2_ne (by decide)))) 9) (congrFun ((fr_give hR5 (by decide)).trans ((u2_ne (by decide)).trans (u2_ne (by decide)))) 9) (fun q hq j _ => congrFun ((fr_give hR5 (by omega)).trans ((u2_ne (by omega)).trans (u2_ne (by omega)))) j)
  unfold g_settle
  (repeat' split) <;> first | exact h | exact go
theorem undo_hi {j : Nat} (hj : B ≤ j) : g_undoContradictions s b B K (b + 6) j = s (b + 6) j := by
  unfold g_undoContradictions x_undoContradictions_2
  refine xit_inv (fun v : XS9 => v (b + 6) j = s (b + 6) j) (N := B) (fun i v hi hP => ?_) B 0 s (Nat.zero_add _) rfl
  (try dsimp only)
  split
  · exact hP
  · rw [u2_ne (by omega), u2_oi (by omega)]
    exact hP
theorem mh_hi {r j : Nat} (hj : B ≤ j) : g_moveHeld s b r B (b + 2) j = s (b + 2) j := by
  unfold g_moveHeld
  have h1 : x_moveHeld_2 s b r B s (b + 2) j = s (b + 2) j := by
    unfold x_moveHeld_2
    refine xit_inv (fun v : XS9 => v (b + 2) j = s (b + 2) j) (N := B) (fun i v hi hP => ?_) B 0 s (Nat.zero_add _) rfl
    (try dsimp only)
    split
    · exact hP
    · rw [u2_oi (by omega)]
      exact hP
  refine Eq.trans ?_ h1
  generalize x_moveHeld_2 s b r B s = v
  unfold x_moveHeld_80
  refine xitB_all (fun p : XS9 × Int32 => p.1 (b + 2) j = v (b + 2) j) (N := B) (fun i p p' hi hP => ?_) B 0 _ (Nat.zero_add _) rfl
  (try dsimp only)
  split
  · intro e
    rcases e with e | e
    · cases e
    · rw [← Sum.inr.inj e]
      exact hP
  · intro e
    rcases e with e | e
    · rw [← Sum.inl.inj e]
      (try dsimp only)
      rw [u2_oi (by omega)]
      exact hP
    · cases e
theorem crM_hi {j : Nat} (hj : B ≤ j) : crM s b x B R K (b + 2) j = s (b + 2) j ∧ crM s b x B R K (b + 6) j = s (b + 6) j := by
  unfold crM x_closeRound_92
  have e6 : crU s b x B K (b + 6) j = s (b + 6) j := by
    unfold crU
    split
    · rw [crL_row (by omega)]
    · rw [undo_hi hj, crL_row (by omega)]
  have e2 : crU s b x B K (b + 2) j = s (b + 2) j := by
    unfold crU
    split
    · rw [crL_row (by omega)]
    · rw [fr_undoContradictions (by omega), crL_row (by omega)]
  refine ⟨?_, ?_⟩
  · refine Eq.trans (xit_inv (fun v : XS9 => v (b + 2) j = g_lowerEligible (crU s b x B K) b B (b + 2) j) (N := R) (fun i v hi hP => ?_) R 0 _ (Nat.zero_add _) rfl) ?_
    · (try dsimp only)
      rw [mh_hi hj]
      exact hP
    · rw [fr_lowerEligible (by omega)]
      exact e2
  · rw [xit_keep (fun s : XS9 => s (b + 6)) (fun i s => by
      show g_moveHeld s b i B (b + 6) = s (b + 6)
      exact fr_moveHeld (by omega)) R 0 _, fr_lowerEligible (by omega)]
    exact e6
theorem OZ.closeRound (h : OZ s) (hK : s 2000 9 = nI (aK s) ∧ aK s ≤ 60) : OZ (g_closeRound s 2000 x (aB s) R (aK s)) := by
  rcases Nat.lt_or_ge (aK s) 60 with l | l
  · have c : nI (aK s) < 60 := (nI_ltI (a := aK s) (b := 60) (by omega) (by omega)).mpr l
    have e9 : aB (g_closeRound s 2000 x (aB s) R (aK s)) = aB s := congrArg cn (congrFun (fr_closeRound (by omega)) 9)
    have eK : aK (g_closeRound s 2000 x (aB s) R (aK s)) = aK s + 1 := by
      show cn (g_closeRound s 2000 x (aB s) R (aK s) 2000 9) = _
      rw [closeRound_eq c]
      refine (congrArg cn (crF_c (b := 2000))).trans (cn_nI (by omega))
    refine ⟨fun j h1 h2 => ?_, fun k h0 hk j h1 h2 => ?_⟩
    · rw [e9] at h1
      obtain ⟨z2, z3, z6⟩ := h.1 j h1 h2
      obtain ⟨m2, m6⟩ := crM_hi (s := s) (b := 2000) (x := x) (R := R) (K := aK s) h1
      rw [closeRound_eq c]
      refine ⟨?_, ?_, ?_⟩
      · rw [show crF (crM s 2000 x (aB s) R (aK s)) 2000 x R (aK s) 2002 = crM s 2000 x (aB s) R (aK s) 2002 from crF_row (b := 2000) (by omega)]
        exact m2.trans z2
      · refine (crF_w (b := 2000) h2).trans ?_
        exact m2.trans z2
      · rw [show crF (crM s 2000 x (aB s) R (aK s)) 2000 x R (aK s) 2006 = crM s 2000 x (aB s) R (aK s) 2006 from crF_row (b := 2000) (by omega)]
        exact m6.trans z6
    · rw [e9] at h1
      rw [eK] at hk
      by_cases ek : k = aK s
      · rw [ek]
        exact (cR_w (b := 2000) c l h2).trans (h.1 j h1 h2).2.1
      · rw [closeRound_eq c, crF_row (by omega), crM_row (by omega), crL_row (by omega)]
        exact h.2 k h0 (by omega) j h1 h2
  · have c : ¬ nI (aK s) < 60 := fun q => absurd ((nI_ltI (a := aK s) (b := 60) (by omega) (by omega)).mp q) (by omega)
    unfold g_closeRound
    rw [if_neg c]
    exact h
theorem OZ.endClock (h : OZ s) (hJ : JC s) (hB6 : B ≤ 6) (hg : ∀ i, i < 6 → gr i < 4) : OZ (g_endClock s R B K gr) := by
  have hx : XCT (u2 s 1000 7 2) := fun i hi => by
    rw [u2_ne (by omega)]
    exact hJ.hct i hi
  have H := endClock_loop (σ := s) (R := R) (K := K) hB6 hg (s0 := u2 s 1000 7 2) hx
  have e : ∀ q, q = 1001 ∨ (2000 ≤ q ∧ q ≤ 2999) → g_endClock s R B K gr q = s q := fun q hq => by
    unfold g_endClock
    rw [fr_find (by omega), H.2 q (by omega), u2_ne (by omega)]
  exact h.of (congrFun (e 1001 (by decide)) 9) (congrFun (e 2000 (by decide)) 9) (fun q hq j _ => congrFun (e q (by omega)) j)
theorem OZ.close (h : OZ σ) (hJ : JC σ) (hK : KB σ) (hR5 : R ≤ 5) (hg : ∀ i, i < 6 → gr i < 4) : OZ (g_close σ x R (aB σ) gr) := by
  have hB6 := hJ.hB.2
  unfold g_close
  split
  · split
    · have go : (JC (x_close_14 σ x R (aB σ) gr σ) ∧ KB (x_close_14 σ x R (aB σ) gr σ)) ∧ aB (x_close_14 σ x R (aB σ) gr σ) = aB σ ∧ OZ (x_close_14 σ x R (aB σ) gr σ) := by
        unfold x_close_14
        refine xitB_all (fun s => (JC s ∧ KB s) ∧ aB s = aB σ ∧ OZ s) (N := cn x) (fun i s s' hi hP => ?_) (cn x) 0 _ (Nat.zero_add _) ⟨⟨hJ, hK⟩, rfl, h⟩
        have h60 := hP.1.1.hK.2
        have C1 : JC (g_closeRound s 2000 (s 1000 8) (aB σ) R (cn (s 2000 9))) ∧ KB (g_closeRound s 2000 (s 1000 8) (aB σ) R (cn (s 2000 9))) := ⟨hP.1.1.closeRound, hP.1.2.closeRound hP.1.2.2.2.2.2.2 hR5 hB6 h60⟩
        have C2 : aB (g_closeRound s 2000 (s 1000 8) (aB σ) R (cn (s 2000 9))) = aB σ := (congrArg cn (congrFun (fr_closeRound (by omega)) 9)).trans hP.2.1
        have C3 : OZ (g_closeRound s 2000 (s 1000 8) (aB σ) R (cn (s 2000 9))) := by
          have := hP.2.2.closeRound (x := s 1000 8) (R := R) hP.1.1.hK
          rw [hP.2.1] at this
          exact this
        (try dsimp only)
        split
        · split
          · intro e
            rcases e with e | e
            · rw [← Sum.inl.inj e]
              exact ⟨C1, C2, C3⟩
            · cases e
          · intro e
            rcases e with e | e
            · rw [← Sum.inl.inj e]
              exact ⟨JK.endClock C1.1 C1.2 hB6 (by omega) hg, ((congrArg cn (congrFun (VC.endClock C1.1 hB6 hg).1 9)).trans C2), C3.endClock C1.1 hB6 hg⟩
            · cases e
        · intro e
          rcases e with e | e
          · cases e
          · rw [← Sum.inr.inj e]
            exact hP
      exact go.2.2
    · exact h
  · exact h
end
/-! loops that look for one thing -/
theorem xitU_l {step : Nat → Unit → Unit ⊕ Int32} : ∀ (n k : Nat), (∀ q, k ≤ q → q < k + n → step q () = .inl ()) → xitR step n k () = .inl ()
  | 0, _, _ => rfl
  | n + 1, k, h => by
    unfold xitR
    rw [h k (Nat.le_refl _) (by omega)]
    exact xitU_l n (k + 1) fun q h1 h2 => h q (by omega) (by omega)
theorem xitU_r {step : Nat → Unit → Unit ⊕ Int32} {r : Int32} : ∀ (n k : Nat), (∀ q, k ≤ q → q < k + n → step q () = .inl () ∨ step q () = .inr r) → (∃ q, k ≤ q ∧ q < k + n ∧ step q () = .inr r) → xitR step n k () = .inr r
  | 0, _, _, e => by
    obtain ⟨q, h1, h2, _⟩ := e
    omega
  | n + 1, k, h, e => by
    unfold xitR
    rcases h k (Nat.le_refl _) (by omega) with z | z
    · rw [z]
      refine xitU_r n (k + 1) (fun q h1 h2 => h q (by omega) (by omega)) ?_
      obtain ⟨q, h1, h2, h3⟩ := e
      by_cases c : q = k
      · rw [c, z] at h3
        cases h3
      · exact ⟨q, by omega, by omega, h3⟩
    · rw [z]
theorem xitBR_l {step : Nat → Unit → Unit ⊕ (Unit ⊕ Int32)} : ∀ (n k : Nat), (∀ q, k ≤ q → q < k + n → step q () = .inl ()) → xitBR step n k () = .inl ()
  | 0, _, _ => rfl
  | n + 1, k, h => by
    unfold xitBR
    rw [h k (Nat.le_refl _) (by omega)]
    exact xitBR_l n (k + 1) fun q h1 h2 => h q (by omega) (by omega)
theorem xitBR_b {step : Nat → Unit → Unit ⊕ (Unit ⊕ Int32)} : ∀ (n k : Nat), step k () = .inr (.inl ()) → xitBR step n k () = .inl ()
  | 0, _, _ => rfl
  | n + 1, k, h => by
    unfold xitBR
    rw [h]
theorem xitBR_r {step : Nat → Unit → Unit ⊕ (Unit ⊕ Int32)} {r : Int32} : ∀ (n k : Nat), (∀ q, k ≤ q → q < k + n → step q () = .inl () ∨ step q () = .inr (.inr r)) → (∃ q, k ≤ q ∧ q < k + n ∧ step q () = .inr (.inr r)) → xitBR step n k () = .inr r
  | 0, _, _, e => by
    obtain ⟨q, h1, h2, _⟩ := e
    omega
  | n + 1, k, h, e => by
    unfold xitBR
    rcases h k (Nat.le_refl _) (by omega) with z | z
    · rw [z]
      refine xitBR_r n (k + 1) (fun q h1 h2 => h q (by omega) (by omega)) ?_
      obtain ⟨q, h1, h2, h3⟩ := e
      by_cases c : q = k
      · rw [c, z] at h3
        cases h3
      · exact ⟨q, by omega, by omega, h3⟩
    · rw [z]
theorem xit_add {step : Nat → Int32 → Int32} {d : Nat → Int32} (h : ∀ i s, step i s = s + d i) : ∀ (f i : Nat) (s : Int32), xit step f i s = s + xit step f i 0
  | 0, _, s => (Int32.add_zero s).symm
  | f + 1, i, s => by
    show xit step f (i + 1) (step i s) = s + xit step f (i + 1) (step i 0)
    rw [xit_add h f (i + 1) (step i s), xit_add h f (i + 1) (step i 0), h i s, h i 0, Int32.zero_add, Int32.add_assoc]
theorem xitB_lall {S : Type} {step : Nat → S → S ⊕ S} {g : Nat → S → S} (h : ∀ i s, step i s = .inl (g i s)) : ∀ (f i : Nat) (s : S), xitB step f i s = xit g f i s
  | 0, _, _ => rfl
  | f + 1, i, s => by
    rw [xitB_l (h i s)]
    exact xitB_lall h f (i + 1) (g i s)
/-! signals -/
section
variable {τ σ t : XS9} {x y : Int32} {R B i n d : Nat} {cnt pk : Nat → Nat}
theorem le0_d {k : Nat} (hk : k ≤ 5) : nI k ≤ 0 ↔ k = 0 := nI_le0 (by omega)
theorem asks_eq {j : Nat} (hd : d < 5) (hc : ∀ k, k < cnt j → bd 7775 (σ (1022 + j) k)) : f_asksFor σ j d cnt = 0 ↔ ∀ k, k < cnt j → dgt (σ (1022 + j) k) d = 0 := by
  unfold f_asksFor
  by_cases c : ∀ k, k < cnt j → dgt (σ (1022 + j) k) d = 0
  · have e : x_asksFor_2 σ j d cnt () = .inl () := by
      unfold x_asksFor_2
      refine xitU_l _ _ fun k h1 h2 => ?_
      (try dsimp only)
      rw [many_d (hc k (by omega)) hd, if_pos ((le0_d dgt_le).mpr (c k (by omega)))]
    rw [e]
    exact ⟨fun _ => c, fun _ => rfl⟩
  · have e : x_asksFor_2 σ j d cnt () = .inr 1 := by
      unfold x_asksFor_2
      have st : ∀ k, k < cnt j → ¬ dgt (σ (1022 + j) k) d = 0 → (if (f_many (σ (1022 + j) k) d) ≤ 0 then (.inl () : Unit ⊕ Int32) else .inr 1) = .inr 1 := fun k hk hn => by
        rw [many_d (hc k hk) hd, if_neg (fun z => hn ((le0_d dgt_le).mp z))]
      refine xitU_r _ _ (fun k h1 h2 => ?_) ?_
      · (try dsimp only)
        split
        · exact .inl rfl
        · exact .inr rfl
      · obtain ⟨k, hk⟩ := Classical.not_forall.mp c
        obtain ⟨h1, h2⟩ := Classical.not_imp.mp hk
        exact ⟨k, Nat.zero_le _, by omega, st k h1 h2⟩
    rw [e]
    exact ⟨fun w => absurd (show (1 : Int32) = 0 from w) (by decide), fun w => absurd w c⟩
theorem ally_eq {j : Nat} (hi : i < 6) (hj : j < 6) : f_areAllies σ i j = 0 ↔ (i = j ∨ σ 1017 i = 0 ∨ ¬ σ 1017 i = σ 1017 j) := by
  unfold f_areAllies
  by_cases c1 : i = j
  · rw [if_pos (congrArg nI c1)]
    exact ⟨fun _ => .inl c1, fun _ => rfl⟩
  · rw [if_neg (fun z => c1 (by
      have := congrArg cn z
      rw [cn_nI (by omega), cn_nI (by omega)] at this
      exact this))]
    by_cases c2 : σ 1017 i = 0
    · rw [if_pos c2]
      exact ⟨fun _ => .inr (.inl c2), fun _ => rfl⟩
    · rw [if_neg c2]
      by_cases c3 : σ 1017 i = σ 1017 j
      · rw [if_pos c3]
        exact ⟨fun w => absurd w (by decide), fun w => w.elim (fun z => absurd z c1) (fun w => w.elim (fun z => absurd z c2) (fun z => absurd c3 z))⟩
      · rw [if_neg c3]
        exact ⟨fun _ => .inr (.inr c3), fun _ => rfl⟩
/-- another one of the group asks for the region -/
def riv (τ : XS9) (i d : Nat) : Prop := ∃ j, j < mB τ ∧ ¬ i = j ∧ τ (5020 + j) 3 = τ (5020 + i) 3 ∧ ∃ k, k < mpk τ j ∧ ¬ dgt (τ (5030 + j) (2 * k)) d = 0
theorem sig_eq (h : RM τ σ) (r : JR τ) (p : JP τ) (a : RA τ σ) (hcn : ∀ j, j < 6 → cnt j = pkB τ j) (e : ∀ q, 5001 ≤ q → q < 6000 → t q = τ q) (hi : i < mB τ) (hn : n < mpk τ i) : f_isSignal σ i n (mR τ) (mB τ) cnt = f_MisSignal t i n (mR τ) (mB τ) (mpk τ) := by
  have R5 := r.hR.2
  have B6 := r.hB.2
  have hc : ∀ j, j < mB τ → cnt j = mpk τ j := fun j hj => by
    rw [hcn j (by omega)]
    exact if_pos hj
  have k6 := (r.hpk i hi).2
  have am := AMs.ofP p i n (by omega) (by omega)
  have am2 := am.2
  have g7 : ∀ j, j < mB τ → σ 1017 j = τ (5020 + j) 3 := fun j hj => (a.2.2.1 j (by omega)).2.2.2
  have cd : ∀ j, j < mB τ → ∀ k, k < mpk τ j → σ (1022 + j) k = τ (5030 + j) (2 * k) ∧ bd 7775 (τ (5030 + j) (2 * k)) := fun j hj k hk => ⟨h.k.cd hj hk, Dm_bd r hj hk⟩
  obtain ⟨A, eA⟩ : ∃ A, A = cn (τ (5030 + i) (2 * n + 1)) := ⟨_, rfl⟩
  obtain ⟨d, ed⟩ : ∃ d, d = A % 10 := ⟨_, rfl⟩
  have d10 : d < 10 := by omega
  have e10 : τ (5030 + i) (2 * n + 1) - τ (5030 + i) (2 * n + 1) / 10 * 10 = nI d := by
    rw [am.1, ← eA, ed]
    exact nI_rem (m := A) (k := 10) (by omega) (by decide) (by decide)
  have cy := cd i hi n hn
  have lR : nI (mR τ) ≤ nI d ↔ mR τ ≤ d := nle (by omega) (by omega)
  have cd' : cn (nI d) = d := cn_nI (by omega)
  have nl : n_lt (nI d) (mR τ) ↔ d < mR τ := ⟨fun z => by have := z.2; rw [cd'] at this; exact this, fun z => ⟨by rw [cd'], by rw [cd']; exact z⟩⟩
  have ec : ∀ c, cn (σ (1031 + i) n - σ (1031 + i) n / 10 * 10) = c ↔ d = c := fun c => by rw [h.k.a hi hn, e10, cd']
  have em : ∀ c, cn (f_Bamount t i n - f_Bamount t i n / 10 * 10) = c ↔ d = c := fun c => by
    unfold f_Bamount
    rw [e _ (by omega) (by omega), e10, cd']
  have ecd : cn (σ (1031 + i) n - σ (1031 + i) n / 10 * 10) = d := (ec d).mpr rfl
  have emd : cn (f_Bamount t i n - f_Bamount t i n / 10 * 10) = d := (em d).mpr rfl
  -- the program's search
  have C0 : d < 5 → (τ (5020 + i) 3 = 0 ∨ ¬ riv τ i d) → x_isSignal_43 σ i n (mR τ) (mB τ) cnt () = .inl () := fun hd hh => by
    unfold x_isSignal_43
    refine xitU_l _ _ fun j h1 h2 => ?_
    (try dsimp only)
    rw [ecd]
    by_cases c : f_areAllies σ i j = 0
    · rw [if_pos c]
    · rw [if_neg c]
      have nc := fun z => c ((ally_eq (σ := σ) (i := i) (j := j) (by omega) (by omega)).mpr z)
      rw [if_pos ((asks_eq (σ := σ) (j := j) hd (fun k hk => by
        rw [hc j (by omega)] at hk
        rw [(cd j (by omega) k hk).1]
        exact (cd j (by omega) k hk).2)).mpr fun k hk => ?_)]
      rw [hc j (by omega)] at hk
      rw [(cd j (by omega) k hk).1]
      refine Classical.byContradiction fun hne => ?_
      rw [g7 i hi, g7 j (by omega)] at nc
      rcases hh with hh | hh
      · exact nc (.inr (.inl hh))
      · exact hh ⟨j, by omega, fun z => nc (.inl z), Classical.byContradiction fun z => nc (.inr (.inr fun z2 => z z2.symm)), k, hk, hne⟩
  have C1 : d < 5 → ¬ τ (5020 + i) 3 = 0 → riv τ i d → x_isSignal_43 σ i n (mR τ) (mB τ) cnt () = .inr 1 := fun hd h0 hh => by
    obtain ⟨j, j1, j2, j3, k, k1, k2⟩ := hh
    unfold x_isSignal_43
    refine xitU_r _ _ (fun q h1 h2 => ?_) ⟨j, Nat.zero_le _, by omega, ?_⟩
    · (try dsimp only)
      split
      · exact .inl rfl
      · split
        · exact .inl rfl
        · exact .inr rfl
    · have g1 : ¬ f_areAllies σ i j = 0 := fun z => by
        have := (ally_eq (σ := σ) (i := i) (j := j) (by omega) (by omega)).mp z
        rw [g7 i hi, g7 j j1] at this
        exact this.elim j2 fun w => w.elim h0 fun w => w j3.symm
      have g2 : ¬ f_asksFor σ j d cnt = 0 := fun z => by
        have := (asks_eq (σ := σ) (j := j) hd (fun k hk => by
          rw [hc j j1] at hk
          rw [(cd j j1 k hk).1]
          exact (cd j j1 k hk).2)).mp z k (by rw [hc j j1]; exact k1)
        rw [(cd j j1 k k1).1] at this
        exact k2 this
      (try dsimp only)
      rw [ecd, if_neg g1, if_neg g2]
  -- the reference's
  have bc : ∀ j, j < mB τ → ∀ k, f_Bcode t j k = τ (5030 + j) (2 * k) := fun j hj k => by
    unfold f_Bcode
    rw [e _ (by omega) (by omega)]
  have t3 : ∀ j, j < mB τ → t (5020 + j) 3 = τ (5020 + j) 3 := fun j hj => by rw [e _ (by omega) (by omega)]
  have I0 : d < 5 → ∀ j, j < mB τ → (i = j ∨ ¬ τ (5020 + j) 3 = τ (5020 + i) 3 ∨ ∀ k, k < mpk τ j → dgt (τ (5030 + j) (2 * k)) d = 0) → x_MisSignal_85 t i n (mR τ) (mB τ) (mpk τ) j () = .inl () := fun hd j hj hh => by
    unfold x_MisSignal_85
    by_cases c1 : i = j
    · refine xitBR_b _ _ ?_
      (try dsimp only)
      rw [if_pos (congrArg nI c1.symm)]
    · have c1' : ¬ nI j = nI i := fun z => c1 (by
        have := congrArg cn z
        rw [cn_nI (by omega), cn_nI (by omega)] at this
        exact this.symm)
      by_cases c2 : τ (5020 + j) 3 = τ (5020 + i) 3
      · have h3 := (hh.resolve_left c1).resolve_left (fun z => z c2)
        refine xitBR_l _ _ fun k h1 h2 => ?_
        (try dsimp only)
        rw [if_neg c1', if_pos (by rw [t3 j hj, t3 i hi]; exact c2), emd, bc j hj, of_d (cd j hj k (by omega)).2 hd, if_pos ((le0_d dgt_le).mpr (h3 k (by omega)))]
      · refine xitBR_b _ _ ?_
        (try dsimp only)
        rw [if_neg c1', if_neg (by rw [t3 j hj, t3 i hi]; exact c2)]
  have I1 : d < 5 → ∀ j, j < mB τ → ¬ i = j → τ (5020 + j) 3 = τ (5020 + i) 3 → (∃ k, k < mpk τ j ∧ ¬ dgt (τ (5030 + j) (2 * k)) d = 0) → x_MisSignal_85 t i n (mR τ) (mB τ) (mpk τ) j () = .inr 1 := fun hd j hj c1 c2 hh => by
    have c1' : ¬ nI j = nI i := fun z => c1 (by
      have := congrArg cn z
      rw [cn_nI (by omega), cn_nI (by omega)] at this
      exact this.symm)
    obtain ⟨k, k1, k2⟩ := hh
    unfold x_MisSignal_85
    refine xitBR_r _ _ (fun q h1 h2 => ?_) ⟨k, Nat.zero_le _, by omega, ?_⟩
    · (try dsimp only)
      rw [if_neg c1', if_pos (by rw [t3 j hj, t3 i hi]; exact c2)]
      split
      · exact .inl rfl
      · exact .inr rfl
    · (try dsimp only)
      rw [if_neg c1', if_pos (by rw [t3 j hj, t3 i hi]; exact c2), emd, bc j hj, of_d (cd j hj k k1).2 hd, if_neg (fun z => k2 ((le0_d dgt_le).mp z))]
  have M0 : d < 5 → ¬ riv τ i d → x_MisSignal_56 t i n (mR τ) (mB τ) (mpk τ) () = .inl () := fun hd hh => by
    unfold x_MisSignal_56
    refine xitU_l _ _ fun j h1 h2 => ?_
    (try dsimp only)
    rw [I0 hd j (by omega) ?_]
    by_cases c1 : i = j
    · exact .inl c1
    · by_cases c2 : τ (5020 + j) 3 = τ (5020 + i) 3
      · exact .inr (.inr fun k hk => Classical.byContradiction fun z => hh ⟨j, by omega, c1, c2, k, hk, z⟩)
      · exact .inr (.inl c2)
  have M1 : d < 5 → riv τ i d → x_MisSignal_56 t i n (mR τ) (mB τ) (mpk τ) () = .inr 1 := fun hd hh => by
    obtain ⟨j, j1, j2, j3, j4⟩ := hh
    unfold x_MisSignal_56
    refine xitU_r _ _ (fun q h1 h2 => ?_) ⟨j, Nat.zero_le _, by omega, ?_⟩
    · (try dsimp only)
      by_cases c : i = q ∨ ¬ τ (5020 + q) 3 = τ (5020 + i) 3 ∨ ∀ k, k < mpk τ q → dgt (τ (5030 + q) (2 * k)) d = 0
      · rw [I0 hd q (by omega) c]
        exact .inl rfl
      · rw [I1 hd q (by omega) (fun z => c (.inl z)) (Classical.byContradiction fun z => c (.inr (.inl z))) (Classical.byContradiction fun z => c (.inr (.inr fun k hk => Classical.byContradiction fun z2 => z ⟨k, hk, z2⟩)))]
        exact .inr rfl
    · (try dsimp only)
      rw [I1 hd j j1 j2 j3 j4]
  have eb : f_Bamount t i n - f_Bamount t i n / 10 * 10 = nI d := by
    unfold f_Bamount
    rw [e _ (by omega) (by omega)]
    exact e10
  have ea : σ (1031 + i) n - σ (1031 + i) n / 10 * 10 = nI d := by
    rw [h.k.a hi hn]
    exact e10
  unfold f_isSignal f_MisSignal
  rw [eb, ea, bc i hi n, t3 i hi, cy.1]
  by_cases c1 : d < mR τ
  · have d5 : d < 5 := by omega
    rw [if_neg (fun z => absurd (lR.mp z) (by omega)), if_pos (nl.mpr c1), cd', many_d cy.2 d5, of_d cy.2 d5]
    have g5 : dgt (τ (5030 + i) (2 * n)) d ≤ 5 := dgt_le
    by_cases c2 : dgt (τ (5030 + i) (2 * n)) d = 0
    · rw [c2, if_pos (show nI 0 = (0 : Int32) from rfl), if_neg (show ¬ (0 : Int32) < nI 0 by decide)]
      by_cases c3 : τ (5020 + i) 3 = 0
      · rw [if_pos c3, C0 d5 (.inl c3)]
      · rw [if_neg c3]
        by_cases c4 : riv τ i d
        · rw [C1 d5 c3 c4, M1 d5 c4]
        · rw [C0 d5 (.inr c4), M0 d5 c4]
    · rw [if_neg (fun z => c2 ((le0_d g5).mp (by rw [z]; exact Int32.le_refl _))), if_pos (Int32.not_le.mp fun z => c2 ((le0_d g5).mp z))]
  · rw [if_pos (lR.mpr (by omega)), if_neg (fun z => c1 (nl.mp z))]
theorem sigs_eq (h : RM τ σ) (r : JR τ) (p : JP τ) (a : RA τ σ) (hcn : ∀ j, j < 6 → cnt j = pkB τ j) (e : ∀ q, 5001 ≤ q → q < 6000 → t q = τ q) : f_signals σ (mR τ) (mB τ) cnt = f_Msignals t (mR τ) (mB τ) (mpk τ) := by
  have B6 := r.hB.2
  unfold f_signals f_Msignals x_signals_4 x_Msignals_4
  refine xit_cg (N := mB τ) (fun i s hi => ?_) (mB τ) 0 0 (Nat.zero_add _)
  (try dsimp only)
  have hc : cnt i = mpk τ i := by
    rw [hcn i (by omega)]
    exact if_pos hi
  unfold x_signals_15 x_Msignals_17
  rw [hc]
  refine xit_cg (N := mpk τ i - 1) (fun k s hk => ?_) (mpk τ i - 1) 0 s (Nat.zero_add _)
  (try dsimp only)
  rw [sig_eq h r p a hcn e hi (show 1 + k < mpk τ i by omega), Int32.add_zero]
end
end
section
/-! ===== the sale's numbers ===== -/
def pb (b0 b1 b2 b3 b4 b5 : Bool) (i : Nat) : Bool := match i with | 0 => b0 | 1 => b1 | 2 => b2 | 3 => b3 | 4 => b4 | _ => b5
theorem bits6 : ∀ b0 b1 b2 b3 b4 b5 : Bool, f_bitCount (xit (fun i (s : Int32) => if pb b0 b1 b2 b3 b4 b5 i = true then s ||| (1 <<< ((nI i) &&& 31)) else s ||| 0) 6 0 0) = xit (fun i (s : Int32) => if pb b0 b1 b2 b3 b4 b5 i = true then s + 1 else s) 6 0 0 := by decide +kernel
theorem cnt_bits {f : Nat → Int32} : f_bitCount (xit (fun i (s : Int32) => if f i = -1 then s ||| 0 else s ||| (1 <<< ((nI i) &&& 31))) 6 0 0) = xit (fun i (s : Int32) => if f i = -1 then s else s + 1) 6 0 0 := by
  obtain ⟨b, eb⟩ : ∃ b : Nat → Bool, ∀ i, b i = true ↔ ¬ f i = -1 := ⟨fun i => decide (¬ f i = -1), fun i => decide_eq_true_iff⟩
  have hb : ∀ i, i < 6 → pb (b 0) (b 1) (b 2) (b 3) (b 4) (b 5) i = b i := fun i hi => by
    match i, hi with
    | 0, _ => rfl
    | 1, _ => rfl
    | 2, _ => rfl
    | 3, _ => rfl
    | 4, _ => rfl
    | 5, _ => rfl
  have e1 : xit (fun i (s : Int32) => if f i = -1 then s ||| 0 else s ||| (1 <<< ((nI i) &&& 31))) 6 0 0 = xit (fun i (s : Int32) => if pb (b 0) (b 1) (b 2) (b 3) (b 4) (b 5) i = true then s ||| (1 <<< ((nI i) &&& 31)) else s ||| 0) 6 0 0 := xit_cg (N := 6) (fun i s hi => by
    (try dsimp only)
    rw [hb i hi]
    by_cases c : f i = -1
    · rw [if_pos c, if_neg (fun w => (eb i).mp w c)]
    · rw [if_neg c, if_pos ((eb i).mpr c)]) 6 0 0 rfl
  have e2 : xit (fun i (s : Int32) => if f i = -1 then s else s + 1) 6 0 0 = xit (fun i (s : Int32) => if pb (b 0) (b 1) (b 2) (b 3) (b 4) (b 5) i = true then s + 1 else s) 6 0 0 := xit_cg (N := 6) (fun i s hi => by
    (try dsimp only)
    rw [hb i hi]
    by_cases c : f i = -1
    · rw [if_pos c, if_neg (fun w => (eb i).mp w c)]
    · rw [if_neg c, if_pos ((eb i).mpr c)]) 6 0 0 rfl
  rw [e1, e2]
  exact bits6 _ _ _ _ _ _
theorem all63 : ∀ B, B ≤ 6 → 63 &&& (2 ^ B - 1) = 2 ^ B - 1 ∧ 2 ^ B - 1 < 64 := by decide
section
variable {τ σ t : XS9} {x y : Int32} {B R K C : Nat} {cnt pk : Nat → Nat}
theorem sale_w (h : RM τ σ) (r : JR τ) (p : JP τ) (a : RA τ σ) : σ 1041 63 = g_Cinit (u2 τ 5000 0 0) (mR τ) (mB τ) (mpk τ) (mgr τ) (mcd τ) 9003 (2 ^ mB τ - 1) := by
  obtain ⟨e1, e2⟩ := all63 (mB τ) r.hB.2
  obtain ⟨W, b, f, fw, _, _, hw, _⟩ := h.pay r p a
  rw [(h.cho r p).2 _ e2, hw 63 (by decide), hw _ e2, ← e1, (fw.1 63 (by decide)).2.2]
theorem sale_n (h : RM τ σ) (r : JR τ) (p : JP τ) (a : RA τ σ) (e1 : t 5000 1 = τ 5000 1) (e5 : t 5005 = τ 5005) (e9 : ∀ j, j < 6 → t 9001 j = σ 1040 j) : f_winners σ = if t 5000 1 = 3 then f_MwinnersKept t (mB τ) else f_bitCount (f_Cwinners t) := by
  have B6 := r.hB.2
  unfold f_winners x_winners_4 f_MwinnersKept x_MwinnersKept_4 f_Cwinners x_Cwinners_4
  rw [e1, e5]
  by_cases c : τ 5000 1 = 3
  · rw [if_pos c]
    have w := (h.m (fun z => absurd (c ▸ z) (by decide))).2.1
    exact cnt_eq B6 (fun j hj => ((h.n3 c).1.1 j hj).symm) (fun j h1 h2 => w.hi h1 h2)
  · rw [if_neg c]
    have e : xit (fun i4 (s4 : Int32) => (if (t 9001 i4) = (-1) then s4 ||| 0 else s4 ||| (1 <<< ((nI i4) &&& 31)))) 6 0 0 = xit (fun i (s : Int32) => if σ 1040 i = -1 then s ||| 0 else s ||| (1 <<< ((nI i) &&& 31))) 6 0 0 := xit_cg (N := 6) (fun i s hi => by
      (try dsimp only)
      rw [e9 i hi]) 6 0 0 rfl
    rw [e, cnt_bits]
/-- clashes of all -/
theorem sale_c (h : RM τ σ) (r : JR τ) (p : JP τ) (e1 : t 5000 1 = τ 5000 1) (e : ∀ q, 5001 ≤ q → q < 6000 → t q = τ q) {g : Nat} : σ 1005 1 = x_Msale13_279 t (mR τ) (mB τ) K C pk g (mtn τ) (msp τ) 0 := by
  have R5 := r.hR.2
  have B6 := r.hB.2
  unfold x_Msale13_279
  rw [e1]
  by_cases c : τ 5000 1 = 3
  · rw [xitB_lall (g := fun i s => x_Msale13_302 t (mR τ) (mB τ) K C pk g (mtn τ) (msp τ) i s) (fun i s => if_pos c)]
    have H := (NM3.holds r h.k p c).of (v := t) fun q hq => e q (by omega) (by omega)
    have eT : mtn τ = fun o => cn (t 5007 o) := funext fun o => by
      rw [e 5007 (by decide) (by decide)]
    have one : ∀ i, i < mR τ → ∀ s, x_Msale13_302 t (mR τ) (mB τ) K C pk g (mtn τ) (msp τ) i s = s + nI (nsum (clN (nbK τ) (wK τ) (msp τ) (mtn τ) i (mtn τ i)) i) := fun i hi s => by
      have k := clO_m (σ := t) (v := t) (w := wK τ) (nb := nbK τ) (sp := msp τ) (sp2 := msp τ) (t := mtn τ i) H B6 hi R5 (fun o ho => ⟨rfl, (r.hsp o ho).2⟩) (fun o ho => by
        rw [e _ (by omega) (by omega)]
        exact (b_tst1 (by omega)).1)
      rw [← eT] at k
      have q : x_Msale13_302 t (mR τ) (mB τ) K C pk g (mtn τ) (msp τ) i s = x_Mkeep_79 t t i (mB τ) (msp τ) (mtn τ i) s := by
        unfold x_Msale13_302 x_Mkeep_79
        refine xit_cg (N := i) (fun o s2 ho => ?_) i 0 s (Nat.zero_add _)
        (try dsimp only)
        rw [eT, Int32.add_zero]
      rw [q]
      have ad := xit_add (step := fun i79 (s79 : Int32) => (if (((t (5010 + i) 3) >>> ((nI i79) &&& 31)) &&& 1) = 1 then s79 + (f_Mclashes t i (mtn τ i) i79 (cn (t 5007 i79)) (mB τ) (msp τ)) else s79 + 0)) (d := fun i79 => if (((t (5010 + i) 3) >>> ((nI i79) &&& 31)) &&& 1) = 1 then f_Mclashes t i (mtn τ i) i79 (cn (t 5007 i79)) (mB τ) (msp τ) else 0) (fun o s2 => by
        (try dsimp only)
        split
        · rfl
        · rfl) i 0 s
      exact ad.trans (congrArg (s + ·) k)
    refine ((h.n3 c).2.2).trans ?_
    exact ((xit_cg (N := mR τ) (step' := fun i (s : Int32) => s + nI (nsum (clN (nbK τ) (wK τ) (msp τ) (mtn τ) i (mtn τ i)) i)) (fun i s hi => one i hi s) (mR τ) 0 0 (Nat.zero_add _)).trans (xsum_n (t := fun i => nI (nsum (clN (nbK τ) (wK τ) (msp τ) (mtn τ) i (mtn τ i)) i)) (fun i _ => rfl))).symm
  · rw [(h.n0 c).2]
    cases hR : mR τ with
    | zero => rfl
    | succ n => rw [xitB_r (s' := 0) (if_neg c)]
/-- contradictions of all -/
theorem sale_k (h : RC τ σ) (r : JR τ) (a : RA τ σ) (z9 : RZ τ) (m : RM τ σ) (p : JP τ) (oz : OZ σ) (eB : aB σ = mB τ) {tn sp : Nat → Nat} (e7 : ∀ q, 7000 ≤ q → q < 8000 → t q = τ q) : f_allContradictions σ 2000 = x_Msale8_176 t (mR τ) (mB τ) K C (mpk τ) (mg τ) tn sp 0 := by
  have B6 := r.hB.2
  unfold f_allContradictions x_allContradictions_4 x_Msale8_176
  have e1 : xsum (fun i => σ 2006 i) 6 = xsum (fun i => σ 2006 i) (mB τ) := xsum_cut (fun j h1 h2 => (oz.1 j (by rw [eB]; exact h1) h2).2.2) B6
  refine Eq.trans e1 ?_
  refine xit_cg (N := mB τ) (fun i s hi => ?_) (mB τ) 0 0 (Nat.zero_add _)
  (try dsimp only)
  congr 1
  have F := facts_b h r a z9 m p (k := 10) hi (Nat.le_refl _)
  refine Eq.trans F ?_
  show (if u2 τ 5000 0 0 7000 25 = 0 then (0 : Int32) else u2 τ 5000 0 0 (7000 + 5) i) = if t 7000 25 = 0 then 0 else t (7000 + 5) i
  rw [u2_ne (by decide), u2_ne (by decide), e7 _ (by decide) (by decide), e7 _ (by decide) (by decide)]
theorem facts_s (h : RC τ σ) (r : JR τ) (a : RA τ σ) (z9 : RZ τ) (m : RM τ σ) (p : JP τ) (oz : OZ σ) (d : RD τ) (eB : aB σ = mB τ) (hcn : ∀ j, j < 6 → cnt j = pkB τ j) {k : Nat} (hk : k ≤ 16) : f_saleFact σ (mK τ) (mB τ) (mR τ) (mC τ) (aw σ) cnt k = f_MsaleNow (g_Cinit (u2 τ 5000 0 0) (mR τ) (mB τ) (mpk τ) (mgr τ) (mcd τ)) (mR τ) (mB τ) (mK τ) (mC τ) (mpk τ) (mg τ) (mtn τ) (msp τ) k := by
  have R5 := r.hR.2
  have B6 := r.hB.2
  obtain ⟨c1, c2⟩ := m.cho r p
  have sw := sale_w m r p a
  have lo : ∀ q, q < 9000 → g_Cinit (u2 τ 5000 0 0) (mR τ) (mB τ) (mpk τ) (mgr τ) (mcd τ) q = u2 τ 5000 0 0 q := fun q hq => cho_lo hq
  generalize g_Cinit (u2 τ 5000 0 0) (mR τ) (mB τ) (mpk τ) (mgr τ) (mcd τ) = t at c1 c2 sw lo ⊢
  have t5 : ∀ i, i ≠ 0 → t 5000 i = τ 5000 i := fun i hi => by rw [lo _ (by decide), u2_oi hi]
  have tq : ∀ q, 5001 ≤ q → q < 9000 → t q = τ q := fun q h1 h2 => by rw [lo _ h2, u2_ne (by omega)]
  match k, hk with
  | 0, _ =>
    show σ 1000 7 = t 5000 1
    rw [t5 1 (by decide)]
    exact h.st
  | 1, _ =>
    show (if (σ 1000 7) = 1 then nI (mK τ + 1) else nI (mK τ)) = (if (t 5000 1) = 0 then 0 else (if (t 5000 1) = 1 then nI (mK τ + 1) else nI (mK τ)))
    rw [t5 1 (by decide), h.st]
    by_cases c : τ 5000 1 = 0
    · rw [if_pos c, if_neg (fun z => absurd (c.symm.trans z) (by decide))]
      have : mK τ = 0 := by
        show cn (τ 5003 900) = 0
        rw [(r.hp0 c).2.2]
        rfl
      rw [this]
      rfl
    · rw [if_neg c]
  | 2, _ => rfl
  | 3, _ => rfl
  | 4, _ => rfl
  | 5, _ =>
    show σ 1001 10 = t 5000 2
    rw [t5 2 (by decide)]
    exact a.1.2.1
  | 6, _ =>
    show (if (σ 1001 11) = 0 then (0 : Int32) else 1) = if (t 5000 3) = 0 then 0 else 1
    rw [t5 3 (by decide), a.1.2.2]
  | 7, _ =>
    show σ 1000 8 = t 5000 4
    rw [t5 4 (by decide)]
    exact h.stp
  | 8, _ => exact sale_k (K := mK τ) (C := mC τ) (tn := mtn τ) (sp := msp τ) h r a z9 m p oz eB (fun q h1 h2 => tq q (by omega) (by omega))
  | 9, _ => exact sale_n m r p a (t5 1 (by decide)) (tq 5005 (by decide) (by decide)) (fun j hj => c1 j hj)
  | 10, _ => exact sw
  | 11, _ =>
    show xit (fun i4 s4 => s4 + (f_dueOf σ i4 (aw σ))) (mB τ) 0 0 = xit (fun i242 s242 => s242 + (f_Mdue t i242 (mB τ))) (mB τ) 0 0
    refine xit_cg (N := mB τ) (fun i s hi => ?_) (mB τ) 0 0 (Nat.zero_add _)
    (try dsimp only)
    rw [due_m m r p a h.st d (t5 1 (by decide)) (fun q h1 h2 => tq q h1 (by omega)) hi]
  | 12, _ =>
    show σ 1000 10 = t 5000 5
    rw [t5 5 (by decide)]
    exact m.d
  | 13, _ => exact sale_c (K := mK τ) (C := mC τ) (pk := mpk τ) (g := mg τ) m r p (t5 1 (by decide)) (fun q h1 h2 => tq q h1 (by omega))
  | 14, _ => exact sigs_eq m r p a hcn (fun q h1 h2 => tq q h1 (by omega))
  | 15, _ => rfl
  | 16, _ =>
    show σ 1000 11 = t 5000 6
    rw [t5 6 (by decide)]
    exact a.1.1
  | n + 17, hk => exact absurd hk (by omega)
theorem says_sale (h : RC τ σ) (r : JR τ) (a : RA τ σ) (z9 : RZ τ) (m : RM τ σ) (p : JP τ) (oz : OZ σ) (d : RD τ) (eB : aB σ = mB τ) (hcn : ∀ j, j < 6 → cnt j = pkB τ j) : g_Msale τ x (mR τ) (mB τ) (mpk τ) (mgr τ) (mcd τ) (mK τ) (mC τ) (mg τ) (mtn τ) (msp τ) 5000 0 = lw_k [eIAE] (o_sale σ x (mK τ) (mB τ) (mR τ) (mC τ) (aw σ) cnt) ∧ ∀ w, o_sale σ x (mK τ) (mB τ) (mR τ) (mC τ) (aw σ) cnt = .inl w → w = f_Msale τ x (mR τ) (mB τ) (mpk τ) (mgr τ) (mcd τ) (mK τ) (mC τ) (mg τ) (mtn τ) (msp τ) := by
  unfold g_Msale o_sale f_Msale
  by_cases c1 : n_bt x 0 16
  · have hy := bd.bt (m := 16) c1 (by decide) rfl (by decide)
    rw [if_pos c1, if_pos c1, if_pos c1]
    refine ⟨?_, fun w e => ?_⟩
    · rw [u2_ne (by decide), cho_lo (by decide), u2_at]
      rfl
    · rw [← Sum.inl.inj e]
      exact facts_s h r a z9 m p oz d eB hcn hy.2
  · rw [if_neg c1, if_neg c1, if_neg c1]
    exact bad rfl
end
end
