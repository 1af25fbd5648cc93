/-! ===== the clock is over: packages 0 on both sides ===== -/
section
variable {τ σ s t : XS9} {B R K i : Nat} {gr pk : Nat → Nat} {c am : Nat → Int32}
def stEc (R B K : Nat) (gr : Nat → Nat) (i7 : Nat) (s7 : XS9) : XS9 := (if (s7 (2000 + 2) i7) = 0 then s7 else g_addM s7 i7 (s7 (2000 + 2) i7) (f_lastValue s7 2000 (s7 (2000 + 2) i7) K) R B gr (fun j => cn (s7 1020 j)))
def stAm (pk : Nat → Nat) (c am : Nat → Int32) (i : Nat) (s : XS9) : XS9 := (if c i ≤ 0 then s else g_Madd s i (pk i) (c i) (am i))
theorem add_loop (a : TA t s) (F : TKF t) (k : RK t s) (m : MKT t s) (w : MKW t s) (hg : ∀ j, j < 6 → gr j = mgr t j ∧ gr j < 4) (hK : K < 60) (hpk : ∀ j, j < mB t → mpk t j = 0 ∧ pk j = 0) (hc : ∀ j, j < mB t → s 2002 j = c j ∧ bd 7775 (c j) ∧ cn (c j) < 6 ^ mR t ∧ bd 300000 (am j) ∧ f_lastValue s 2000 (c j) K = am j) : (RK (xit (stAm pk c am) (mB t) 0 t) (xit (stEc (mR t) (mB t) K gr) (mB t) 0 s) ∧ MKT (xit (stAm pk c am) (mB t) 0 t) (xit (stEc (mR t) (mB t) K gr) (mB t) 0 s) ∧ MKW (xit (stAm pk c am) (mB t) 0 t) (xit (stEc (mR t) (mB t) K gr) (mB t) 0 s)) ∧ (TKF (xit (stAm pk c am) (mB t) 0 t) ∧ TA (xit (stAm pk c am) (mB t) 0 t) (xit (stEc (mR t) (mB t) K gr) (mB t) 0 s)) ∧ (∀ q, (q < 1020 ∨ 1124 < q) → xit (stEc (mR t) (mB t) K gr) (mB t) 0 s q = s q) ∧ ∀ q, (q < 5030 ∨ 5035 < q) → xit (stAm pk c am) (mB t) 0 t q = t q := by
  have hB6 := F.1.2
  have H := xit_two (f := stEc (mR t) (mB t) K gr) (g := stAm pk c am) (fun i s2 t2 => (RK t2 s2 ∧ MKT t2 s2 ∧ MKW t2 s2) ∧ (TKF t2 ∧ TA t2 s2) ∧ (∀ q, (q < 1020 ∨ 1124 < q) → s2 q = s q) ∧ (∀ q, (q < 5030 ∨ 5035 < q) → t2 q = t q) ∧ ∀ j, i ≤ j → j < mB t → mpk t2 j = 0) (N := mB t) (fun i s2 t2 hi hP => ?_) (mB t) 0 s t (Nat.zero_add _) ⟨⟨k, m, w⟩, ⟨F, a⟩, fun _ _ => rfl, fun _ _ => rfl, fun j _ hj => (hpk j hj).1⟩
  · exact ⟨H.1, H.2.1, H.2.2.1, H.2.2.2.1⟩
  · obtain ⟨⟨k2, m2, w2⟩, ⟨F2, a2⟩, f1, f2, n2⟩ := hP
    obtain ⟨c1, c2, c3, c4, c5⟩ := hc i hi
    have eR : mR t2 = mR t := by
      show cn (t2 5001 900) = _
      rw [f2 _ (by decide)]
    have eB : mB t2 = mB t := by
      show cn (t2 5002 900) = _
      rw [f2 _ (by decide)]
    have eh : s2 (2000 + 2) i = c i := by rw [f1 _ (by decide)]; exact c1
    have el : f_lastValue s2 2000 (c i) K = am i := by
      rw [← c5]
      unfold f_lastValue
      rw [f1 _ (by omega)]
    have c0 : c i ≤ 0 ↔ c i = 0 := by
      refine ⟨fun w => ?_, fun w => by rw [w]; exact Int32.le_refl _⟩
      have h2 := c2.2
      rw [c2.1] at w ⊢
      rw [(nI_le0 (by omega)).mp w]
      rfl
    have n0 := n2 i (Nat.le_refl _) hi
    unfold stEc stAm
    rw [eh, el, (hpk i hi).2]
    by_cases z : c i = 0
    · rw [if_pos z, if_pos (c0.mpr z)]
      exact ⟨⟨k2, m2, w2⟩, ⟨F2, a2⟩, f1, f2, fun j h1 h2 => n2 j (by omega) h2⟩
    · rw [if_neg z, if_neg (fun w => z (c0.mp w))]
      have hn : mpk t2 i < 6 := by omega
      have A := add_step (gr := gr) (cnt := fun j => cn (s2 1020 j)) a2 F2 k2 m2 (by rw [eB]; exact hi) hn c2 (by rw [eR]; exact c3) c4 (fun j hj => ⟨(hg j hj).1.trans (by
        show cn (t (5020 + j) 3) = cn (t2 (5020 + j) 3)
        rw [f2 _ (by omega)]), (hg j hj).2⟩) (fun j hj => by
        (try dsimp only)
        rw [k2.n hj]
        exact cn_nI (by have := F2.p6 j hj; omega))
      have F3 := F2.madd (i := i) (by rw [eB]; exact hi) hn c2 (by rw [eR]; exact c3) c4
      rw [eR, eB] at A
      rw [n0] at A F3
      have fa : ∀ q, (q < 1020 ∨ 1124 < q) → g_addM s2 i (c i) (am i) (mR t) (mB t) gr (fun j => cn (s2 1020 j)) q = s2 q := fun q hq => fr_addM ⟨by omega, hq, fun j hj => (hg j hj).2⟩ (by
        (try dsimp only)
        rw [k2.n (by omega : i < 6)]
        rw [cn_nI (by have := F2.p6 i (by omega); omega)]
        exact F2.p6 i (by omega))
      have fm : ∀ q, (q < 5030 ∨ 5035 < q) → g_Madd t2 i 0 (c i) (am i) q = t2 q := fun q hq => madd_row (by omega)
      refine ⟨A, ⟨F3, ?_⟩, fun q hq => (fa q hq).trans (f1 q hq), fun q hq => (fm q hq).trans (f2 q hq), fun j h1 h2 => ?_⟩
      · refine ⟨by rw [fa _ (by decide), fm _ (by decide)]; exact a2.1, fun r hr => ?_⟩
        rw [fa _ (by decide), fm _ (by omega)]
        exact a2.2 r hr
      · rw [mpk_j (by omega)]
        exact n2 j (by omega) h2
/-- what packages 0 are worth -/
theorem last_eq {x : Int32} {f : Nat → Int32} {g : Nat → Int32} (hx : bd 7775 x) (hR5 : R ≤ 5) (h : ∀ r, r < R → f r = g r) (hz : ∀ r, R ≤ r → r < 5 → f r = 0) : f_total x 5 f = xit (fun i138 (s138 : Int32) => s138 + ((f_of x i138) * (g i138))) R 0 0 := by
  rw [total_x, xsum_cut (N := R) (M := 5) (fun j a b => by
    (try dsimp only)
    rw [hz j a b, Int32.mul_zero]) hR5]
  exact xsum_cg fun i hi => by
    (try dsimp only)
    rw [many_of hx (by omega), h i hi]
theorem last_bd {x : Int32} {g : Nat → Int32} (hx : bd 7775 x) (hR5 : R ≤ 5) (h : ∀ r, r < R → bd 9999 (g r)) : bd 300000 (xit (fun i138 (s138 : Int32) => s138 + ((f_of x i138) * (g i138))) R 0 0) := by
  have e : xit (fun i138 (s138 : Int32) => s138 + ((f_of x i138) * (g i138))) R 0 0 = nI (nsum (fun r => dgt x r * cn (g r)) R) := xsum_n (t := fun r => f_of x r * g r) (fun r hr => by
    (try dsimp only)
    rw [of_d hx (by omega), (h r hr).1, nI_mul, ← (h r hr).1])
  have l := nsum_le (d := fun r => dgt x r * cn (g r)) (k := 49995) (N := R) fun r hr => by
    have h1 := dgt_le (c := x) (r := r)
    have h2 := (h r hr).2
    (try dsimp only)
    calc dgt x r * cn (g r) ≤ 5 * 9999 := Nat.mul_le_mul h1 h2
      _ ≤ 49995 := by decide
  rw [e]
  exact bd.nat (by omega) (by decide)
/-- a code without digits beyond the regions -/
theorem code_lt {x : Int32} (hx : bd 7775 x) (hR5 : R ≤ 5) (hz : ∀ r, R ≤ r → r < 5 → dgt x r = 0) : cn x < 6 ^ R := by
  have h2 := hx.2
  unfold dgt at hz
  have z4 := hz 4
  have z3 := hz 3
  have z2 := hz 2
  have z1 := hz 1
  have z0 := hz 0
  have a : R = 0 ∨ R = 1 ∨ R = 2 ∨ R = 3 ∨ R = 4 ∨ R = 5 := by omega
  rcases a with rfl | rfl | rfl | rfl | rfl | rfl <;> simp only [Nat.reducePow] at * <;> omega
end
