section
/-! ===== payments, alike on both sides ===== -/
def sOj (a p : Nat → Nat) (S j : Nat) : Nat := if S.testBit j = true then a j else p j
def sOs (a p : Nat → Nat) (S : Nat) : Nat := nsum (sOj a p S) 6
/-- by how much a set is left short -/
def oO (W a p : Nat → Nat) (S : Nat) : Int := (W S : Int) - (sOs a p S : Int)
/-- what worths and amounts are -/
def FWs (W a : Nat → Nat) (B : Nat) : Prop := (∀ S, S < 64 → W S ≤ 1800000 ∧ W S ≤ W 63 ∧ W (S &&& (2 ^ B - 1)) = W S) ∧ (∀ j, j < 6 → a j ≤ 300000 ∧ a j ≤ W 63 ∧ W 63 ≤ W (bclr 63 j) + a j) ∧ W 63 = nsum a 6 ∧ ∀ j, B ≤ j → j < 6 → a j = 0
/-- payments of the reference's: of nobody else anything -/
def PYm (a p : Nat → Nat) (B qa : Nat) (t : XS9) : Prop := (∀ j, j < 6 → t qa j = nI (p j)) ∧ ∀ j, j < B → f_Camount t j = nI (a j) ∧ (t 9001 j = -1 → a j = 0)
def stF (_ : Nat) (s53 : XS9) : XS9 ⊕ XS9 := (if (f_strongest s53) = (-1) then .inr s53 else .inl (g_raiseOutside s53 (f_strongest s53) (f_objection s53 (cn (f_strongest s53)) 2)))
def vE (w : XS9 ⊕ XS9) : XS9 := match w with | .inl s => s | .inr s => s
section
variable {s t : XS9} {W a p : Nat → Nat} {S B qa w m : Nat}
theorem nsum_cut {d : Nat → Nat} {N M : Nat} (h : ∀ j, N ≤ j → j < M → d j = 0) (hN : N ≤ M) : nsum d M = nsum d N := by
  induction M with
  | zero =>
    obtain rfl : N = 0 := by omega
    rfl
  | succ M ih =>
    by_cases e : N = M + 1
    · rw [e]
    · show nsum d M + d M = _
      rw [h M (by omega) (by omega), Nat.add_zero]
      exact ih (fun j h1 h2 => h j h1 (by omega)) (by omega)
theorem nsum_plus {d e : Nat → Nat} {N : Nat} : nsum (fun j => d j + e j) N = nsum d N + nsum e N := by
  induction N with
  | zero => rfl
  | succ n ih =>
    show nsum (fun j => d j + e j) n + (d n + e n) = nsum d n + d n + (nsum e n + e n)
    rw [ih]
    omega
theorem xsub {v : Nat → Nat} {x : Int32} {N : Nat} : xit (fun i (x : Int32) => x - nI (v i)) N 0 x = x - nI (nsum v N) := by
  induction N with
  | zero => exact (Int32.sub_zero x).symm
  | succ n ih =>
    rw [xit_last, ih]
    show x - nI (nsum v n) - nI (v n) = x - nI (nsum v n + v n)
    rw [Int32.sub_sub, nI_plus]
theorem obj_cw (hS : S < 64) (ha : ∀ j, j < 6 → s 1131 j = nI (a j)) (hp : ∀ j, j < 6 → s (1131 + w) j = nI (p j)) (hW : s 1041 S = nI (W S)) : f_objection s S w = nI (W S) - nI (sOs a p S) := by
  unfold f_objection
  rw [hW]
  refine Eq.trans (xit_cg (N := 6) (step' := fun i (x : Int32) => x - nI (sOj a p S i)) (fun i x hi => ?_) 6 0 (nI (W S)) rfl) xsub
  (try dsimp only)
  unfold sOj
  cases hb : S.testBit i with
  | false => rw [if_pos ((tst_c hS hi).mpr hb), if_neg (by decide), hp i hi]
  | true =>
    rw [if_neg (fun z => by rw [(tst_c hS hi).mp z] at hb; cases hb), if_pos rfl]
    exact congrArg (fun v => x - v) (ha i hi)
theorem obj_m (hS : S < 64) (hB6 : B ≤ 6) (P : PYm a p B qa t) (hpa : ∀ j, j < 6 → p j ≤ a j) (hz : ∀ j, B ≤ j → j < 6 → a j = 0) (hW : t 9003 S = nI (W S)) : f_Cobjection t S qa B = nI (W S) - nI (sOs a p S) := by
  unfold f_Cobjection f_Cworth
  rw [hW]
  have cut : sOs a p S = nsum (sOj a p S) B := nsum_cut (fun j h1 h2 => by
    unfold sOj
    have z := hz j h1 h2
    have := hpa j h2
    split <;> omega) hB6
  rw [cut]
  refine Eq.trans (xit_cg (N := B) (step' := fun i (x : Int32) => x - nI (sOj a p S i)) (fun i x hi => ?_) B 0 (nI (W S)) (Nat.zero_add _)) xsub
  (try dsimp only)
  obtain ⟨q1, q2⟩ := P.2 i hi
  unfold sOj
  cases hb : S.testBit i with
  | false =>
    rw [if_neg (fun z => by rw [(tst_m hS (by omega)).mp z] at hb; cases hb), if_neg (show ¬ false = true by decide), P.1 i (by omega)]
    by_cases c : t 9001 i = -1
    · have := hpa i (by omega)
      rw [if_pos c, show p i = 0 by have := q2 c; omega]
      rfl
    · rw [if_neg c]
  | true => rw [if_pos ((tst_m hS (by omega)).mpr hb), if_pos rfl, q1]
theorem sO_le (ha : ∀ j, j < 6 → a j ≤ 300000) (hp : ∀ j, j < 6 → p j ≤ a j) : sOs a p S ≤ 1800000 := nsum_le (k := 300000) fun j hj => by
  have := ha j hj
  have := hp j hj
  unfold sOj
  split <;> omega
theorem o_int {u v : Nat} (hu : u ≤ 1800000) (hv : v ≤ 1800000) : (nI u - nI v).toInt = (u : Int) - (v : Int) := by
  have a := toI_nI (k := u) (by omega)
  have b := toI_nI (k := v) (by omega)
  rw [i32_sub (by omega) (by omega), a, b]
/-- the program's strongest set -/
theorem strong_c (hF : FWs W a B) (P : PY a p s) (hpa : ∀ j, j < 6 → p j ≤ a j) (hW : ∀ S, S < 64 → s 1041 S = nI (W S)) : (f_strongest s = -1 ∧ ∀ S, S < 64 → oO W a p S ≤ 0) ∨ ∃ m, m < 64 ∧ f_strongest s = nI m ∧ 0 < oO W a p m ∧ (∀ S, S < 64 → oO W a p S ≤ oO W a p m) ∧ ∀ S, S < m → oO W a p S < oO W a p m := by
  have ob : ∀ S, S < 64 → (f_objection s S 2).toInt = oO W a p S := fun S hS => by
    rw [obj_cw (p := p) hS (fun j hj => (P j hj).1) (fun j hj => (P j hj).2) (hW S hS)]
    exact o_int (hF.1 S hS).1 (sO_le (fun j hj => (hF.2.1 j hj).1) hpa)
  have H := xit_ind (step := fun i7 (s7 : Int32 × Int32) => (if (f_objection s i7 2) ≤ s7.2 then (s7.1, s7.2) else (nI i7, f_objection s i7 2))) (fun i v => (v.1 = -1 ∧ v.2 = 0 ∧ ∀ S, S < i → oO W a p S ≤ 0) ∨ ∃ m, m < i ∧ v.1 = nI m ∧ v.2.toInt = oO W a p m ∧ 0 < oO W a p m ∧ (∀ S, S < i → oO W a p S ≤ oO W a p m) ∧ ∀ S, S < m → oO W a p S < oO W a p m) (N := 64) (fun i v hi hP => ?_) 64 0 (-1, 0) rfl (.inl ⟨rfl, rfl, fun S hS => absurd hS (by omega)⟩)
  · rcases H with ⟨h1, _, h3⟩ | ⟨m, h1, h2, _, h4, h5, h6⟩
    · exact .inl ⟨h1, h3⟩
    · exact .inr ⟨m, h1, h2, h4, h5, h6⟩
  · (try dsimp only)
    rcases hP with ⟨h1, h2, h3⟩ | ⟨m, h1, h2, h3, h4, h5, h6⟩
    · by_cases c : oO W a p i ≤ 0
      · rw [if_pos (show f_objection s i 2 ≤ v.2 by rw [i_le, ob i hi, h2]; exact c)]
        refine .inl ⟨h1, h2, fun S hS => ?_⟩
        by_cases e : S = i
        · rw [e]
          exact c
        · exact h3 S (by omega)
      · rw [if_neg (show ¬ f_objection s i 2 ≤ v.2 by rw [i_le, ob i hi, h2]; exact c)]
        refine .inr ⟨i, by omega, rfl, ob i hi, by omega, fun S hS => ?_, fun S hS => ?_⟩
        · by_cases e : S = i
          · rw [e]
            exact Int.le_refl _
          · have := h3 S (by omega)
            omega
        · have := h3 S hS
          omega
    · by_cases c : oO W a p i ≤ oO W a p m
      · rw [if_pos (show f_objection s i 2 ≤ v.2 by rw [i_le, ob i hi, h3]; exact c)]
        refine .inr ⟨m, by omega, h2, h3, h4, fun S hS => ?_, h6⟩
        by_cases e : S = i
        · rw [e]
          exact c
        · exact h5 S (by omega)
      · rw [if_neg (show ¬ f_objection s i 2 ≤ v.2 by rw [i_le, ob i hi, h3]; exact c)]
        refine .inr ⟨i, by omega, rfl, ob i hi, by omega, fun S hS => ?_, fun S hS => ?_⟩
        · by_cases e : S = i
          · rw [e]
            exact Int.le_refl _
          · have := h5 S (by omega)
            omega
        · have := h5 S hS
          omega
/-- the reference's -/
theorem strong_m (hF : FWs W a B) (hB6 : B ≤ 6) (P : PYm a p B qa t) (hpa : ∀ j, j < 6 → p j ≤ a j) (hW : ∀ S, S < 64 → t 9003 S = nI (W S)) : x_Cpay2_94 t qa B 0 < 2 ^ B ∧ (∀ S, S < 2 ^ B → oO W a p S ≤ oO W a p (x_Cpay2_94 t qa B 0)) ∧ (∀ S, S < x_Cpay2_94 t qa B 0 → oO W a p S < oO W a p (x_Cpay2_94 t qa B 0)) ∧ ∀ S, S < 64 → (f_Cobjection t S qa B).toInt = oO W a p S := by
  have p6 := pow_le6 hB6
  have ob : ∀ S, S < 64 → (f_Cobjection t S qa B).toInt = oO W a p S := fun S hS => by
    rw [obj_m hS hB6 P hpa hF.2.2.2 (hW S hS)]
    exact o_int (hF.1 S hS).1 (sO_le (fun j hj => (hF.2.1 j hj).1) hpa)
  have H := xit_ind (step := fun i94 (s94 : Nat) => (if (f_Cobjection t (1 + i94) qa B) ≤ (f_Cobjection t s94 qa B) then s94 else 1 + i94)) (fun i m => m ≤ i ∧ (∀ S, S ≤ i → oO W a p S ≤ oO W a p m) ∧ ∀ S, S < m → oO W a p S < oO W a p m) (N := 2 ^ B - 1) (fun i m hi hP => ?_) (2 ^ B - 1) 0 0 (Nat.zero_add _) ⟨Nat.le_refl _, fun S hS => by rw [show S = 0 by omega]; exact Int.le_refl _, fun S hS => absurd hS (by omega)⟩
  · obtain ⟨h1, h2, h3⟩ := H
    have p0 : 0 < 2 ^ B := Nat.pow_pos (by decide)
    have h1 : x_Cpay2_94 t qa B 0 ≤ 2 ^ B - 1 := h1
    exact ⟨by omega, fun S hS => h2 S (by omega), h3, ob⟩
  · obtain ⟨h1, h2, h3⟩ := hP
    (try dsimp only)
    by_cases c : oO W a p (1 + i) ≤ oO W a p m
    · rw [if_pos (show f_Cobjection t (1 + i) qa B ≤ f_Cobjection t m qa B by rw [i_le, ob _ (by omega), ob _ (by omega)]; exact c)]
      refine ⟨by omega, fun S hS => ?_, h3⟩
      by_cases e : S = 1 + i
      · rw [e]
        exact c
      · exact h2 S (by omega)
    · rw [if_neg (show ¬ f_Cobjection t (1 + i) qa B ≤ f_Cobjection t m qa B by rw [i_le, ob _ (by omega), ob _ (by omega)]; exact c)]
      refine ⟨by omega, fun S hS => ?_, fun S hS => ?_⟩
      · by_cases e : S = 1 + i
        · rw [e]
          exact Int.le_refl _
        · have := h2 S (by omega)
          omega
      · have := h2 S (by omega)
        omega
theorem and_lo (hS : S < 64) (hB6 : B ≤ 6) : (S &&& (2 ^ B - 1)) ≤ S ∧ (S &&& (2 ^ B - 1)) < 2 ^ B ∧ (∀ j, j < 6 → (S &&& (2 ^ B - 1)).testBit j = (S.testBit j && decide (j < B))) ∧ (S < 2 ^ B → (S &&& (2 ^ B - 1)) = S) := by
  have : ∀ S, S < 64 → ∀ B, B < 7 → (S &&& (2 ^ B - 1)) ≤ S ∧ (S &&& (2 ^ B - 1)) < 2 ^ B ∧ (∀ j, j < 6 → (S &&& (2 ^ B - 1)).testBit j = (S.testBit j && decide (j < B))) ∧ (S < 2 ^ B → (S &&& (2 ^ B - 1)) = S) := by decide +kernel
  exact this S hS B (by omega)
theorem oO_lo (hF : FWs W a B) (hB6 : B ≤ 6) (hpa : ∀ j, j < 6 → p j ≤ a j) (hS : S < 64) : oO W a p (S &&& (2 ^ B - 1)) = oO W a p S := by
  obtain ⟨l1, l2, l3, _⟩ := and_lo (B := B) hS hB6
  unfold oO
  rw [(hF.1 S hS).2.2, show sOs a p (S &&& (2 ^ B - 1)) = sOs a p S from nsum_cg fun j hj => by
    unfold sOj
    rw [l3 j hj]
    by_cases c : j < B
    · rw [decide_eq_true c, Bool.and_true]
    · have z := hF.2.2.2 j (by omega) hj
      have := hpa j hj
      rw [decide_eq_false c, Bool.and_false, if_neg (by decide)]
      split <;> omega]
/-- both find the same set, or none -/
theorem strong_eq (hF : FWs W a B) (hB6 : B ≤ 6) (P : PY a p s) (Q : PYm a p B qa t) (hpa : ∀ j, j < 6 → p j ≤ a j) (hWc : ∀ S, S < 64 → s 1041 S = nI (W S)) (hWm : ∀ S, S < 64 → t 9003 S = nI (W S)) : (f_strongest s = -1 ∧ (∀ S, S < 64 → oO W a p S ≤ 0) ∧ ¬ 0 < f_Cobjection t (x_Cpay2_94 t qa B 0) qa B) ∨ ∃ m, m < 2 ^ B ∧ f_strongest s = nI m ∧ x_Cpay2_94 t qa B 0 = m ∧ 0 < oO W a p m ∧ 0 < f_Cobjection t m qa B := by
  obtain ⟨m1, m2, m3, m4⟩ := strong_m hF hB6 Q hpa hWm
  have p6 := pow_le6 hB6
  rcases strong_c hF P hpa hWc with ⟨h1, h2⟩ | ⟨m, h1, h2, h3, h4, h5⟩
  · refine .inl ⟨h1, h2, fun z => ?_⟩
    rw [i_lt, m4 _ (by omega)] at z
    have := h2 (x_Cpay2_94 t qa B 0) (by omega)
    have z0 : (0 : Int32).toInt = 0 := rfl
    omega
  · obtain ⟨l1, l2, l3, l4⟩ := and_lo (B := B) h1 hB6
    have mB : m < 2 ^ B := by
      rcases Nat.lt_or_ge m (2 ^ B) with l | l
      · exact l
      · have a1 := h5 (m &&& (2 ^ B - 1)) (by omega)
        rw [oO_lo hF hB6 hpa h1] at a1
        omega
    have em : x_Cpay2_94 t qa B 0 = m := by
      rcases Nat.lt_trichotomy (x_Cpay2_94 t qa B 0) m with l | l | l
      · have a1 := h5 _ l
        have a2 := m2 m mB
        omega
      · exact l
      · have a1 := m3 _ l
        have a2 := h4 (x_Cpay2_94 t qa B 0) (by omega)
        omega
    refine .inr ⟨m, mB, h2, em, h3, ?_⟩
    rw [i_lt, m4 _ h1]
    exact h3
/-! the reference's raise -/
theorem ps_rest {n9 : Nat} {u9 : (Nat → Nat) × Nat} (h : ∀ k, n9 ≤ k → k < 6 → rmS a S u9.1 k = 0 ∨ u9.2 = 0) : ∀ (f i : Nat), i + f = 6 → n9 ≤ i → xit (stS a S) f i u9 = u9
  | 0, i, e, hi => rfl
  | f + 1, i, e, hi => by
    show xit (stS a S) f (i + 1) (stS a S i u9) = u9
    rw [show stS a S i u9 = u9 from if_pos ((h i hi (by omega)).symm)]
    exact ps_rest h f (i + 1) (by omega) (by omega)
end
end
section
/-! ===== payments are found alike ===== -/
def posO (W a p : Nat → Nat) (S : Nat) : Nat := if 0 < oO W a p S then 1 else 0
section
variable {s t σ : XS9} {W a p : Nat → Nat} {S B qa w m L : Nat}
theorem xitR_l {S R : Type} {step : Nat → S → S ⊕ R} {f i : Nat} {s s' : S} (e : step i s = .inl s') : xitR step (f + 1) i s = xitR step f (i + 1) s' := by
  show (match step i s with | .inl s' => xitR step f (i + 1) s' | .inr r => .inr r) = _
  rw [e]
theorem xitR_r {S R : Type} {step : Nat → S → S ⊕ R} {f i : Nat} {s : S} {r : R} (e : step i s = .inr r) : xitR step (f + 1) i s = .inr r := by
  show (match step i s with | .inl s' => xitR step f (i + 1) s' | .inr r => .inr r) = _
  rw [e]
theorem cam_row {t2 : XS9} {j : Nat} (e1 : t2 9001 = t 9001) (e2 : t2 (5030 + j) = t (5030 + j)) : f_Camount t2 j = f_Camount t j := by
  unfold f_Camount f_Bamount
  rw [e1, e2]
theorem ps_cut {u : (Nat → Nat) × Nat} {n : Nat} (hn : n ≤ 6) (h : ∀ k, n ≤ k → k < 6 → rmS a S (xit (stS a S) n 0 u).1 k = 0 ∨ (xit (stS a S) n 0 u).2 = 0) : psS a S u = xit (stS a S) n 0 u := by
  unfold psS
  rw [show (6 : Nat) = n + (6 - n) by omega, xit_app, Nat.zero_add]
  exact ps_rest h (6 - n) n (by omega) (Nat.le_refl _)
theorem pass_m (hq : 20000 ≤ qa) (hB6 : B ≤ 6) (hS : S < 64) {x : Nat} {s6 : XS9 × Nat × Int32} (hL : L < 2147483648) (e9 : ∀ j, j < B → σ 9001 j = -1 → a j = 0) (ha : ∀ j, j < B → f_Camount t j = nI (a j)) (hz : ∀ j, B ≤ j → j < 6 → a j = 0) (ha3 : ∀ j, j < 6 → a j ≤ 300000) (hp : ∀ j, j < 6 → t qa j = nI (p j)) (hpa : ∀ j, j < 6 → p j ≤ a j) : (∀ j, j < 6 → (x_Craise_22 σ S x qa B s6 (t, L, 0)).1 qa j = nI ((psS a S (p, L)).1 j)) ∧ (x_Craise_22 σ S x qa B s6 (t, L, 0)).2.1 = (psS a S (p, L)).2 ∧ (∀ q, q ≠ qa → (x_Craise_22 σ S x qa B s6 (t, L, 0)).1 q = t q) ∧ (((x_Craise_22 σ S x qa B s6 (t, L, 0)).2.2 = 0 ∧ psS a S (p, L) = (p, L) ∧ fiS a S (p, L)) ∨ ((x_Craise_22 σ S x qa B s6 (t, L, 0)).2.2 = 1 ∧ (psS a S (p, L)).2 + 1 ≤ L)) := by
  have I : ∀ i, i ≤ 6 → inS a S p L (xit (stS a S) i 0 (p, L)) := fun i hi => xit_inv (inS a S p L) (N := i) (fun k v hk hP => hP.st (by omega)) i 0 (p, L) (Nat.zero_add _) (inS.start hpa)
  have I2 : ∀ i, i ≤ 6 → (xit (stS a S) i 0 (p, L)).2 ≤ L := fun i hi => by
    have a1 := (I i hi).2.2.2
    have a2 := nsum_mo (d := p) (d2 := (xit (stS a S) i 0 (p, L)).1) (N := 6) (fun j _ => (I i hi).1 j)
    omega
  unfold x_Craise_22
  refine xitB_fin (fun i (v : XS9 × Nat × Int32) => (∀ j, j < 6 → v.1 qa j = nI ((xit (stS a S) i 0 (p, L)).1 j)) ∧ v.2.1 = (xit (stS a S) i 0 (p, L)).2 ∧ (∀ q, q ≠ qa → v.1 q = t q) ∧ ((v.2.2 = 0 ∧ xit (stS a S) i 0 (p, L) = (p, L) ∧ ∀ k, k < i → rmS a S p k = 0) ∨ (v.2.2 = 1 ∧ (xit (stS a S) i 0 (p, L)).2 + 1 ≤ L))) (fun (v : XS9 × Nat × Int32) => (∀ j, j < 6 → v.1 qa j = nI ((psS a S (p, L)).1 j)) ∧ v.2.1 = (psS a S (p, L)).2 ∧ (∀ q, q ≠ qa → v.1 q = t q) ∧ ((v.2.2 = 0 ∧ psS a S (p, L) = (p, L) ∧ fiS a S (p, L)) ∨ (v.2.2 = 1 ∧ (psS a S (p, L)).2 + 1 ≤ L))) (N := B) (fun i v hi hP => ?_) (fun v hP => ?_) B 0 (t, L, 0) (Nat.zero_add _) ⟨hp, rfl, fun _ _ => rfl, .inl ⟨rfl, rfl, fun k hk => absurd hk (by omega)⟩⟩
  · obtain ⟨v1, v2, v3, v4⟩ := hP
    have J := I i (by omega)
    have J2 := I2 i (by omega)
    have cut := fun h => ps_cut (a := a) (S := S) (u := (p, L)) (n := i) (by omega) h
    have nx : xit (stS a S) (i + 1) 0 (p, L) = stS a S i (xit (stS a S) i 0 (p, L)) := xit_last
    rw [nx]
    have w3 : f_Camount v.1 i = nI (a i) := by rw [cam_row (v3 9001 (by omega)) (v3 (5030 + i) (by omega))]; exact ha i hi
    have w4 := v1 i (by omega)
    have w5 := hpa i (by omega)
    have w6 := ha3 i (by omega)
    generalize xit (stS a S) i 0 (p, L) = u at v1 v2 v4 J J2 cut w4 ⊢
    obtain ⟨v0, l0, f0⟩ := v
    have v2 : l0 = u.2 := v2
    subst v2
    have same : rmS a S u.1 i = 0 → (∀ j, j < 6 → v0 qa j = nI ((stS a S i u).1 j)) ∧ u.2 = (stS a S i u).2 ∧ (∀ q, q ≠ qa → v0 q = t q) ∧ ((f0 = 0 ∧ stS a S i u = (p, L) ∧ ∀ k, k < i + 1 → rmS a S p k = 0) ∨ (f0 = 1 ∧ (stS a S i u).2 + 1 ≤ L)) := fun hr => by
      have e : stS a S i u = u := if_pos (.inr hr)
      rw [e]
      refine ⟨v1, rfl, v3, v4.elim (fun ⟨k1, k2, k3⟩ => .inl ⟨k1, k2, fun k hk => ?_⟩) .inr⟩
      by_cases ek : k = i
      · rw [ek]
        rw [k2] at hr
        exact hr
      · exact k3 k (by omega)
    (try dsimp only)
    by_cases c0 : u.2 = 0
    · rw [if_pos ((nI_le0 (by omega)).mpr c0)]
      refine ⟨fun s' e => (by cases e), fun s' e => ?_⟩
      rw [← Sum.inr.inj e]
      have eu := cut fun k _ _ => .inr c0
      rw [eu]
      refine ⟨v1, rfl, v3, v4.elim (fun ⟨k1, k2, k3⟩ => .inl ⟨k1, k2, .inl ?_⟩) .inr⟩
      rw [← k2]
      exact c0
    · rw [if_neg (fun z => c0 ((nI_le0 (by omega)).mp z))]
      by_cases c1 : S.testBit i = true
      · rw [if_pos ((tst_m hS (by omega)).mpr c1)]
        refine ⟨fun s' e => ?_, fun s' e => (by cases e)⟩
        rw [← Sum.inl.inj e]
        exact same (if_pos c1)
      · rw [if_neg (fun z => c1 ((tst_m hS (by omega)).mp z))]
        have ur : rmS a S u.1 i = a i - u.1 i := if_neg c1
        have ub := J.2.1 i (by omega)
        by_cases c2 : σ 9001 i = -1
        · rw [if_pos c2]
          refine ⟨fun s' e => ?_, fun s' e => (by cases e)⟩
          rw [← Sum.inl.inj e]
          have := e9 i hi c2
          exact same (by omega)
        · have cnd : (v0 qa i < f_Camount v0 i) ↔ u.1 i < a i := by
            have w3 : f_Camount v0 i = nI (a i) := w3
            have w4 : v0 qa i = nI (u.1 i) := w4
            rw [w3, w4]
            exact nlt (by omega) (by omega)
          rw [if_neg c2]
          by_cases c3 : u.1 i < a i
          · rw [if_pos (cnd.mpr c3)]
            refine ⟨fun s' e => ?_, fun s' e => (by cases e)⟩
            rw [← Sum.inl.inj e]
            have e : stS a S i u = (cUp u.1 i (u.1 i + 1), u.2 - 1) := if_neg (fun z => z.elim c0 (fun z => by omega))
            rw [e]
            refine ⟨fun j hj => ?_, rfl, fun q hq9 => ?_, .inr ⟨rfl, by show u.2 - 1 + 1 ≤ L; omega⟩⟩
            · show u2 v0 qa i (v0 qa i + 1) qa j = nI (cUp u.1 i (u.1 i + 1) j)
              by_cases ej : j = i
              · rw [ej, u2_at, cUp_at, (show v0 qa i = nI (u.1 i) from w4)]
                exact nI_plus _ 1
              · rw [u2_oi ej, cUp_ne ej]
                exact v1 j hj
            · show u2 v0 qa i _ q = t q
              rw [u2_ne hq9]
              exact v3 q hq9
          · rw [if_neg (fun z => c3 (cnd.mp z))]
            refine ⟨fun s' e => ?_, fun s' e => (by cases e)⟩
            rw [← Sum.inl.inj e]
            exact same (by omega)
  · obtain ⟨v1, v2, v3, v4⟩ := hP
    have rz : ∀ (q : Nat → Nat) (k : Nat), B ≤ k → k < 6 → rmS a S q k = 0 := fun q k h1 h2 => by
      have := hz k h1 h2
      unfold rmS
      split <;> omega
    have eu := ps_cut (a := a) (S := S) (u := (p, L)) (n := B) hB6 fun k h1 h2 => .inl (rz _ k h1 h2)
    rw [eu]
    refine ⟨v1, v2, v3, v4.elim (fun ⟨k1, k2, k3⟩ => .inl ⟨k1, k2, .inr fun k hk => ?_⟩) .inr⟩
    rcases Nat.lt_or_ge k B with l | l
    · exact k3 k l
    · exact rz p k l hk
theorem raise_m (hq : 20000 ≤ qa) (hB6 : B ≤ 6) (hS : S < 64) (hL : L < 2147483648) (P : PYm a p B qa t) (hz : ∀ j, B ≤ j → j < 6 → a j = 0) (ha3 : ∀ j, j < 6 → a j ≤ 300000) (hpa : ∀ j, j < 6 → p j ≤ a j) : ∃ n, fiS a S (itS a S n (p, L)) ∧ (∀ j, j < 6 → g_Craise t S L qa B qa j = nI ((itS a S n (p, L)).1 j)) ∧ ∀ q, q ≠ qa → g_Craise t S L qa B q = t q := by
  unfold g_Craise x_Craise_6
  refine xitB_fin (fun i (v : XS9 × Nat × Int32) => ∃ n, (∀ j, j < 6 → v.1 qa j = nI ((itS a S n (p, L)).1 j)) ∧ v.2.1 = (itS a S n (p, L)).2 ∧ (∀ q, q ≠ qa → v.1 q = t q) ∧ ((v.2.2 = 1 ∧ (itS a S n (p, L)).2 + i ≤ L) ∨ (v.2.2 = 0 ∧ fiS a S (itS a S n (p, L))))) (fun (v : XS9 × Nat × Int32) => ∃ n, fiS a S (itS a S n (p, L)) ∧ (∀ j, j < 6 → v.1 qa j = nI ((itS a S n (p, L)).1 j)) ∧ ∀ q, q ≠ qa → v.1 q = t q) (N := L + 1) (fun i v hi hP => ?_) (fun v hP => ?_) (L + 1) 0 (t, L, 1) (Nat.zero_add _) ⟨0, fun j hj => P.1 j hj, rfl, fun _ _ => rfl, .inl ⟨rfl, Nat.le_refl _⟩⟩
  · obtain ⟨n, v1, v2, v3, v4⟩ := hP
    have I : inS a S p L (itS a S n (p, L)) := inS.it n (inS.start hpa)
    have hL1 : (itS a S n (p, L)).2 ≤ L := by
      have a1 := I.2.2.2
      have a2 := nsum_mo (d := p) (d2 := (itS a S n (p, L)).1) (N := 6) (fun j _ => I.1 j)
      omega
    have ea : itS a S (n + 1) (p, L) = psS a S (itS a S n (p, L)) := itS_add n (p, L)
    obtain ⟨v0, l0, f0⟩ := v
    have v2 : l0 = (itS a S n (p, L)).2 := v2
    subst v2
    (try dsimp only)
    by_cases c0 : (itS a S n (p, L)).2 = 0
    · rw [if_pos ((nI_le0 (by omega)).mpr c0)]
      refine ⟨fun s' e => (by cases e), fun s' e => ?_⟩
      rw [← Sum.inr.inj e]
      exact ⟨n, .inl c0, v1, v3⟩
    · rw [if_neg (fun z => c0 ((nI_le0 (by omega)).mp z))]
      by_cases c1 : f0 = 0
      · rw [if_pos c1]
        refine ⟨fun s' e => (by cases e), fun s' e => ?_⟩
        rw [← Sum.inr.inj e]
        refine ⟨n, v4.elim (fun z => ?_) (fun z => z.2), v1, v3⟩
        have z1 : f0 = 1 := z.1
        rw [c1] at z1
        exact absurd z1 (by decide)
      · rw [if_neg c1]
        refine ⟨fun s' e => ?_, fun s' e => (by cases e)⟩
        rw [← Sum.inl.inj e]
        have z2 := (v4.resolve_right fun z => c1 z.1).2
        obtain ⟨p1, p2, p3, p4⟩ := pass_m (σ := t) (t := v0) (a := a) (p := (itS a S n (p, L)).1) (L := (itS a S n (p, L)).2) (S := S) (x := L) (s6 := (v0, (itS a S n (p, L)).2, f0)) hq hB6 hS (by omega) (fun j hj => (P.2 j hj).2) (fun j hj => by rw [cam_row (v3 9001 (by omega)) (v3 (5030 + j) (by omega))]; exact (P.2 j hj).1) hz ha3 v1 I.2.1
        refine ⟨n + 1, ?_⟩
        rw [ea]
        refine ⟨p1, p2, fun q hq9 => (p3 q hq9).trans (v3 q hq9), ?_⟩
        rcases p4 with ⟨k1, k2, k3⟩ | ⟨k1, k2⟩
        · refine .inr ⟨k1, ?_⟩
          have k2 : psS a S (itS a S n (p, L)) = itS a S n (p, L) := k2
          rw [k2]
          exact k3
        · refine .inl ⟨k1, ?_⟩
          have k2 : (psS a S (itS a S n (p, L))).2 + 1 ≤ (itS a S n (p, L)).2 := k2
          omega
  · obtain ⟨n, v1, v2, v3, v4⟩ := hP
    exact ⟨n, (v4.resolve_left fun z => by have := z.2; omega).2, v1, v3⟩
/-- step by step, the same payments -/
theorem find_go (hF : FWs W a B) (hB6 : B ≤ 6) (hq : 20000 ≤ qa) : ∀ (f : Nat) (s t : XS9) (p : Nat → Nat) (i F i' : Nat), PY a p s → PYm a p B qa t → (∀ j, j < 6 → p j ≤ a j) → (∀ S, S < 64 → s 1041 S = nI (W S)) → (∀ S, S < 64 → t 9003 S = nI (W S)) → nsum (posO W a p) 64 ≤ f → f < F → ∃ p', (∀ j, j < 6 → p' j ≤ a j) ∧ PY a p' (vE (xitR stF f i s)) ∧ PYm a p' B qa (vE (xitR (p2_step qa B) F i' t)) ∧ (∀ q, q ≠ 1133 → vE (xitR stF f i s) q = s q) ∧ (∀ q, q ≠ qa → vE (xitR (p2_step qa B) F i' t) q = t q) ∧ ∀ S, S < 64 → oO W a p' S ≤ 0 := by
  intro f
  induction f with
  | zero =>
    intro s t p i F i' P Q hpa hWc hWm hc hFl
    obtain ⟨F', rfl⟩ : ∃ F', F = F' + 1 := ⟨F - 1, by omega⟩
    have np : ∀ S, S < 64 → oO W a p S ≤ 0 := fun S hS => by
      have := nsum_ge (d := posO W a p) hS
      by_cases c : 0 < oO W a p S
      · have e : posO W a p S = 1 := if_pos c
        omega
      · omega
    rcases strong_eq hF hB6 P Q hpa hWc hWm with ⟨h1, h2, h3⟩ | ⟨m, h1, h2, h3, h4, h5⟩
    · have eM : xitR (p2_step qa B) (F' + 1) i' t = .inr t := xitR_r (if_neg h3)
      rw [eM]
      exact ⟨p, hpa, P, Q, fun _ _ => rfl, fun _ _ => rfl, np⟩
    · have := np m (by have := pow_le6 hB6; omega)
      omega
  | succ f ih =>
    intro s t p i F i' P Q hpa hWc hWm hc hFl
    obtain ⟨F', rfl⟩ : ∃ F', F = F' + 1 := ⟨F - 1, by omega⟩
    rcases strong_eq hF hB6 P Q hpa hWc hWm with ⟨h1, h2, h3⟩ | ⟨m, h1, h2, h3, h4, h5⟩
    · have eC : xitR stF (f + 1) i s = .inr s := xitR_r (if_pos h1)
      have eM : xitR (p2_step qa B) (F' + 1) i' t = .inr t := xitR_r (if_neg h3)
      rw [eC, eM]
      exact ⟨p, hpa, P, Q, fun _ _ => rfl, fun _ _ => rfl, h2⟩
    · have p6 := pow_le6 hB6
      have m64 : m < 64 := by omega
      have ha3 : ∀ j, j < 6 → a j ≤ 300000 := fun j hj => (hF.2.1 j hj).1
      have so := sO_le (S := m) ha3 hpa
      have wm := (hF.1 m m64).1
      have sw : sOs a p m < W m := by unfold oO at h4; omega
      have oc : f_objection s m 2 = nI (W m - sOs a p m) := by rw [obj_cw (p := p) m64 (fun j hj => (P j hj).1) (fun j hj => (P j hj).2) (hWc m m64), nI_minus (by omega)]
      have om : f_Cobjection t m qa B = nI (W m - sOs a p m) := by rw [obj_m m64 hB6 Q hpa hF.2.2.2 (hWm m m64), nI_minus (by omega)]
      have eC : xitR stF (f + 1) i s = xitR stF f (i + 1) (g_raiseOutside s (nI m) (nI (W m - sOs a p m))) := xitR_l (by
        unfold stF
        rw [h2, if_neg (fun z => m1_ne (a := m) (by omega) z.symm), cn_nI (by omega), oc])
      have eM : xitR (p2_step qa B) (F' + 1) i' t = xitR (p2_step qa B) F' (i' + 1) (g_Craise t m (W m - sOs a p m) qa B) := xitR_l (by
        unfold p2_step
        rw [h3, if_pos h5, om, cn_nI (by omega)])
      obtain ⟨n1, a1, a2, a3⟩ := ro_sim (L := W m - sOs a p m) P m64 hpa ha3 (by omega)
      obtain ⟨n2, b1, b2, b3⟩ := raise_m (L := W m - sOs a p m) hq hB6 m64 (by omega) Q hF.2.2.2 ha3 hpa
      have eu := itS_uniq a1 b1
      have I : inS a m p (W m - sOs a p m) (itS a m n1 (p, W m - sOs a p m)) := inS.it n1 (inS.start hpa)
      rw [← eu] at b2
      generalize itS a m n1 (p, W m - sOs a p m) = u at a1 a2 b2 I
      obtain ⟨i1, i2, i3, i4⟩ := I
      have mono : ∀ S, oO W a u.1 S ≤ oO W a p S := fun S => by
        have : sOs a p S ≤ sOs a u.1 S := nsum_mo fun j hj => by
          unfold sOj
          split
          · exact Nat.le_refl _
          · exact i1 j
        unfold oO
        omega
      have done : oO W a u.1 m ≤ 0 := by
        rcases a1 with z | z
        · have e : sOs a u.1 m + nsum p 6 = sOs a p m + nsum u.1 6 := by
            unfold sOs
            rw [← nsum_plus, ← nsum_plus]
            refine nsum_cg fun j hj => ?_
            (try dsimp only)
            unfold sOj
            by_cases c : m.testBit j = true
            · rw [if_pos c, if_pos c, i3 j c]
            · rw [if_neg c, if_neg c]
              omega
          unfold oO
          omega
        · have e : sOs a u.1 m = nsum a 6 := nsum_cg fun j hj => by
            have zj := z j hj
            have uj := i2 j hj
            unfold rmS at zj
            unfold sOj
            by_cases c : m.testBit j = true
            · rw [if_pos c]
            · rw [if_neg c] at zj ⊢
              omega
          have w63 := (hF.1 m m64).2.1
          have h9 := hF.2.2.1
          unfold oO
          omega
      have cnt : nsum (posO W a u.1) 64 < nsum (posO W a p) 64 := nsum_lt (i := m) (fun S hS => by
        have := mono S
        unfold posO
        by_cases c : 0 < oO W a p S
        · rw [if_pos c]
          split <;> omega
        · rw [if_neg c, if_neg (by omega)]
          exact Nat.le_refl _) m64 (by
        unfold posO
        rw [if_pos h4, if_neg (by omega)]
        decide)
      obtain ⟨p', q1, q2, q3, q4, q5, q6⟩ := ih (g_raiseOutside s (nI m) (nI (W m - sOs a p m))) (g_Craise t m (W m - sOs a p m) qa B) u.1 (i + 1) F' (i' + 1) (fun j hj => ⟨by rw [a3 1131 (by decide)]; exact (P j hj).1, a2 j hj⟩) ⟨b2, fun j hj => ⟨by rw [cam_row (b3 9001 (by omega)) (b3 (5030 + j) (by omega))]; exact (Q.2 j hj).1, by rw [b3 9001 (by omega)]; exact (Q.2 j hj).2⟩⟩ i2 (fun S hS => by rw [a3 1041 (by decide)]; exact hWc S hS) (fun S hS => by rw [b3 9003 (by omega)]; exact hWm S hS) (by omega) (by omega)
      rw [eC, eM]
      exact ⟨p', q1, q2, q3, fun q hq9 => (q4 q hq9).trans (a3 q hq9), fun q hq9 => (q5 q hq9).trans (b3 q hq9), q6⟩
/-! where both begin -/
theorem am_row {s2 : XS9} {j : Nat} (e1 : s2 1040 = s 1040) (e2 : s2 (1031 + j) = s (1031 + j)) : f_amountWon s2 j = f_amountWon s j := by
  unfold f_amountWon
  rw [e1, e2]
theorem harm_row {s2 : XS9} {j : Nat} (e1 : s2 1040 = s 1040) (e2 : s2 (1031 + j) = s (1031 + j)) (e3 : s2 1041 = s 1041) : f_harmOf s2 j = f_harmOf s j := by
  unfold f_harmOf
  rw [e1, e3, am_row e1 e2]
def hm0 (W a : Nat → Nat) (row : Nat → Int32) (j : Nat) : Nat := if row j = -1 then 0 else W (bclr 63 j) - (W 63 - a j)
theorem find_2 (h : ∀ j, j < 6 → f_amountWon s j = nI (a j)) {h0 : Nat → Nat} (hh : ∀ j, j < 6 → f_harmOf s j = nI (h0 j)) : (∀ j, j < 6 → x_find_2 s s 1131 j = nI (a j) ∧ x_find_2 s s 1132 j = nI (h0 j) ∧ x_find_2 s s 1133 j = nI (h0 j)) ∧ ∀ q, q ≠ 1131 → q ≠ 1132 → q ≠ 1133 → x_find_2 s s q = s q := by
  have H := xit_ind (step := fun i2 (s2 : XS9) => u2 (u2 (u2 s2 (1131 + 0) i2 (f_amountWon s2 i2)) (1131 + 1) i2 (f_harmOf s2 i2)) (1131 + 2) i2 (f_harmOf s2 i2)) (fun k v => (∀ j, j < 6 → j < k → v 1131 j = nI (a j) ∧ v 1132 j = nI (h0 j) ∧ v 1133 j = nI (h0 j)) ∧ ∀ q, q ≠ 1131 → q ≠ 1132 → q ≠ 1133 → v q = s q) (N := 6) (fun k v hk hP => ?_) 6 0 s rfl ⟨fun j _ hj => absurd hj (by omega), fun _ _ _ _ => rfl⟩
  · exact ⟨fun j hj => H.1 j hj hj, H.2⟩
  · obtain ⟨v1, v2⟩ := hP
    (try dsimp only)
    rw [am_row (v2 1040 (by decide) (by decide) (by decide)) (v2 (1031 + k) (by omega) (by omega) (by omega)), harm_row (v2 1040 (by decide) (by decide) (by decide)) (v2 (1031 + k) (by omega) (by omega) (by omega)) (v2 1041 (by decide) (by decide) (by decide)), h k hk, hh k hk]
    show (∀ j, j < 6 → j < k + 1 → u2 (u2 (u2 v 1131 k (nI (a k))) 1132 k (nI (h0 k))) 1133 k (nI (h0 k)) 1131 j = nI (a j) ∧ u2 (u2 (u2 v 1131 k (nI (a k))) 1132 k (nI (h0 k))) 1133 k (nI (h0 k)) 1132 j = nI (h0 j) ∧ u2 (u2 (u2 v 1131 k (nI (a k))) 1132 k (nI (h0 k))) 1133 k (nI (h0 k)) 1133 j = nI (h0 j)) ∧ ∀ q, q ≠ 1131 → q ≠ 1132 → q ≠ 1133 → u2 (u2 (u2 v 1131 k (nI (a k))) 1132 k (nI (h0 k))) 1133 k (nI (h0 k)) q = s q
    refine ⟨fun j hj hl => ?_, fun q q1 q2 q3 => ?_⟩
    · by_cases e : j = k
      · subst e
        rw [u2_ne (show (1131 : Nat) ≠ 1133 by decide), u2_ne (show (1131 : Nat) ≠ 1132 by decide), u2_at, u2_ne (show (1132 : Nat) ≠ 1133 by decide), u2_at, u2_at]
        exact ⟨rfl, rfl, rfl⟩
      · rw [u2_ne (show (1131 : Nat) ≠ 1133 by decide), u2_ne (show (1131 : Nat) ≠ 1132 by decide), u2_oi e, u2_ne (show (1132 : Nat) ≠ 1133 by decide), u2_oi e, u2_ne (show (1132 : Nat) ≠ 1131 by decide), u2_oi e, u2_ne (show (1133 : Nat) ≠ 1132 by decide), u2_ne (show (1133 : Nat) ≠ 1131 by decide)]
        exact v1 j hj (by omega)
    · rw [u2_ne q3, u2_ne q2, u2_ne q1]
      exact v2 q q1 q2 q3
theorem bits63 {i : Nat} (hB6 : B ≤ 6) (hi : i < B) : (bclr 63 i) &&& (2 ^ B - 1) = bclr (2 ^ B - 1) i ∧ 63 &&& (2 ^ B - 1) = 2 ^ B - 1 ∧ bclr 63 i < 64 ∧ bclr (2 ^ B - 1) i < 64 ∧ 2 ^ B - 1 < 64 := by
  have : ∀ B, B < 7 → ∀ i, i < B → (bclr 63 i) &&& (2 ^ B - 1) = bclr (2 ^ B - 1) i ∧ 63 &&& (2 ^ B - 1) = 2 ^ B - 1 ∧ bclr 63 i < 64 ∧ bclr (2 ^ B - 1) i < 64 ∧ 2 ^ B - 1 < 64 := by decide +kernel
  exact this B (by omega) i hi
theorem harm_c (hF : FWs W a B) (hW : ∀ S, S < 64 → s 1041 S = nI (W S)) (ha : ∀ j, j < 6 → f_amountWon s j = nI (a j)) {j : Nat} (hj : j < 6) : f_harmOf s j = nI (hm0 W a (s 1040) j) := by
  have b := bclr_bits (S := 63) (k := j) (by decide) hj
  have e2 : bsub 63 j = bclr 63 j := (b.2.2 (by
    have : ∀ j, j < 6 → (63 : Nat).testBit j = true := by decide
    exact this j hj)).2
  obtain ⟨f1, f2, f3⟩ := hF.2.1 j hj
  unfold f_harmOf hm0
  by_cases c : s 1040 j = -1
  · rw [if_pos c, if_pos c]
    rfl
  · rw [if_neg c, if_neg c, e2, hW _ b.2.1, hW 63 (by decide), ha j hj, nI_minus f2, nI_minus (by omega)]
theorem harm_m (hF : FWs W a B) (hB6 : B ≤ 6) {v : XS9} (hW : ∀ S, S < 64 → v 9003 S = nI (W S)) {j : Nat} (hj : j < B) (ha : f_Camount v j = nI (a j)) : (f_Cworth v (bclr (2 ^ B - 1) j)) - ((f_Cworth v (2 ^ B - 1)) - (f_Camount v j)) = nI (W (bclr 63 j) - (W 63 - a j)) := by
  obtain ⟨b1, b2, b3, b4, b5⟩ := bits63 hB6 hj
  obtain ⟨f1, f2, f3⟩ := hF.2.1 j (by omega)
  have w1 := (hF.1 (bclr 63 j) b3).2.2
  have w2 := (hF.1 63 (by decide)).2.2
  rw [b1] at w1
  rw [b2] at w2
  unfold f_Cworth
  rw [hW _ b4, hW _ b5, ha, w1, w2, nI_minus f2, nI_minus (by omega)]
theorem hm0_le (hF : FWs W a B) {row : Nat → Int32} {j : Nat} (hj : j < 6) (hn : row j = -1 → a j = 0) : hm0 W a row j ≤ a j := by
  have b := bclr_bits (S := 63) (k := j) (by decide) hj
  obtain ⟨f1, f2, f3⟩ := hF.2.1 j hj
  have := (hF.1 (bclr 63 j) b.2.1).2.1
  unfold hm0
  split <;> omega
/-- the reference's payments by the other ways, and where the third begins -/
theorem pay_1 (hF : FWs W a B) (hB6 : B ≤ 6) (hq : 20000 ≤ qa) (hW : ∀ S, S < 64 → t 9003 S = nI (W S)) (ha : ∀ j, j < B → f_Camount t j = nI (a j)) (hn : ∀ j, j < 6 → t 9001 j = -1 → a j = 0) (f : XS9 → Nat → Int32) (v0 : Nat → Nat) (hv : ∀ v : XS9, (∀ q, q ≠ qa → v q = t q) → ∀ j, j < B → t 9001 j ≠ -1 → f v j = nI (v0 j)) (hz : ∀ j, j < 6 → (t 9001 j = -1 ∨ B ≤ j) → v0 j = 0) : (∀ j, j < 6 → xit (fun i7 (s7 : XS9) => (if (t 9001 i7) = (-1) then s7 else u2 s7 qa i7 (f s7 i7))) B 0 (uR t qa (rowN 6)) qa j = nI (v0 j)) ∧ ∀ q, q ≠ qa → xit (fun i7 (s7 : XS9) => (if (t 9001 i7) = (-1) then s7 else u2 s7 qa i7 (f s7 i7))) B 0 (uR t qa (rowN 6)) q = t q := by
  have H := xit_ind (step := fun i7 (s7 : XS9) => (if (t 9001 i7) = (-1) then s7 else u2 s7 qa i7 (f s7 i7))) (fun k v => (∀ j, j < 6 → v qa j = nI (if j < k then v0 j else 0)) ∧ ∀ q, q ≠ qa → v q = t q) (N := B) (fun k v hk hP => ?_) B 0 (uR t qa (rowN 6)) (Nat.zero_add _) ⟨fun j hj => ?_, fun q hq9 => uR_ne hq9⟩
  · refine ⟨fun j hj => ?_, H.2⟩
    refine (H.1 j hj).trans ?_
    by_cases c : j < B
    · rw [if_pos c]
    · rw [if_neg c, hz j hj (.inr (by omega))]
  · obtain ⟨v1, v2⟩ := hP
    (try dsimp only)
    by_cases c : t 9001 k = -1
    · rw [if_pos c]
      refine ⟨fun j hj => ?_, v2⟩
      rw [v1 j hj]
      congr 1
      by_cases e : j = k
      · rw [if_neg (by omega), if_pos (by omega), e, hz k (by omega) (.inl c)]
      · by_cases l : j < k
        · rw [if_pos l, if_pos (by omega)]
        · rw [if_neg l, if_neg (by omega)]
    · rw [if_neg c, hv v v2 k hk c]
      refine ⟨fun j hj => ?_, fun q hq9 => by rw [u2_ne hq9]; exact v2 q hq9⟩
      by_cases e : j = k
      · rw [e, u2_at, if_pos (by omega)]
      · rw [u2_oi e, v1 j hj]
        congr 1
        by_cases l : j < k
        · rw [if_pos l, if_pos (by omega)]
        · rw [if_neg l, if_neg (by omega)]
  · rw [uR_eq, if_neg (by omega)]
    unfold rowN
    rw [if_neg (by omega), if_neg (by omega)]
    rfl
theorem pay_all (hF : FWs W a B) (hB6 : B ≤ 6) (hq : 20000 ≤ qa) (hw : ∀ j, j < 6 → σ 1040 j = t 9001 j) (hn : ∀ j, j < 6 → t 9001 j = -1 → a j = 0) (hnB : ∀ j, B ≤ j → j < 6 → t 9001 j = -1) (hac : ∀ j, j < 6 → f_amountWon σ j = nI (a j)) (ham : ∀ j, j < B → f_Camount t j = nI (a j)) (hWc : ∀ S, S < 64 → σ 1041 S = nI (W S)) (hWm : ∀ S, S < 64 → t 9003 S = nI (W S)) : ∃ p1 p2 : Nat → Nat, (∀ j, j < 6 → (g_find σ 1131 j = nI (a j) ∧ g_find σ 1132 j = nI (p1 j) ∧ g_find σ 1133 j = nI (p2 j)) ∧ p1 j ≤ a j ∧ p2 j ≤ a j) ∧ ∀ j, j < 6 → g_Cpay t 0 qa B qa j = nI (a j) ∧ g_Cpay t 1 qa B qa j = nI (p1 j) ∧ g_Cpay t 2 qa B qa j = nI (p2 j) := by
  have hh : ∀ j, j < 6 → f_harmOf σ j = nI (hm0 W a (t 9001) j) := fun j hj => by
    rw [harm_c hF hWc hac hj]
    unfold hm0
    rw [hw j hj]
  obtain ⟨c1, c2⟩ := find_2 hac hh
  have hle : ∀ j, j < 6 → hm0 W a (t 9001) j ≤ a j := fun j hj => hm0_le hF hj (hn j hj)
  have m20 : (∀ j, j < 6 → g_Cpay20 t qa B qa j = nI (hm0 W a (t 9001) j)) ∧ ∀ q, q ≠ qa → g_Cpay20 t qa B q = t q :=
    pay_1 hF hB6 hq hWm ham hn (fun v i => (f_Cworth v (bclr (2 ^ B - 1) i)) - ((f_Cworth v (2 ^ B - 1)) - (f_Camount v i))) (hm0 W a (t 9001)) (fun v hv j hj hne => by
      have e1 : f_Camount v j = nI (a j) := by rw [cam_row (hv 9001 (by omega)) (hv (5030 + j) (by omega))]; exact ham j hj
      rw [show hm0 W a (t 9001) j = W (bclr 63 j) - (W 63 - a j) from if_neg hne]
      exact harm_m hF hB6 (fun S hS => by rw [hv 9003 (by omega)]; exact hWm S hS) hj e1) (fun j hj hz => if_pos (hz.elim id (fun l => hnB j l hj)))
  have m1 : ∀ j, j < 6 → g_Cpay1 t 1 qa B qa j = nI (hm0 W a (t 9001) j) := fun j hj => by
    have e : g_Cpay1 t 1 qa B = g_Cpay20 t qa B := by
      unfold g_Cpay1 g_Cpay20 x_Cpay1_7 x_Cpay2_7
      refine xit_cg (N := B) (fun i s hi => ?_) B 0 _ (Nat.zero_add _)
      (try dsimp only)
      rw [if_neg (show ¬ nI 1 = 0 by decide)]
    rw [e]
    exact m20.1 j hj
  have m0 : ∀ j, j < 6 → g_Cpay1 t 0 qa B qa j = nI (a j) := fun j hj => by
    have e : g_Cpay1 t 0 qa B = xit (fun i7 (s7 : XS9) => (if (t 9001 i7) = (-1) then s7 else u2 s7 qa i7 ((fun v i => f_Camount v i) s7 i7))) B 0 (uR t qa (rowN 6)) := by
      unfold g_Cpay1 x_Cpay1_7
      refine xit_cg (N := B) (fun i s hi => ?_) B 0 _ (Nat.zero_add _)
      (try dsimp only)
      rw [if_pos (show nI 0 = 0 by decide)]
    rw [e]
    exact (pay_1 hF hB6 hq hWm ham hn (fun v i => f_Camount v i) a (fun v hv j hj hne => by
      show f_Camount v j = nI (a j)
      rw [cam_row (hv 9001 (by omega)) (hv (5030 + j) (by omega))]
      exact ham j hj) (fun j hj hz => hn j hj (hz.elim id (fun l => hnB j l hj)))).1 j hj
  have P0 : PY a (hm0 W a (t 9001)) (x_find_2 σ σ) := fun j hj => ⟨(c1 j hj).1, (c1 j hj).2.2⟩
  have Q0 : PYm a (hm0 W a (t 9001)) B qa (g_Cpay20 t qa B) := ⟨m20.1, fun j hj => ⟨by rw [cam_row (m20.2 9001 (by omega)) (m20.2 (5030 + j) (by omega))]; exact ham j hj, by rw [m20.2 9001 (by omega)]; exact hn j (by omega)⟩⟩
  have c64 : nsum (posO W a (hm0 W a (t 9001))) 64 ≤ 64 := nsum_le (k := 1) fun i _ => by
    unfold posO
    split <;> decide
  obtain ⟨p2, r1, r2, r3, r4, r5, r6⟩ := find_go hF hB6 hq 64 (x_find_2 σ σ) (g_Cpay20 t qa B) (hm0 W a (t 9001)) 0 20000000 0 P0 Q0 hle (fun S hS => by rw [c2 1041 (by decide) (by decide) (by decide)]; exact hWc S hS) (fun S hS => by rw [m20.2 9003 (by omega)]; exact hWm S hS) c64 (by decide)
  have ef : g_find σ = vE (xitR stF 64 0 (x_find_2 σ σ)) := by
    have e1 : g_find σ = vE (x_find_53 σ (x_find_2 σ σ)) := by
      unfold g_find
      generalize x_find_53 σ (x_find_2 σ σ) = w9
      cases w9 <;> rfl
    rw [e1]
    refine congrArg vE ?_
    unfold x_find_53
    exact xitR_cg (N := 64) (fun i s _ => rfl) 64 0 _ rfl
  have em : g_Cpay2 t qa B = vE (xitR (p2_step qa B) 20000000 0 (g_Cpay20 t qa B)) := by
    unfold g_Cpay2
    generalize xitR (p2_step qa B) 20000000 0 (g_Cpay20 t qa B) = w9
    cases w9 <;> rfl
  refine ⟨hm0 W a (t 9001), p2, fun j hj => ⟨⟨?_, ?_, ?_⟩, hle j hj, r1 j hj⟩, fun j hj => ⟨?_, ?_, ?_⟩⟩
  · rw [ef]
    exact (r2 j hj).1
  · rw [ef, r4 1132 (by decide)]
    exact (c1 j hj).2.1
  · rw [ef]
    exact (r2 j hj).2
  · unfold g_Cpay
    rw [if_neg (by decide)]
    exact m0 j hj
  · unfold g_Cpay
    rw [if_neg (by decide)]
    exact m1 j hj
  · unfold g_Cpay
    rw [if_pos rfl, em]
    exact r3.1 j hj
/-- worths and amounts, from the winners -/
theorem FWs.of {A : Nat → Nat → Nat} {X : (Nat → Nat) → Prop} {row : Nat → Int32} {c : Nat → Nat} (hB6 : B ≤ 6) (hc : X c) (hbest : ∀ d, X d → btr A c d) (hw : WW A X row) (hX : ∀ d, X d → (∀ j, B ≤ j → j < 6 → d j = 0) ∧ (∀ j, j < 6 → cAd A d j ≤ 300000) ∧ ∀ i, i < 6 → X (cUp d i 0)) : FWs (fun S => cn (row S)) (cAd A c) B ∧ ∀ S, S < 64 → row S = nI (cn (row S)) := by
  obtain ⟨b, hb, hr⟩ := hw
  have val : ∀ S, S < 64 → row S = nI (cn (row S)) ∧ cn (row S) ≤ 1800000 ∧ IsW b S (cn (row S)) := fun S hS => by
    obtain ⟨w, w1, w2, w3⟩ := hr S hS
    have e : cn (row S) = w := by rw [w1, cn_nI (by omega)]
    rw [e]
    exact ⟨w1, w2, w3⟩
  have b63 : ∀ j, j < 6 → (63 : Nat).testBit j = true := by decide
  have am : ∀ T, T < 64 → b T ≤ cAm A c := fun T hT => by
    rcases (hb T hT).2 with z | ⟨d, d1, d2, d3⟩
    · omega
    · rw [← d3]
      exact (hbest d d1).le
  have w63 : cn (row 63) = cAm A c := by
    obtain ⟨v1, v2, v3, T, t1, t2, t3⟩ := val 63 (by decide)
    have l1 := am T t1
    have l2 := v3 (cSp c) cSp_lt (fun j hj _ => b63 j hj)
    have l3 := (hb (cSp c) cSp_lt).1 c hc rfl
    omega
  refine ⟨⟨fun S hS => ⟨(val S hS).2.1, ?_, ?_⟩, fun j hj => ⟨(hX c hc).2.1 j hj, ?_, ?_⟩, w63, fun j h1 h2 => ?_⟩, fun S hS => (val S hS).1⟩
  · obtain ⟨_, _, _, T, t1, t2, t3⟩ := val S hS
    have := (val 63 (by decide)).2.2.1 T t1 (fun j hj _ => b63 j hj)
    show cn (row S) ≤ cn (row 63)
    omega
  · obtain ⟨l1, l2, l3, _⟩ := and_lo (B := B) hS hB6
    obtain ⟨_, _, v3, T, t1, t2, t3⟩ := val S hS
    obtain ⟨_, _, v4, T2, t4, t5, t6⟩ := val (S &&& (2 ^ B - 1)) (by omega)
    show cn (row (S &&& (2 ^ B - 1))) = cn (row S)
    have k1 : cn (row (S &&& (2 ^ B - 1))) ≤ cn (row S) := by
      rw [← t6]
      refine v3 T2 t4 fun j hj ht => ?_
      have := t5 j hj ht
      rw [l3 j hj] at this
      exact (Bool.and_eq_true_iff.mp this).1
    have k2 : cn (row S) ≤ cn (row (S &&& (2 ^ B - 1))) := by
      rw [← t3]
      rcases (hb T t1).2 with z | ⟨d, d1, d2, d3⟩
      · omega
      · refine v4 T t1 fun j hj ht => ?_
        rw [l3 j hj, t2 j hj ht, Bool.true_and]
        refine decide_eq_true (Classical.byContradiction fun n => ?_)
        rw [← d2, cSp_bit hj, (hX d d1).1 j (by omega) hj] at ht
        simp at ht
    omega
  · show _ ≤ cn (row 63)
    rw [w63]
    exact nsum_ge hj
  · show cn (row 63) ≤ cn (row (bclr 63 j)) + _
    obtain ⟨b1, b2, _⟩ := bclr_bits (S := 63) (k := j) (by decide) hj
    have xd := (hX c hc).2.2 j hj
    have l2 := (val (bclr 63 j) b2).2.2.1 (cSp (cUp c j 0)) cSp_lt (fun i hi ht => by
      rw [b1 i hi, b63 i hi, Bool.true_and]
      refine decide_eq_true fun e => ?_
      rw [cSp_bit hi, e, cUp_at] at ht
      simp at ht)
    have l3 := (hb (cSp (cUp c j 0)) cSp_lt).1 _ xd rfl
    have l4 := nsum_set (d := cAd A c) (d2 := cAd A (cUp c j 0)) hj (fun i _ e => by
      unfold cAd
      rw [cUp_ne e])
    rw [show cAd A (cUp c j 0) j = 0 from if_pos cUp_at] at l4
    rw [w63]
    have l4 : cAm A (cUp c j 0) + cAd A c j = cAm A c + 0 := l4
    omega
  · unfold cAd
    rw [if_pos ((hX c hc).1 j h1 h2)]
end
end
section
/-! ===== which block is whose, alike on both sides ===== -/
def cuw (w : Nat → Nat) (t k : Nat) : Nat := nsum (fun i => w ((t + i) % 6)) k
def hvw (w : Nat → Nat) (t b : Nat) : Nat → Int32
  | 0 => -1
  | k + 1 => if cuw w t k ≤ b ∧ b < cuw w t (k + 1) then nI ((t + k) % 6) else hvw w t b k
def hro (w : Nat → Nat) (sp t b : Nat) : Int32 := if b < sp then hvw w t b 6 else -1
def cbb (f g : Nat → Int32) (b : Nat) : Nat := if f b = -1 ∨ g b = -1 ∨ f b = g b then 0 else 1
def cbn (f g : Nat → Int32) : Nat := nsum (cbb f g) 5
section
variable {σ τ s : XS9} {w w2 : Nat → Nat} {t b k r : Nat} {sp : Nat → Nat} {f g : Nat → Int32}
theorem cuw_s : cuw w t (k + 1) = cuw w t k + w ((t + k) % 6) := rfl
theorem cuw_le {m : Nat} (h : k ≤ m) : cuw w t k ≤ cuw w t m := nsum_lej h
theorem hvw_out : ∀ k, cuw w t k ≤ b → hvw w t b k = -1
  | 0, _ => rfl
  | k + 1, h => by
    have l : cuw w t k ≤ cuw w t (k + 1) := cuw_le (by omega)
    show (if cuw w t k ≤ b ∧ b < cuw w t (k + 1) then nI ((t + k) % 6) else hvw w t b k) = -1
    rw [if_neg (by omega)]
    exact hvw_out k (by omega)
theorem hvw_in (h1 : cuw w t k ≤ b) (h2 : b < cuw w t (k + 1)) : ∀ n, hvw w t b (k + 1 + n) = nI ((t + k) % 6)
  | 0 => if_pos ⟨h1, h2⟩
  | n + 1 => by
    have l : cuw w t (k + 1) ≤ cuw w t (k + 1 + n) := cuw_le (by omega)
    show (if cuw w t (k + 1 + n) ≤ b ∧ b < cuw w t (k + 1 + n + 1) then nI ((t + (k + 1 + n)) % 6) else hvw w t b (k + 1 + n)) = _
    rw [if_neg (by omega)]
    exact hvw_in h1 h2 n
theorem rng_at {q b0 : Nat} {x : Int32} {j : Nat} : ∀ (n i : Nat) (s : XS9), xit (fun i62 (s62 : XS9) => u2 s62 q (b0 + i62) x) n i s q j = if b0 + i ≤ j ∧ j < b0 + i + n then x else s q j
  | 0, i, s => (if_neg (by omega)).symm
  | n + 1, i, s => by
    refine (rng_at n (i + 1) (u2 s q (b0 + i) x)).trans ?_
    by_cases e : j = b0 + i
    · rw [if_neg (by omega), if_pos (by omega), e, u2_at]
    · rw [u2_oi e]
      by_cases e2 : b0 + i ≤ j ∧ j < b0 + i + (n + 1)
      · rw [if_pos e2, if_pos (by omega)]
      · rw [if_neg e2, if_neg (by omega)]
theorem rng_ne {q b0 q2 : Nat} {x : Int32} (h : q2 ≠ q) {n i : Nat} {s : XS9} : xit (fun i62 (s62 : XS9) => u2 s62 q (b0 + i62) x) n i s q2 = s q2 := xit_keep (fun s : XS9 => s q2) (fun i s => u2_ne h) _ _ _
theorem cbw_row {s2 : XS9} {j : Nat} (e1 : s2 1040 = s 1040) (e2 : s2 (1022 + j) = s (1022 + j)) : cbw s2 j r = cbw s j r := by
  unfold cbw f_blocksWon
  rw [e1, e2]
/-- the program's row for a turn -/
theorem give_c (hr : r < 5) (hw : ∀ j, j < 6 → cbw σ j r = w j) (hsp : sp r ≤ 5) : (∀ b, b < 5 → g_giveByTurn σ r t sp (1141 + r) b = hro w (sp r) t b) ∧ ∀ q, q ≠ 1141 + r → g_giveByTurn σ r t sp q = σ q := by
  refine ⟨?_, fun q hq => fr_giveByTurn hq⟩
  have H := xit_ind (step := fun i20 (s20 : XS9 × Nat) => ((x_giveByTurn_62 σ r t sp i20 s20 s20.1), min (s20.2 + cbw s20.1 ((t + i20) % 6) r) (sp r))) (fun k v => (∀ b, b < 5 → v.1 (1141 + r) b = if b < sp r then hvw w t b k else -1) ∧ v.2 = min (cuw w t k) (sp r) ∧ ∀ q, q ≠ 1141 + r → v.1 q = σ q) (N := 6) (fun k v hk hP => ?_) 6 0 (g_fill σ (1141 + r) 5 (-1), 0) rfl ⟨fun b hb => ?_, by show 0 = min 0 (sp r); omega, fun q hq => fr_fill hq⟩
  · exact H.1
  · obtain ⟨v1, v2, v3⟩ := hP
    have e : cbw v.1 ((t + k) % 6) r = w ((t + k) % 6) := by
      have m6 := Nat.mod_lt (t + k) (show 0 < 6 by decide)
      rw [cbw_row (v3 1040 (by omega)) (v3 (1022 + (t + k) % 6) (by omega))]
      exact hw _ m6
    (try dsimp only)
    unfold x_giveByTurn_62
    rw [e, v2]
    refine ⟨fun b hb => ?_, ?_, fun q hq => (rng_ne hq).trans (v3 q hq)⟩
    · rw [rng_at, v1 b hb]
      show _ = if b < sp r then (if cuw w t k ≤ b ∧ b < cuw w t (k + 1) then nI ((t + k) % 6) else hvw w t b k) else -1
      rw [cuw_s]
      by_cases c0 : b < sp r
      · rw [if_pos c0, if_pos c0]
        by_cases c1 : cuw w t k ≤ b ∧ b < cuw w t k + w ((t + k) % 6)
        · rw [if_pos c1, if_pos (by omega)]
        · rw [if_neg c1, if_neg (by omega)]
      · rw [if_neg c0, if_neg c0, if_neg (by omega)]
    · rw [cuw_s]
      omega
  · show g_fill σ (1141 + r) 5 (-1) (1141 + r) b = if b < sp r then hvw w t b 0 else -1
    rw [fillz hb]
    split <;> rfl
/-- the reference's holder -/
theorem holds_m {B : Nat} (hb : b < 1000) (h5 : ∀ j, j < 6 → w j ≤ 5) (hw : ∀ j, j < 6 → (B ≤ j → w j = 0) ∧ (j < B → τ 5005 j = -1 → w j = 0) ∧ (j < B → τ 5005 j ≠ -1 → f_of (f_Bcode τ j (cn (τ 5005 j))) r = nI (w j))) (hB : B < 1000) : f_Mholds τ r (nI b) t B = hvw w t b 6 := by
  have H : ∀ (n i : Nat), i + n = 6 → cuw w t i ≤ b → (match xitR (fun i6 (s6 : Int32) => (if (nI B) ≤ (nI ((i6 + t) % 6)) then (if 0 ≤ s6 then (.inl (s6 - 0) : Int32 ⊕ Int32) else .inr (nI ((i6 + t) % 6))) else (if (τ 5005 ((i6 + t) % 6)) = (-1) then (if 0 ≤ s6 then .inl (s6 - 0) else .inr (nI ((i6 + t) % 6))) else (if (f_of (f_Bcode τ ((i6 + t) % 6) (cn (τ 5005 ((i6 + t) % 6)))) r) ≤ s6 then .inl (s6 - (f_of (f_Bcode τ ((i6 + t) % 6) (cn (τ 5005 ((i6 + t) % 6)))) r)) else .inr (nI ((i6 + t) % 6)))))) n i (nI (b - cuw w t i)) with | .inl _ => (-1 : Int32) | .inr r6 => r6) = hvw w t b 6 := by
    intro n
    induction n with
    | zero =>
      intro i e h
      obtain rfl : i = 6 := by omega
      exact (hvw_out 6 h).symm
    | succ n ih =>
      intro i e h
      have m6 := Nat.mod_lt (i + t) (show 0 < 6 by decide)
      obtain ⟨w1, w2, w3⟩ := hw _ m6
      have w5 := h5 _ m6
      have cs : cuw w t (i + 1) = cuw w t i + w ((i + t) % 6) := by rw [cuw_s, Nat.add_comm t i]
      have z0 : (0 : Int32) ≤ nI (b - cuw w t i) := (nle (a := 0) (by omega) (by omega)).mpr (Nat.zero_le _)
      unfold xitR
      (try dsimp only)
      by_cases c1 : B ≤ (i + t) % 6
      · rw [if_pos ((nle (by omega) (by omega)).mpr c1), if_pos z0, Int32.sub_zero]
        have z := w1 c1
        have := ih (i + 1) (by omega) (by omega)
        rw [show b - cuw w t (i + 1) = b - cuw w t i by omega] at this
        exact this
      · rw [if_neg (fun q => c1 ((nle (by omega) (by omega)).mp q))]
        by_cases c2 : τ 5005 ((i + t) % 6) = -1
        · rw [if_pos c2, if_pos z0, Int32.sub_zero]
          have z := w2 (by omega) c2
          have := ih (i + 1) (by omega) (by omega)
          rw [show b - cuw w t (i + 1) = b - cuw w t i by omega] at this
          exact this
        · rw [if_neg c2, w3 (by omega) c2]
          by_cases c3 : w ((i + t) % 6) ≤ b - cuw w t i
          · rw [if_pos ((nle (by omega) (by omega)).mpr c3), nI_minus c3]
            have := ih (i + 1) (by omega) (by omega)
            rw [show b - cuw w t (i + 1) = b - cuw w t i - w ((i + t) % 6) by omega] at this
            exact this
          · rw [if_neg (fun q => c3 ((nle (by omega) (by omega)).mp q))]
            have := hvw_in (w := w) (t := t) (b := b) (k := i) h (by omega) (6 - (i + 1))
            rw [show i + 1 + (6 - (i + 1)) = 6 by omega, Nat.add_comm t i] at this
            exact this.symm
  exact H 6 0 rfl (Nat.zero_le _)
/-! clashes -/
theorem clash_c : f_clashesBetween f g = nI (cbn f g) := by
  unfold f_clashesBetween x_clashesBetween_4 cbn
  refine Eq.trans (xit_cg (N := 5) (step' := fun i (x : Int32) => x + nI (cbb f g i)) (fun i x hi => ?_) 5 0 0 rfl) (xsum_n (t := fun i => nI (cbb f g i)) (fun i _ => rfl))
  (try dsimp only)
  unfold cbb
  by_cases c1 : f i = -1
  · rw [if_pos c1, if_pos (.inl c1)]
    exact (Int32.add_zero x).symm
  · rw [if_neg c1]
    by_cases c2 : g i = -1
    · rw [if_pos c2, if_pos (.inr (.inl c2))]
      exact (Int32.add_zero x).symm
    · rw [if_neg c2]
      by_cases c3 : f i = g i
      · rw [if_pos c3, if_pos (.inr (.inr c3))]
        exact (Int32.add_zero x).symm
      · rw [if_neg c3, if_neg (by simp [c1, c2, c3])]
        rfl
theorem cbn_cg {f2 g2 : Nat → Int32} (h1 : ∀ b, b < 5 → f b = f2 b) (h2 : ∀ b, b < 5 → g b = g2 b) : cbn f g = cbn f2 g2 := nsum_cg fun b hb => by
  unfold cbb
  rw [h1 b hb, h2 b hb]
theorem cbn_le : cbn f g ≤ 5 := by
  have := nsum_le (d := cbb f g) (k := 1) (N := 5) fun i _ => by
    unfold cbb
    split <;> decide
  unfold cbn
  omega
theorem clash_m {r2 tn tn2 B : Nat} {u u2 : Nat → Nat} (h1 : ∀ b, b < 5 → f_Mholds τ r (nI b) tn B = hvw u tn b 6) (h2 : ∀ b, b < 5 → f_Mholds τ r2 (nI b) tn2 B = hvw u2 tn2 b 6) (hs1 : sp r ≤ 5) (hs2 : sp r2 ≤ 5) : f_Mclashes τ r tn r2 tn2 B sp = nI (cbn (hro u (sp r) tn) (hro u2 (sp r2) tn2)) := by
  have cut : cbn (hro u (sp r) tn) (hro u2 (sp r2) tn2) = nsum (cbb (hro u (sp r) tn) (hro u2 (sp r2) tn2)) (min (sp r) (sp r2)) := nsum_cut (fun b hb1 hb2 => by
    unfold cbb
    by_cases c : b < sp r
    · have e : hro u2 (sp r2) tn2 b = -1 := if_neg (by omega)
      rw [if_pos (.inr (.inl e))]
    · have e : hro u (sp r) tn b = -1 := if_neg c
      rw [if_pos (.inl e)]) (by omega)
  rw [cut]
  unfold f_Mclashes x_Mclashes_39
  refine Eq.trans (xit_cg (N := min (sp r) (sp r2)) (step' := fun i (x : Int32) => x + nI (cbb (hro u (sp r) tn) (hro u2 (sp r2) tn2) i)) (fun i x hi => ?_) _ 0 0 (Nat.zero_add _)) (xsum_n (t := fun i => nI (cbb (hro u (sp r) tn) (hro u2 (sp r2) tn2) i)) (fun i _ => rfl))
  (try dsimp only)
  have e1 : hro u (sp r) tn i = f_Mholds τ r (nI i) tn B := by rw [h1 i (by omega)]; exact if_pos (by omega)
  have e2 : hro u2 (sp r2) tn2 i = f_Mholds τ r2 (nI i) tn2 B := by rw [h2 i (by omega)]; exact if_pos (by omega)
  unfold cbb
  rw [e1, e2]
  by_cases c1 : f_Mholds τ r (nI i) tn B = -1
  · rw [if_pos c1, if_pos (.inl c1)]
    rfl
  · rw [if_neg c1]
    by_cases c2 : f_Mholds τ r2 (nI i) tn2 B = -1
    · rw [if_pos c2, if_pos (.inr (.inl c2))]
      rfl
    · rw [if_neg c2]
      by_cases c3 : f_Mholds τ r (nI i) tn B = f_Mholds τ r2 (nI i) tn2 B
      · rw [if_pos c3, if_pos (.inr (.inr c3))]
        rfl
      · rw [if_neg c3, if_neg (by simp [c1, c2, c3])]
        rfl
/-- clashes of a region by a turn, when those before it have theirs -/
def clN (nb : Nat → Nat → Bool) (w : Nat → Nat → Nat) (sp T : Nat → Nat) (r t o : Nat) : Nat := if nb r o = true then cbn (hro (w r) (sp r) t) (hro (w o) (sp o) (T o)) else 0
end
end
section
/-! ===== turns of names, alike on both sides ===== -/
def bsT (F : Nat → Nat) (k m : Nat) : Nat × Nat := xit (fun t (s : Nat × Nat) => if F t < s.2 then (t, F t) else s) k 0 (0, m)
def tot (nb : Nat → Nat → Bool) (w : Nat → Nat → Nat) (sp T : Nat → Nat) (i : Nat) : Nat := nsum (fun o => nsum (clN nb w sp T o (T o)) o) i
section
variable {σ τ s v : XS9} {w : Nat → Nat → Nat} {nb : Nat → Nat → Bool} {sp sp2 T T2 : Nat → Nat} {R B r t : Nat} {F : Nat → Nat}
theorem bsT_s {k m : Nat} : bsT F (k + 1) m = if F k < (bsT F k m).2 then (k, F k) else bsT F k m := xit_last
theorem bsT_one {m m2 : Nat} (h : F 0 < m) (h2 : F 0 < m2) : ∀ k, bsT F (k + 1) m = bsT F (k + 1) m2
  | 0 => by
    rw [bsT_s, bsT_s]
    show (if F 0 < m then (0, F 0) else (0, m)) = (if F 0 < m2 then (0, F 0) else (0, m2))
    rw [if_pos h, if_pos h2]
  | k + 1 => by rw [bsT_s (k := k + 1), bsT_s (k := k + 1), bsT_one h h2 k]
theorem bsT_2 {k m : Nat} : (bsT F k m).2 ≤ m ∧ (bsT F k m).1 ≤ k := by
  induction k with
  | zero => exact ⟨Nat.le_refl _, Nat.le_refl _⟩
  | succ k ih =>
    rw [bsT_s]
    split
    · exact ⟨by show F k ≤ m; omega, by show k ≤ k + 1; omega⟩
    · exact ⟨ih.1, by omega⟩
theorem bsT_F {k m : Nat} (hm : F 0 < m) : (bsT F (k + 1) m).2 = F (bsT F (k + 1) m).1 := by
  induction k with
  | zero =>
    rw [bsT_s]
    show (if F 0 < m then (0, F 0) else (0, m)).2 = F (if F 0 < m then (0, F 0) else (0, m)).1
    rw [if_pos hm]
  | succ k ih =>
    rw [bsT_s]
    split
    · rfl
    · exact ih
theorem clN_le {o : Nat} : clN nb w sp T r t o ≤ 5 := by
  unfold clN
  split
  · exact cbn_le
  · exact Nat.zero_le _
theorem clN_cg {o : Nat} (h : T o = T2 o) : clN nb w sp T r t o = clN nb w sp T2 r t o := by
  unfold clN
  rw [h]
theorem tot_cg {i : Nat} (h : ∀ o, o < i → T o = T2 o) : tot nb w sp T i = tot nb w sp T2 i := nsum_cg fun o ho => by
  (try dsimp only)
  rw [h o ho]
  exact nsum_cg fun o2 ho2 => clN_cg (h o2 (by omega))
theorem tot_le {i : Nat} (hi : i ≤ 5) : tot nb w sp T i ≤ 125 := by
  have := nsum_le (d := fun o => nsum (clN nb w sp T o (T o)) o) (k := 25) (N := i) fun o ho => by
    have := nsum_le (d := clN nb w sp T o (T o)) (k := 5) (N := o) fun o2 _ => clN_le
    (try dsimp only)
    omega
  unfold tot
  omega
/-- the program's clashes of a region -/
theorem clO_c (hrow : ∀ b, b < 5 → s (1141 + r) b = hro (w r) (sp r) t b) (hrows : ∀ o, o < r → ∀ b, b < 5 → s (1141 + o) b = hro (w o) (sp o) (T o) b) (hnb : ∀ o, o < r → (f_areNeighbours s r o = 0 ↔ nb r o = false)) : f_clashesOf s r = nI (nsum (clN nb w sp T r t) r) := by
  unfold f_clashesOf x_clashesOf_5
  refine Eq.trans (xit_cg (N := r) (step' := fun i (x : Int32) => x + nI (clN nb w sp T r t i)) (fun i x hi => ?_) r 0 0 (Nat.zero_add _)) (xsum_n (t := fun i => nI (clN nb w sp T r t i)) (fun i _ => rfl))
  (try dsimp only)
  unfold clN
  cases hn : nb r i with
  | false =>
    rw [if_pos ((hnb i hi).mpr hn), if_neg (by decide)]
    exact (Int32.add_zero x).symm
  | true =>
    rw [if_neg (fun z => by rw [(hnb i hi).mp z] at hn; cases hn), if_pos rfl, clash_c, cbn_cg hrow (hrows i hi)]
/-- the reference's -/
theorem mcl_sp {tn r2 tn2 : Nat} (e1 : sp2 r = sp r) (e2 : sp2 r2 = sp r2) : f_Mclashes τ r tn r2 tn2 B sp2 = f_Mclashes τ r tn r2 tn2 B sp := by
  unfold f_Mclashes x_Mclashes_39
  rw [e1, e2]
def hdM (τ : XS9) (w : Nat → Nat → Nat) (B R : Nat) : Prop := ∀ r, r < R → ∀ j, j < 6 → w r j ≤ 5 ∧ (B ≤ j → w r j = 0) ∧ (j < B → τ 5005 j = -1 → w r j = 0) ∧ (j < B → τ 5005 j ≠ -1 → f_of (f_Bcode τ j (cn (τ 5005 j))) r = nI (w r j))
theorem hdM.of (h : hdM τ w B R) (e : ∀ q, (q = 5005 ∨ (5030 ≤ q ∧ q ≤ 5035)) → v q = τ q) : hdM v w B R := fun r hr j hj => by
  have := h r hr j hj
  unfold f_Bcode at this ⊢
  rw [e 5005 (by omega), e (5030 + j) (by omega)]
  exact this
theorem hdM.at (h : hdM τ w B R) (hr : r < R) (hB6 : B ≤ 6) {b : Nat} (hb : b < 1000) : f_Mholds τ r (nI b) t B = hvw (w r) t b 6 := holds_m hb (fun j hj => (h r hr j hj).1) (fun j hj => (h r hr j hj).2) (by omega)
theorem clO_m (h : hdM v w B R) (hB6 : B ≤ 6) (hr : r < R) (hR5 : R ≤ 5) (hsp : ∀ o, o < R → sp2 o = sp o ∧ sp o ≤ 5) (hnb : ∀ o, o < r → ((((σ (5010 + r) 3) >>> ((nI o) &&& 31)) &&& 1) = 1 ↔ nb r o = true)) : x_Mkeep_79 σ v r B sp2 t 0 = nI (nsum (clN nb w sp (fun o => cn (v 5007 o)) r t) r) := by
  unfold x_Mkeep_79
  refine Eq.trans (xit_cg (N := r) (step' := fun i (x : Int32) => x + nI (clN nb w sp (fun o => cn (v 5007 o)) r t i)) (fun i x hi => ?_) r 0 0 (Nat.zero_add _)) (xsum_n (t := fun i => nI (clN nb w sp (fun o => cn (v 5007 o)) r t i)) (fun i _ => rfl))
  (try dsimp only)
  unfold clN
  cases hn : nb r i with
  | false =>
    rw [if_neg (fun z => by rw [(hnb i hi).mp z] at hn; cases hn), if_neg (by decide)]
    rfl
  | true => rw [if_pos ((hnb i hi).mpr hn), if_pos rfl, mcl_sp (hsp r hr).1 (hsp i (by omega)).1, clash_m (u := w r) (u2 := w i) (fun b hb => h.at hr hB6 (by omega)) (fun b hb => h.at (by omega) hB6 (by omega)) (hsp r hr).2 (hsp i (by omega)).2]
theorem give25_c {i : Nat} (hi : i < 5) (hsp : sp i ≤ 5) (hw : ∀ j, j < 6 → cbw s j i = w i j) (hrows : ∀ o, o < i → ∀ b, b < 5 → s (1141 + o) b = hro (w o) (sp o) (T o) b) (hnb : ∀ o, o < i → (f_areNeighbours s i o = 0 ↔ nb i o = false)) (F20 : ∀ t, nsum (clN nb w sp T i t) i ≤ 20) : (x_give_25 σ R sp i (s, 0, 25)).2.1 = (bsT (fun t => nsum (clN nb w sp T i t) i) 6 25).1 ∧ (x_give_25 σ R sp i (s, 0, 25)).2.2 = nI (bsT (fun t => nsum (clN nb w sp T i t) i) 6 25).2 ∧ ∀ q, q ≠ 1141 + i → (x_give_25 σ R sp i (s, 0, 25)).1 q = s q := by
  obtain ⟨F, eF⟩ : ∃ F : Nat → Nat, F = fun t => nsum (clN nb w sp T i t) i := ⟨_, rfl⟩
  have eFk : ∀ k, nsum (clN nb w sp T i k) i = F k := fun k => by rw [eF]
  rw [← eF]
  unfold x_give_25
  refine xit_ind (fun k (u : XS9 × Nat × Int32) => u.2.1 = (bsT F k 25).1 ∧ u.2.2 = nI (bsT F k 25).2 ∧ ∀ q, q ≠ 1141 + i → u.1 q = s q) (N := 6) (fun k u hk hQ => ?_) 6 0 (s, 0, 25) rfl ⟨rfl, rfl, fun _ _ => rfl⟩
  obtain ⟨u1, u2', u3⟩ := hQ
  obtain ⟨g1, g2⟩ := give_c (σ := u.1) (w := w i) (t := k) (sp := sp) (r := i) hi (fun j hj => by
    rw [cbw_row (u3 1040 (by omega)) (u3 (1022 + j) (by omega))]
    exact hw j hj) hsp
  have ck : f_clashesOf (g_giveByTurn u.1 i k sp) i = nI (F k) := by
    rw [← eFk]
    refine clO_c (T := T) g1 (fun o ho b hb => ?_) (fun o ho => ?_)
    · rw [g2 (1141 + o) (by omega), u3 (1141 + o) (by omega)]
      exact hrows o ho b hb
    · rw [← hnb o ho]
      unfold f_areNeighbours
      rw [g2 1013 (by omega), u3 1013 (by omega)]
  have b9 := (bsT_2 (F := F) (k := k) (m := 25)).1
  have f9 := F20 k
  rw [eFk] at f9
  (try dsimp only)
  rw [ck, bsT_s, u2', u1]
  by_cases c : F k < (bsT F k 25).2
  · rw [if_neg (fun z => by have := (nle (by omega) (by omega)).mp z; omega), if_pos c]
    refine ⟨rfl, rfl, fun q hq => ?_⟩
    dsimp only
    rw [g2 q hq]
    exact u3 q hq
  · rw [if_pos ((nle (by omega) (by omega)).mpr (by omega)), if_neg c]
    refine ⟨rfl, rfl, fun q hq => ?_⟩
    dsimp only
    rw [g2 q hq]
    exact u3 q hq
theorem keep66_m {i : Nat} (h : hdM v w B R) (hB6 : B ≤ 6) (hi : i < R) (hR5 : R ≤ 5) (hsp : ∀ o, o < R → sp2 o = sp o ∧ sp o ≤ 5) (hnb : ∀ o, o < i → ((((τ (5010 + i) 3) >>> ((nI o) &&& 31)) &&& 1) = 1 ↔ nb i o = true)) (F20 : ∀ t, nsum (clN nb w sp (fun o => cn (v 5007 o)) i t) i ≤ 20) : (x_Mkeep_66 τ v i B sp2 (0, 999)).1 = (bsT (fun t => nsum (clN nb w sp (fun o => cn (v 5007 o)) i t) i) 6 999).1 := by
  obtain ⟨F, eF⟩ : ∃ F : Nat → Nat, F = fun t => nsum (clN nb w sp (fun o => cn (v 5007 o)) i t) i := ⟨_, rfl⟩
  have eFk : ∀ k, nsum (clN nb w sp (fun o => cn (v 5007 o)) i k) i = F k := fun k => by rw [eF]
  rw [← eF]
  have M := xit_ind (step := fun i66 (s66 : Nat × Int32) => (if (x_Mkeep_79 τ v i B sp2 i66 0) < s66.2 then (i66, (x_Mkeep_79 τ v i B sp2 i66 0)) else (s66.1, s66.2))) (fun k u => u.1 = (bsT F k 999).1 ∧ u.2 = nI (bsT F k 999).2) (N := 6) (fun k u hk hQ => ?_) 6 0 (0, 999) rfl ⟨rfl, rfl⟩
  · exact M.1
  · obtain ⟨u1, u2'⟩ := hQ
    have ck : x_Mkeep_79 τ v i B sp2 k 0 = nI (F k) := by
      rw [← eFk]
      exact clO_m (σ := τ) (v := v) (w := w) (nb := nb) (R := R) h hB6 hi hR5 hsp hnb
    have b9 := (bsT_2 (F := F) (k := k) (m := 999)).1
    have f9 := F20 k
    rw [eFk] at f9
    (try dsimp only)
    rw [ck, bsT_s, u2', u1]
    by_cases c : F k < (bsT F k 999).2
    · rw [if_pos ((nlt (by omega) (by omega)).mpr c), if_pos c]
      exact ⟨rfl, rfl⟩
    · rw [if_neg (fun z => c ((nlt (by omega) (by omega)).mp z)), if_neg c]
      exact ⟨rfl, rfl⟩
/-- both take the same turns -/
theorem give_sim (hR5 : R ≤ 5) (hB6 : B ≤ 6) (hw : ∀ r, r < R → ∀ j, j < 6 → cbw σ j r = w r j) (hM : hdM v w B R) (hsp : ∀ o, o < R → sp2 o = sp o ∧ sp o ≤ 5) (hc : ∀ r o, r < R → o < r → (f_areNeighbours σ r o = 0 ↔ nb r o = false)) (hm : ∀ r o, r < R → o < r → ((((τ (5010 + r) 3) >>> ((nI o) &&& 31)) &&& 1) = 1 ↔ nb r o = true)) : (∀ r, r < R → x_Mkeep_45 τ B R sp2 v 5007 r = nI (cn (x_Mkeep_45 τ B R sp2 v 5007 r)) ∧ cn (x_Mkeep_45 τ B R sp2 v 5007 r) < 6 ∧ ∀ b, b < 5 → g_give σ R sp (1141 + r) b = hro (w r) (sp r) (cn (x_Mkeep_45 τ B R sp2 v 5007 r)) b) ∧ g_give σ R sp 1005 1 = nI (tot nb w sp (fun o => cn (x_Mkeep_45 τ B R sp2 v 5007 o)) R) ∧ ∀ q, q ≠ 5007 → x_Mkeep_45 τ B R sp2 v q = v q := by
  have H := xit_two (f := fun i7 (s7 : XS9) => u2 (g_giveByTurn ((x_give_25 σ R sp i7 (s7, 0, 25)).1) i7 ((x_give_25 σ R sp i7 (s7, 0, 25)).2.1) sp) 1005 1 ((((x_give_25 σ R sp i7 (s7, 0, 25)).1) 1005 1) + ((x_give_25 σ R sp i7 (s7, 0, 25)).2.2))) (g := fun i45 (s45 : XS9) => u2 s45 5007 i45 (nI ((x_Mkeep_66 τ s45 i45 B sp2 (0, 999)).1))) (fun i s v' => (∀ r, r < i → v' 5007 r = nI (cn (v' 5007 r)) ∧ cn (v' 5007 r) < 6 ∧ ∀ b, b < 5 → s (1141 + r) b = hro (w r) (sp r) (cn (v' 5007 r)) b) ∧ s 1005 1 = nI (tot nb w sp (fun o => cn (v' 5007 o)) i) ∧ (∀ q, q ≠ 5007 → v' q = v q) ∧ ∀ q, q ≠ 1005 → (q < 1141 ∨ 1145 < q) → s q = σ q) (N := R) (fun i s v' hi hP => ?_) R 0 (u2 σ 1005 1 0) v (Nat.zero_add _) ⟨fun r hr => absurd hr (by omega), u2_at, fun _ _ => rfl, fun q hq _ => u2_ne hq⟩
  · exact ⟨H.1, H.2.1, H.2.2.1⟩
  · obtain ⟨h1, h2, h3, h4⟩ := hP
    obtain ⟨T, eT⟩ : ∃ T : Nat → Nat, T = fun o => cn (v' 5007 o) := ⟨_, rfl⟩
    obtain ⟨F, eF⟩ : ∃ F : Nat → Nat, F = fun t => nsum (clN nb w sp T i t) i := ⟨_, rfl⟩
    have F20 : ∀ t, F t ≤ 20 := fun t => by
      have := nsum_le (d := clN nb w sp T i t) (k := 5) (N := i) fun o2 _ => clN_le
      rw [eF]
      show nsum (clN nb w sp T i t) i ≤ 20
      omega
    have eFk : ∀ k, nsum (clN nb w sp T i k) i = F k := fun k => by rw [eF]
    have Q := give25_c (σ := σ) (R := R) (s := s) (w := w) (nb := nb) (sp := sp) (T := T) (i := i) (by omega) (hsp i hi).2 (fun j hj => by
      rw [cbw_row (h4 1040 (by decide) (by decide)) (h4 (1022 + j) (by omega) (by omega))]
      exact hw i hi j hj) (fun o ho b hb => by
      rw [eT]
      exact (h1 o ho).2.2 b hb) (fun o ho => by
      rw [← hc i o hi ho]
      unfold f_areNeighbours
      rw [h4 1013 (by decide) (by decide)]) (fun t => by rw [eFk]; exact F20 t)
    have M := keep66_m (τ := τ) (v := v') (w := w) (nb := nb) (sp := sp) (sp2 := sp2) (R := R) (B := B) (i := i) (hM.of fun q hq => h3 q (by omega)) hB6 hi hR5 hsp (fun o ho => hm i o hi ho) (fun t => by
      rw [← eT, eFk]
      exact F20 t)
    rw [← eT, ← eF] at M
    rw [← eF] at Q
    have eb : bsT F 6 25 = bsT F 6 999 := bsT_one (m := 25) (m2 := 999) (by have := F20 0; omega) (by have := F20 0; omega) 5
    have eF6 : (bsT F 6 25).2 = F (bsT F 6 25).1 := bsT_F (k := 5) (by have := F20 0; omega)
    have m6 : (bsT F 6 25).1 < 6 := by
      have q : ∀ k, (bsT F (k + 1) 25).1 ≤ k := by
        intro k
        induction k with
        | zero =>
          rw [bsT_s]
          show (if F 0 < 25 then (0, F 0) else (0, 25)).1 ≤ 0
          split <;> exact Nat.le_refl _
        | succ k ih =>
          rw [bsT_s]
          split
          · exact Nat.le_refl _
          · omega
      exact Nat.lt_succ_of_le (q 5)
    (try dsimp only)
    rw [M, ← eb, Q.1, Q.2.1, eF6]
    generalize (bsT F 6 25).1 = m at m6 ⊢
    obtain ⟨q1, q2, q3⟩ := Q
    generalize (x_give_25 σ R sp i (s, 0, 25)).1 = u at q3 ⊢
    have eu : cn (nI m) = m := cn_nI (by omega)
    obtain ⟨g1, g2⟩ := give_c (σ := u) (w := w i) (t := m) (sp := sp) (r := i) (by omega) (fun j hj => by
      rw [cbw_row ((q3 1040 (by omega)).trans (h4 1040 (by decide) (by decide))) ((q3 (1022 + j) (by omega)).trans (h4 (1022 + j) (by omega) (by omega)))]
      exact hw i hi j hj) (hsp i hi).2
    refine ⟨fun r hr => ?_, ?_, fun q hq => by rw [u2_ne hq]; exact h3 q hq, fun q hq1 hq2 => ?_⟩
    · by_cases e : r = i
      · rw [e, u2_at, eu]
        refine ⟨rfl, m6, fun b hb => ?_⟩
        rw [u2_ne (by omega)]
        exact g1 b hb
      · rw [u2_oi e, u2_ne (show 1141 + r ≠ 1005 by omega), g2 (1141 + r) (by omega), q3 (1141 + r) (by omega)]
        exact h1 r (by omega)
    · have c1 : tot nb w sp (fun o => cn (u2 v' 5007 i (nI m) 5007 o)) (i + 1) = tot nb w sp T i + F m := by
        have eFm : F m = nsum (clN nb w sp T i m) i := by rw [eF]
        have eT2 : ∀ o, o < i → cn (u2 v' 5007 i (nI m) 5007 o) = T o := fun o ho => by
          rw [u2_oi (by omega), eT]
        have cz : nsum (clN nb w sp (fun o => cn (u2 v' 5007 i (nI m) 5007 o)) i m) i = nsum (clN nb w sp T i m) i := nsum_cg fun o ho => clN_cg (eT2 o ho)
        have ct : tot nb w sp (fun o => cn (u2 v' 5007 i (nI m) 5007 o)) i = tot nb w sp T i := tot_cg eT2
        have cm : cn (u2 v' 5007 i (nI m) 5007 i) = m := by rw [u2_at, eu]
        show tot nb w sp (fun o => cn (u2 v' 5007 i (nI m) 5007 o)) i + nsum (clN nb w sp (fun o => cn (u2 v' 5007 i (nI m) 5007 o)) i (cn (u2 v' 5007 i (nI m) 5007 i))) i = _
        rw [cm, cz, ct, eFm]
      rw [u2_at, c1, q3 1005 (by omega), h2, ← eT]
      exact nI_plus _ _
    · rw [u2_ne hq1, g2 q (by omega), q3 q (by omega)]
      exact h4 q hq1 hq2
end
end
section
/-! ===== packages and winners, alike on both sides: one more package ===== -/
def Dm (τ : XS9) (j k r : Nat) : Nat := dgt (τ (5030 + j) (2 * k)) r
def Am (τ : XS9) (j k : Nat) : Nat := cn (τ (5030 + j) (2 * k + 1))
def pkB (τ : XS9) (j : Nat) : Nat := if j < mB τ then mpk τ j else 0
def Xm (τ : XS9) (c : Nat → Nat) : Prop := cOk (pkB τ) c ∧ cFe (Dm τ) (mgr τ) (msp τ) (cn (τ 5000 2)) (mR τ) c
/-- packages alike -/
def RK (τ σ : XS9) : Prop := bd 5 (τ 5000 2) ∧ (∀ j, j < 6 → σ 1020 j = nI (pkB τ j)) ∧ ∀ j, j < mB τ → ∀ k, k < mpk τ j → σ (1022 + j) k = τ (5030 + j) (2 * k) ∧ σ (1031 + j) k = τ (5030 + j) (2 * k + 1) ∧ cn (τ (5030 + j) (2 * k)) < 6 ^ mR τ
/-- the search's rows at rest -/
def SC0 (s : XS9) : Prop := (∀ j, j < 6 → s 1043 j = -1) ∧ (∀ r, r < 5 → s 1044 r = 0) ∧ ∀ g, g < 4 → ∀ r, r < 5 → s (1121 + g) r = 0
def MKT (τ σ : XS9) : Prop := SC0 σ ∧ BOc (Am τ) (Xm τ) σ ∧ ∀ j, j < 6 → (bt (σ 1003 5) j = false ↔ τ (5020 + j) 4 = 0)
def MKW (τ σ : XS9) : Prop := WN (Am τ) (ouX (Xm τ) (σ 1003 5)) (σ 1040) ∧ WW (Am τ) (ouX (Xm τ) (σ 1003 5)) (σ 1041)
/-- what a choice of the reference rests on -/
def TKF (t : XS9) : Prop := (mR t ≤ 5 ∧ mB t ≤ 6) ∧ (∀ r, r < mR t → t (5010 + r) 0 = nI (msp t r) ∧ msp t r ≤ 5) ∧ bd 5 (t 5000 2) ∧ ∀ j, j < mB t → mpk t j ≤ 6 ∧ mgr t j < 4 ∧ ∀ k, k < mpk t j → bd 7775 (t (5030 + j) (2 * k)) ∧ cn (t (5030 + j) (2 * k)) < 6 ^ mR t ∧ bd 300000 (t (5030 + j) (2 * k + 1))
/-- the places that it speaks of -/
def kt (q i : Nat) : Prop := ((q = 5001 ∨ q = 5002) ∧ i = 900) ∨ (q = 5000 ∧ i = 2) ∨ (5010 ≤ q ∧ q ≤ 5014 ∧ i = 0) ∨ (5020 ≤ q ∧ q ≤ 5025 ∧ i = 3) ∨ (5030 ≤ q ∧ q ≤ 5035)
/-- what was told, alike -/
def TA (τ σ : XS9) : Prop := σ 1001 10 = τ 5000 2 ∧ ∀ r, r < 5 → σ 1010 r = τ (5010 + r) 0
section
variable {τ τ2 σ σ2 s t : XS9} {A A2 : Nat → Nat → Nat} {D D2 : Nat → Nat → Nat → Nat} {gr q pk : Nat → Nat} {cap R B i : Nat} {X Y : (Nat → Nat) → Prop} {c d : Nat → Nat}
theorem RK.mx (h : RK τ σ) : τ 5000 2 = nI (cn (τ 5000 2)) ∧ cn (τ 5000 2) ≤ 5 := h.1
theorem RK.n (h : RK τ σ) {j : Nat} (hj : j < 6) : σ 1020 j = nI (pkB τ j) := h.2.1 j hj
theorem RK.cd (h : RK τ σ) {j k : Nat} (hj : j < mB τ) (hk : k < mpk τ j) : σ (1022 + j) k = τ (5030 + j) (2 * k) := (h.2.2 j hj k hk).1
theorem RK.a (h : RK τ σ) {j k : Nat} (hj : j < mB τ) (hk : k < mpk τ j) : σ (1031 + j) k = τ (5030 + j) (2 * k + 1) := (h.2.2 j hj k hk).2.1
theorem RK.lt (h : RK τ σ) {j k : Nat} (hj : j < mB τ) (hk : k < mpk τ j) : cn (τ (5030 + j) (2 * k)) < 6 ^ mR τ := (h.2.2 j hj k hk).2.2
theorem pkB_lt {j k : Nat} (h : k < pkB τ j) : j < mB τ ∧ k < mpk τ j := by
  unfold pkB at h
  split at h
  · rename_i l
    exact ⟨l, h⟩
  · omega
theorem pkB_z {j : Nat} (h : mB τ ≤ j) : pkB τ j = 0 := if_neg (by omega)
theorem Dm_bd (r : JR τ) {j k : Nat} (hj : j < mB τ) (hk : k < mpk τ j) : bd 7775 (τ (5030 + j) (2 * k)) := by
  obtain ⟨a, b⟩ := r.hcd j k hj hk
  exact ⟨a, Nat.le_of_lt_succ b⟩
theorem TA.mk (a : RA τ σ) : TA τ σ := ⟨a.1.2.1, fun r hr => (a.2.1 r hr).1⟩
theorem TKF.of (h : TKF τ) (e : ∀ q i, kt q i → t q i = τ q i) : TKF t := by
  obtain ⟨⟨h1, h2⟩, h3, h4, h5⟩ := h
  have e1 : mR t = mR τ := congrArg cn (e _ _ (by unfold kt; omega))
  have e2 : mB t = mB τ := congrArg cn (e _ _ (by unfold kt; omega))
  refine ⟨⟨by rw [e1]; exact h1, by rw [e2]; exact h2⟩, fun r hr => ?_, by rw [e _ _ (by unfold kt; omega)]; exact h4, fun j hj => ?_⟩
  · rw [e1] at hr
    show t (5010 + r) 0 = nI (cn (t (5010 + r) 0)) ∧ cn (t (5010 + r) 0) ≤ 5
    rw [e _ _ (by unfold kt; omega)]
    exact h3 r hr
  · rw [e2] at hj
    have ep : mpk t j = mpk τ j := by
      show cn (t (5030 + j) 900) / 2 = _
      rw [e _ _ (by unfold kt; omega)]
    have eg : mgr t j = mgr τ j := by
      show cn (t (5020 + j) 3) = _
      rw [e _ _ (by unfold kt; omega)]
    rw [ep, eg, e1]
    refine ⟨(h5 j hj).1, (h5 j hj).2.1, fun k hk => ?_⟩
    rw [e _ _ (by unfold kt; omega), e _ _ (by unfold kt; omega)]
    exact (h5 j hj).2.2 k hk
theorem TKF.mk (r : JR τ) (k : RK τ σ) (p : JP τ) : TKF τ := ⟨⟨r.hR.2, r.hB.2⟩, r.hsp, k.1, fun j hj => ⟨(r.hpk j hj).2, (r.hgr j hj).2, fun k9 hk => ⟨Dm_bd r hj hk, k.lt hj hk, AMs.ofP p j k9 (by have := r.hB.2; omega) (by have := (r.hpk j hj).2; omega)⟩⟩⟩
theorem TKF.p6 (F : TKF t) : ∀ j, j < 6 → pkB t j ≤ 6 := fun j hj => by
  unfold pkB
  split
  · rename_i l
    exact (F.2.2.2 j l).1
  · omega
theorem TKF.pcm (F : TKF t) {j k : Nat} (hj : j < mB t) (hk : k < mpk t j) : t (5030 + j) (2 * k + 1) = nI (Am t j k) := ((F.2.2.2 j hj).2.2 k hk).2.2.1
theorem PCx.mk (a : TA τ σ) (F : TKF τ) (h : RK τ σ) : PCx (Dm τ) (Am τ) (msp τ) (cn (τ 5000 2)) (mR τ) (pkB τ) σ := by
  have hR5 := F.1.1
  refine ⟨fun q hq => ?_, ⟨a.1.trans h.mx.1, h.mx.2⟩, fun j hj k hk => ?_⟩
  · rw [a.2 q (by omega)]
    exact F.2.1 q hq
  · obtain ⟨h1, h2⟩ := pkB_lt hk
    obtain ⟨d1, d2, d3⟩ := (F.2.2.2 j h1).2.2 k h2
    rw [h.cd h1 h2, h.a h1 h2]
    exact ⟨d1, fun _ _ => rfl, d3.1, d3.2⟩
/-! choices that are alike -/
theorem cAm_cg (h : ∀ j, j < 6 → ∀ k, k < pk j → A j k = A2 j k) (hc : cOk pk c) : cAm A c = cAm A2 c := nsum_cg fun j hj => by
  have := hc j hj
  unfold cAd
  split
  · rfl
  · exact h j hj _ (by omega)
theorem cTk_cg2 {r : Nat} (h : ∀ j, j < 6 → ∀ k, k < pk j → D j k r = D2 j k r) (hc : cOk pk c) : cTk D r c = cTk D2 r c := nsum_cg fun j hj => by
  have := hc j hj
  unfold cDg
  split
  · rfl
  · exact h j hj _ (by omega)
theorem cTg_cg2 {r g : Nat} (h : ∀ j, j < 6 → ∀ k, k < pk j → D j k r = D2 j k r) (hc : cOk pk c) : cTg D gr g r c = cTg D2 gr g r c := nsum_cg fun j hj => by
  have := hc j hj
  unfold cGd cDg
  split
  · split
    · rfl
    · exact h j hj _ (by omega)
  · rfl
theorem cFe_cg (h : ∀ r, r < R → ∀ j, j < 6 → ∀ k, k < pk j → D j k r = D2 j k r) (hc : cOk pk c) : cFe D gr q cap R c ↔ cFe D2 gr q cap R c := by
  refine forall_congr' fun r => forall_congr' fun hr => ?_
  rw [cTk_cg2 (h r hr) hc]
  refine and_congr Iff.rfl (forall_congr' fun g => forall_congr' fun _ => ?_)
  rw [cTg_cg2 (h r hr) hc]
theorem btr_cg (h1 : cAm A c = cAm A2 c) (h2 : cAm A d = cAm A2 d) : btr A c d ↔ btr A2 c d := by
  unfold btr
  rw [h1, h2]
theorem BOc.cg (h : BOc A X s) (e : ∀ d, X d → cAm A d = cAm A2 d) : BOc A2 X s := fun S hS => by
  rcases h S hS with z | ⟨c, a, b, f, g, k⟩
  · exact .inl z
  · exact .inr ⟨c, a, b, by rw [f, e c a], g, fun d hd hs => (btr_cg (e c a) (e d hd)).mp (k d hd hs)⟩
theorem WN.cg {row : Nat → Int32} (h : WN A X row) (e : ∀ d, X d → cAm A d = cAm A2 d) : WN A2 X row := by
  obtain ⟨c, a, b, f⟩ := h
  exact ⟨c, a, fun d hd => (btr_cg (e c a) (e d hd)).mp (b d hd), f⟩
theorem WW.cg {row : Nat → Int32} (h : WW A X row) (e : ∀ d, X d → cAm A d = cAm A2 d) : WW A2 X row := by
  obtain ⟨b, hb, hr⟩ := h
  refine ⟨b, fun S hS => ⟨fun d hd hs => by rw [← e d hd]; exact (hb S hS).1 d hd hs, (hb S hS).2.elim .inl fun ⟨c, x1, x2, x3⟩ => .inr ⟨c, x1, x2, by rw [← e c x1]; exact x3⟩⟩, hr⟩
theorem cOk_0 : cOk pk (fun _ => 0) := fun _ _ => Nat.zero_le _
theorem cTk_0 {r : Nat} : cTk D r (fun _ => 0) = 0 := nsum_z fun _ _ => if_pos rfl
theorem cTg_0 {r g : Nat} : cTg D gr g r (fun _ => 0) = 0 := nsum_z fun j _ => by
  unfold cGd cDg
  rw [if_pos rfl]
  split <;> rfl
theorem cSp_0 : cSp (fun _ => 0) = 0 := nsum_z fun _ _ => if_pos rfl
theorem cAm_0 : cAm A (fun _ => 0) = 0 := nsum_z fun _ _ => if_pos rfl
theorem cFe_0 : cFe D gr q cap R (fun _ => 0) := fun r _ => ⟨by rw [cTk_0]; exact Nat.zero_le _, fun g _ => by rw [cTg_0]; exact Nat.zero_le _⟩
theorem SC0.scc (h : SC0 s) (hR5 : R ≤ 5) : SCc D gr R (fun _ => 0) s := ⟨fun j hj => h.1 j hj, fun r hr => by rw [h.2.1 r (by omega), cTk_0]; rfl, fun g hg r hr => by rw [h.2.2 g hg r (by omega), cTg_0]; rfl⟩
/-- at rest again: beyond the regions nothing was touched -/
theorem SC0.back (h : SCc D gr R (fun _ => 0) s) (h2 : ∀ r, R ≤ r → r < 5 → s 1044 r = 0 ∧ ∀ g, g < 4 → s (1121 + g) r = 0) : SC0 s := by
  refine ⟨fun j hj => h.1 j hj, fun r hr => ?_, fun g hg r hr => ?_⟩
  · rcases Nat.lt_or_ge r R with l | l
    · rw [h.2.1 r l, cTk_0]
      rfl
    · exact (h2 r l hr).1
  · rcases Nat.lt_or_ge r R with l | l
    · rw [h.2.2 g hg r l, cTg_0]
      rfl
    · exact (h2 r l hr).2 g hg
end
/-! beyond the regions the search touches nothing -/
def hiR (R : Nat) (s s2 : XS9) : Prop := ∀ q, (q = 1044 ∨ (1121 ≤ q ∧ q ≤ 1124)) → ∀ r, R ≤ r → s2 q r = s q r
section
variable {s s2 s3 : XS9} {R B i k : Nat} {gr cnt : Nat → Nat} {x y : Int32}
theorem hiR.rfl' : hiR R s s := fun _ _ _ _ => rfl
theorem hiR.trans (h : hiR R s s2) (h2 : hiR R s2 s3) : hiR R s s3 := fun q hq r hr => (h2 q hq r hr).trans (h q hq r hr)
theorem hiR.rows (e : ∀ q, (q = 1044 ∨ (1121 ≤ q ∧ q ≤ 1124)) → s2 q = s q) : hiR R s s2 := fun q hq r _ => by rw [e q hq]
theorem hiR.moved : hiR R s (g_moveTaken s i x y R gr) := by
  unfold g_moveTaken x_moveTaken_19
  refine xit_inv (fun p : XS9 × Int32 => hiR R s p.1) (N := R) (fun k p hk hP => ?_) R 0 (s, x) (Nat.zero_add _) hiR.rfl'
  intro q hq r hr
  show u2 (u2 p.1 1044 k _) (1121 + gr i) k _ q r = s q r
  rw [u2_sl (by omega), u2_sl (by omega)]
  exact hP q hq r hr
theorem hiR.take : hiR R s (g_take s i k R gr) := (hiR.rows (s := s) (s2 := u2 s 1043 i (nI k)) fun q hq => u2_ne (by omega)).trans hiR.moved
theorem hiR.back : hiR R s (g_giveBack s i k R gr) := (hiR.rows (s := s) (s2 := u2 s 1043 i (-1)) fun q hq => u2_ne (by omega)).trans hiR.moved
theorem hiR.keep {S : Nat} (hS : S < 64) : hiR R s (g_keepIfBetter s S x) := hiR.rows fun q hq => fr_keepIfBetter (by omega)
theorem hiR.pick {fx : Nat} : ∀ (f i : Nat), i + f = 6 → ∀ (s : XS9) (S : Nat) (x : Int32), S < 64 → hiR R s (g_pickFrom fx R B gr cnt f i s S x)
  | 0, i, e, s, S, x, hS => hiR.keep hS
  | f + 1, i, e, s, S, x, hS => by
    show hiR R s (g_pickStep s (fun σ S x => g_pickFrom fx R B gr cnt f (i + 1) σ S x) i fx S x R B gr cnt)
    unfold g_pickStep
    split
    · exact hiR.keep hS
    · split
      · exact hiR.pick f (i + 1) (by omega) s S x hS
      · unfold x_pickStep_45
        refine xit_inv (fun s2 : XS9 => hiR R s s2) (N := cnt i) (fun k s2 hk hP => ?_) (cnt i) 0 _ (Nat.zero_add _) (hiR.pick f (i + 1) (by omega) s S x hS)
        (try dsimp only)
        split
        · exact hP
        · exact ((hP.trans hiR.take).trans (hiR.pick f (i + 1) (by omega) _ (S ||| 2 ^ i) _ (or_bit_lt hS (by omega)))).trans hiR.back
end
end
section
/-! ===== one more package is added on both sides ===== -/
section
variable {τ σ : XS9} {i n j z : Nat} {x y : Int32} {gr gr2 cnt q : Nat → Nat} {D : Nat → Nat → Nat → Nat} {cap R : Nat} {c d : Nat → Nat}
theorem madd_row {q : Nat} (h : q ≠ 5030 + i) : g_Madd τ i n x y q = τ q := by
  unfold g_Madd g_addI
  rw [u2_ne h, u2_ne h, u2_ne h, u2_ne h]
theorem madd_c (hn : n < 400) : g_Madd τ i n x y (5030 + i) (2 * n) = x := by
  unfold g_Madd g_addI
  rw [u2_oi (by omega), u2_oi (by omega), u2_oi (by omega), u2_at]
theorem madd_a (hn : n < 400) : g_Madd τ i n x y (5030 + i) (2 * n + 1) = y := by
  unfold g_Madd g_addI
  rw [u2_oi (by omega), u2_at]
theorem madd_n : g_Madd τ i n x y (5030 + i) 900 = nI (2 * (n + 1)) := by
  unfold g_Madd g_addI
  rw [u2_at]
  congr 1
theorem madd_o (h : z ≠ 2 * n ∧ z ≠ 2 * n + 1 ∧ z ≠ 900) : g_Madd τ i n x y (5030 + i) z = τ (5030 + i) z := by
  unfold g_Madd g_addI
  rw [u2_oi h.2.2, u2_oi h.2.1, u2_oi h.2.2, u2_oi h.1]
theorem mpk_i (hn : n < 400) : mpk (g_Madd τ i n x y) i = n + 1 := by
  show cn (g_Madd τ i n x y (5030 + i) 900) / 2 = n + 1
  rw [madd_n, cn_nI (by omega)]
  omega
theorem mpk_j (h : j ≠ i) : mpk (g_Madd τ i n x y) j = mpk τ j := by
  show cn (g_Madd τ i n x y (5030 + j) 900) / 2 = _
  rw [madd_row (by omega)]
theorem cFe_gr (h : ∀ j, j < 6 → gr j = gr2 j) : cFe D gr q cap R c ↔ cFe D gr2 q cap R c := by
  refine forall_congr' fun r => forall_congr' fun hr => and_congr Iff.rfl (forall_congr' fun g => forall_congr' fun _ => ?_)
  rw [show cTg D gr g r c = cTg D gr2 g r c from nsum_cg fun j hj => by
    unfold cGd
    rw [h j hj]]
theorem pkB_i (hi : i < mB τ) (hn : n < 400) : pkB (g_Madd τ i n x y) i = n + 1 := by
  have e : mB (g_Madd τ i n x y) = mB τ := by
    show cn (g_Madd τ i n x y 5002 900) = _
    rw [madd_row (by omega)]
  unfold pkB
  rw [e, if_pos hi, mpk_i hn]
theorem pkB_j (h : j ≠ i) : pkB (g_Madd τ i n x y) j = pkB τ j := by
  have e : mB (g_Madd τ i n x y) = mB τ := by
    show cn (g_Madd τ i n x y 5002 900) = _
    rw [madd_row (by omega)]
  unfold pkB
  rw [e, mpk_j h]
theorem TKF.madd (F : TKF τ) (hi : i < mB τ) (hn : mpk τ i < 6) (hx : bd 7775 x) (hx2 : cn x < 6 ^ mR τ) (hy : bd 300000 y) : TKF (g_Madd τ i (mpk τ i) x y) := by
  have hB6 := F.1.2
  have eR : mR (g_Madd τ i (mpk τ i) x y) = mR τ := by
    show cn (g_Madd τ i (mpk τ i) x y 5001 900) = _
    rw [madd_row (by omega)]
  have eB : mB (g_Madd τ i (mpk τ i) x y) = mB τ := by
    show cn (g_Madd τ i (mpk τ i) x y 5002 900) = _
    rw [madd_row (by omega)]
  refine ⟨⟨by rw [eR]; exact F.1.1, by rw [eB]; exact hB6⟩, fun r hr => ?_, by rw [madd_row (by omega)]; exact F.2.2.1, fun j hj => ?_⟩
  · rw [eR] at hr
    have := F.1.1
    show g_Madd τ i (mpk τ i) x y (5010 + r) 0 = nI (cn (g_Madd τ i (mpk τ i) x y (5010 + r) 0)) ∧ cn (g_Madd τ i (mpk τ i) x y (5010 + r) 0) ≤ 5
    rw [madd_row (by omega)]
    exact F.2.1 r hr
  · rw [eB] at hj
    have eg : mgr (g_Madd τ i (mpk τ i) x y) j = mgr τ j := by
      show cn (g_Madd τ i (mpk τ i) x y (5020 + j) 3) = _
      rw [madd_row (by omega)]
    rw [eR, eg]
    by_cases e : j = i
    · subst e
      rw [mpk_i (by omega)]
      refine ⟨by omega, (F.2.2.2 j hj).2.1, fun k hk => ?_⟩
      by_cases e2 : k = mpk τ j
      · rw [e2, madd_c (by omega), madd_a (by omega)]
        exact ⟨hx, hx2, hy⟩
      · rw [madd_o (by omega), madd_o (by omega)]
        exact (F.2.2.2 j hj).2.2 k (by omega)
    · rw [mpk_j e]
      refine ⟨(F.2.2.2 j hj).1, (F.2.2.2 j hj).2.1, fun k hk => ?_⟩
      rw [madd_row (by omega)]
      exact (F.2.2.2 j hj).2.2 k hk
theorem add_step (a : TA τ σ) (F : TKF τ) (k : RK τ σ) (m : MKT τ σ) (hi : i < mB τ) (hn : mpk τ i < 6) (hx : bd 7775 x) (hx2 : cn x < 6 ^ mR τ) (hy : bd 300000 y) (hg : ∀ j, j < 6 → gr j = mgr τ j ∧ gr j < 4) (hc : ∀ j, j < 6 → cnt j = pkB τ j) : RK (g_Madd τ i (mpk τ i) x y) (g_addM σ i x y (mR τ) (mB τ) gr cnt) ∧ MKT (g_Madd τ i (mpk τ i) x y) (g_addM σ i x y (mR τ) (mB τ) gr cnt) ∧ MKW (g_Madd τ i (mpk τ i) x y) (g_addM σ i x y (mR τ) (mB τ) gr cnt) := by
  have hR5 := F.1.1
  have hB6 := F.1.2
  have p6 := F.p6
  have hi6 : i < 6 := by omega
  have ec : cnt i = mpk τ i := by
    rw [hc i hi6]
    exact if_pos hi
  have P0 := PCx.mk a F k
  generalize en : mpk τ i = n at hn ec ⊢
  have eR : mR (g_Madd τ i n x y) = mR τ := by
    show cn (g_Madd τ i n x y 5001 900) = _
    rw [madd_row (by omega)]
  have eB : mB (g_Madd τ i n x y) = mB τ := by
    show cn (g_Madd τ i n x y 5002 900) = _
    rw [madd_row (by omega)]
  have e5 : g_Madd τ i n x y 5000 = τ 5000 := madd_row (by omega)
  have egr : ∀ j, j < 6 → mgr (g_Madd τ i n x y) j = gr j := fun j hj => by
    show cn (g_Madd τ i n x y (5020 + j) 3) = _
    rw [madd_row (by omega)]
    exact (hg j hj).1.symm
  have esp : msp (g_Madd τ i n x y) = msp τ ∨ True := .inr trivial
  have esr : ∀ r, r < 5 → msp (g_Madd τ i n x y) r = msp τ r := fun r hr => by
    show cn (g_Madd τ i n x y (5010 + r) 0) = _
    rw [madd_row (by omega)]
  have pko : ∀ j, j < 6 → pkB (g_Madd τ i n x y) j = cnt1 cnt i j := fun j hj => by
    unfold cnt1
    by_cases e : j = i
    · rw [e, if_pos rfl, pkB_i hi (by omega), ec]
    · rw [if_neg e, pkB_j e, hc j hj]
  have oldc : ∀ j, j < 6 → ∀ k9, k9 < pkB τ j → g_Madd τ i n x y (5030 + j) (2 * k9) = τ (5030 + j) (2 * k9) ∧ g_Madd τ i n x y (5030 + j) (2 * k9 + 1) = τ (5030 + j) (2 * k9 + 1) := fun j hj k9 hk => by
    by_cases e : j = i
    · subst e
      have := (pkB_lt hk).2
      rw [madd_o (by omega), madd_o (by omega)]
      exact ⟨rfl, rfl⟩
    · rw [madd_row (by omega)]
      exact ⟨rfl, rfl⟩
  have oD : ∀ r, r < mR τ → ∀ j, j < 6 → ∀ k9, k9 < pkB τ j → Dm τ j k9 r = Dm (g_Madd τ i n x y) j k9 r := fun r _ j hj k9 hk => by
    unfold Dm
    rw [(oldc j hj k9 hk).1]
  have oA : ∀ j, j < 6 → ∀ k9, k9 < pkB τ j → Am τ j k9 = Am (g_Madd τ i n x y) j k9 := fun j hj k9 hk => by
    unfold Am
    rw [(oldc j hj k9 hk).2]
  obtain ⟨s1, es1⟩ : ∃ s1, s1 = u2 (u2 (u2 σ (1022 + i) n x) (1031 + i) n y) 1020 i (nI (n + 1)) := ⟨_, rfl⟩
  have r1 : ∀ q, q ≠ 1022 + i → q ≠ 1031 + i → q ≠ 1020 → s1 q = σ q := fun q h1 h2 h3 => by rw [es1, u2_ne h3, u2_ne h2, u2_ne h1]
  have PC : PCx (Dm (g_Madd τ i n x y)) (Am (g_Madd τ i n x y)) (msp τ) (cn (τ 5000 2)) (mR τ) (cnt1 cnt i) s1 := by
    refine ⟨fun q hq => by rw [r1 1010 (by omega) (by omega) (by omega)]; exact P0.1 q hq, by rw [r1 1001 (by omega) (by omega) (by omega)]; exact P0.2.1, fun j hj k9 hk => ?_⟩
    unfold cnt1 at hk
    by_cases e : j = i
    · subst e
      rw [if_pos rfl, ec] at hk
      by_cases e2 : k9 = n
      · subst e2
        rw [es1, u2_ne (show 1022 + j ≠ 1020 by omega), u2_ne (show 1022 + j ≠ 1031 + j by omega), u2_at, u2_ne (show 1031 + j ≠ 1020 by omega), u2_at]
        unfold Dm Am
        rw [madd_c (by omega), madd_a (by omega)]
        exact ⟨hx, fun _ _ => rfl, hy⟩
      · have hk2 : k9 < pkB τ j := by rw [← hc j hj, ec]; omega
        obtain ⟨d1, d2, d3, d4⟩ := P0.2.2 j hj k9 hk2
        rw [es1, u2_ne (show 1022 + j ≠ 1020 by omega), u2_ne (show 1022 + j ≠ 1031 + j by omega), u2_oi e2, u2_ne (show 1031 + j ≠ 1020 by omega), u2_oi e2, u2_ne (show 1031 + j ≠ 1022 + j by omega)]
        exact ⟨d1, fun r hr => (oD r hr j hj k9 hk2).symm.trans (d2 r hr), by rw [← oA j hj k9 hk2]; exact d3, by rw [← oA j hj k9 hk2]; exact d4⟩
    · rw [if_neg e, hc j hj] at hk
      obtain ⟨d1, d2, d3, d4⟩ := P0.2.2 j hj k9 hk
      rw [r1 (1022 + j) (by omega) (by omega) (by omega), r1 (1031 + j) (by omega) (by omega) (by omega)]
      exact ⟨d1, fun r hr => (oD r hr j hj k9 hk).symm.trans (d2 r hr), by rw [← oA j hj k9 hk]; exact d3, by rw [← oA j hj k9 hk]; exact d4⟩
  have SC1 : SCc (Dm (g_Madd τ i n x y)) gr (mR τ) (fun _ => 0) s1 := (SC0.scc (D := Dm (g_Madd τ i n x y)) (gr := gr) m.1 hR5).of fun q hq => r1 q (by omega) (by omega) (by omega)
  have Xo : ∀ d, Xm τ d ↔ (cOk (pkB τ) d ∧ cFe (Dm (g_Madd τ i n x y)) gr (msp τ) (cn (τ 5000 2)) (mR τ) d) := fun d => and_congr_right fun hd => (cFe_gr fun j hj => (hg j hj).1.symm).trans (cFe_cg oD hd)
  have BO1 : BOc (Am (g_Madd τ i n x y)) (fun d => cOk (pkB τ) d ∧ cFe (Dm (g_Madd τ i n x y)) gr (msp τ) (cn (τ 5000 2)) (mR τ) d) s1 := (((m.2.1.cg fun d hd => cAm_cg oA hd.1).iff Xo).of fun q hq => r1 q (by omega) (by omega) (by omega))
  have XN : ∀ d, Xm (g_Madd τ i n x y) d ↔ (cOk (cnt1 cnt i) d ∧ cFe (Dm (g_Madd τ i n x y)) gr (msp τ) (cn (τ 5000 2)) (mR τ) d) := fun d => by
    unfold Xm
    rw [eR, e5]
    refine and_congr (forall_congr' fun j => forall_congr' fun hj => by rw [pko j hj]) ((cFe_gr egr).trans ?_)
    refine forall_congr' fun r => forall_congr' fun hr => ?_
    rw [esr r (by omega)]
  have c1i : cnt1 cnt i i = n + 1 := by
    unfold cnt1
    rw [if_pos rfl, ec]
  have c1j : ∀ j, j ≠ i → cnt1 cnt i j = cnt j := fun j hj => if_neg hj
  have old1 : ∀ d, cOk (pkB τ) d → cOk (cnt1 cnt i) d := fun d hd j hj => by
    have := hd j hj
    by_cases e : j = i
    · subst e
      rw [c1i]
      rw [← hc j hj, ec] at this
      omega
    · rw [c1j j e, hc j hj]
      exact this
  have c1z : ∀ j, mB τ ≤ j → j < 6 → cnt1 cnt i j = 0 := fun j h1 h2 => by
    rw [c1j j (by omega), hc j h2]
    exact pkB_z h1
  have c16 : ∀ j, j < 6 → cnt1 cnt i j ≤ 6 := fun j hj => by
    by_cases e : j = i
    · rw [e, c1i]
      omega
    · rw [c1j j e, hc j hj]
      exact p6 j hj
  have gi := (hg i hi6).2
  -- the state ahead of the winners
  have core : ∃ s3, g_addM σ i x y (mR τ) (mB τ) gr cnt = g_findWinners s3 ∧ SC0 s3 ∧ BOc (Am (g_Madd τ i n x y)) (Xm (g_Madd τ i n x y)) s3 ∧ ∀ q, (q < 1040 ∨ 1124 < q) → s3 q = s1 q := by
    obtain ⟨d1, d2, d3, d4⟩ := PC.2.2 i hi6 n (by rw [c1i]; omega)
    have f0 : cFe (Dm (g_Madd τ i n x y)) gr (msp τ) (cn (τ 5000 2)) (mR τ) (fun _ => 0) := cFe_0
    have fi := fits_eq (σ := s1) (i := i) (x := s1 (1022 + i) n) (R := mR τ) (q := msp τ) (t := fun r => cTk (Dm (g_Madd τ i n x y)) r (fun _ => 0)) (u := fun r => cTg (Dm (g_Madd τ i n x y)) gr (gr i) r (fun _ => 0)) (cap := cn (τ 5000 2)) (gr := gr) d1 (fun r hr => ⟨(PC.1 r hr).1, (PC.1 r hr).2, SC1.2.1 r hr, (f0 r hr).1⟩) (fun hne r hr => ⟨SC1.2.2 (gr i) gi r hr, (f0 r hr).2 (gr i) (by omega)⟩) PC.2.1.1 PC.2.1.2 gi
    have ff : cFe (Dm (g_Madd τ i n x y)) gr (msp τ) (cn (τ 5000 2)) (mR τ) (cUp (fun _ => 0) i (n + 1)) ↔ ∀ r, r < mR τ → fOK (s1 (1022 + i) n) (msp τ) (fun r => cTk (Dm (g_Madd τ i n x y)) r (fun _ => 0)) (fun r => cTg (Dm (g_Madd τ i n x y)) gr (gr i) r (fun _ => 0)) (cn (τ 5000 2)) (gr i) r := by
      rw [cFe_up hi6 rfl f0]
      refine forall_congr' fun r => forall_congr' fun hr => ?_
      unfold fOK
      rw [d2 r hr]
    have x1 : s1 (1022 + i) n = x := by rw [es1, u2_ne (by omega), u2_ne (by omega), u2_at]
    have y1 : y = nI (Am (g_Madd τ i n x y) i n) := by
      unfold Am
      rw [madd_a (by omega)]
      exact hy.1
    unfold g_addM
    rw [ec, if_pos (show nI n < (6 : Int32) from (nlt (a := n) (b := 6) (by omega) (by omega)).mpr hn), ← es1]
    rw [x1] at fi ff
    by_cases c3 : cFe (Dm (g_Madd τ i n x y)) gr (msp τ) (cn (τ 5000 2)) (mR τ) (cUp (fun _ => 0) i (n + 1))
    · rw [if_neg (fun z => fi.mp z (ff.mp c3))]
      have T := SC1.take (k := n) hi6 rfl d1 d2 gi
      have tr : ∀ q, q ≠ 1043 → q ≠ 1044 → q ≠ 1121 + gr i → g_take s1 i n (mR τ) gr q = s1 q := fun q h1 h2 h3 => fr_take ⟨h1, h2, h3⟩
      have PT : PCx (Dm (g_Madd τ i n x y)) (Am (g_Madd τ i n x y)) (msp τ) (cn (τ 5000 2)) (mR τ) (cnt1 cnt i) (g_take s1 i n (mR τ) gr) := PC.of fun q hq => tr q (by omega) (by omega) (by omega)
      have BT := BO1.of (s2 := g_take s1 i n (mR τ) gr) fun q hq => tr q (by omega) (by omega) (by omega)
      have hS : 2 ^ i = cSp (cUp (fun _ => 0) i (n + 1)) := by
        rw [cSp_up hi6 rfl, cSp_0, Nat.zero_add]
      have hx9 : y = nI (cAm (Am (g_Madd τ i n x y)) (cUp (fun _ => 0) i (n + 1))) := by
        rw [cAm_up hi6 rfl, cAm_0, Nat.zero_add]
        exact y1
      obtain ⟨u1, u3⟩ := pf_ok (D := Dm (g_Madd τ i n x y)) (A := Am (g_Madd τ i n x y)) (gr := gr) (q := msp τ) (pk := cnt1 cnt i) (cap := cn (τ 5000 2)) (R := mR τ) (B := mB τ) (fx := i) (fun j hj => (hg j hj).2) c16 c1z hi hB6 6 0 rfl (g_take s1 i n (mR τ) gr) (2 ^ i) y (cUp (fun _ => 0) i (n + 1)) _ PT T BT (fun d hd => old1 d hd.1) (fun j hj => by
        by_cases e : j = i
        · rw [e, cUp_at, c1i]
          exact Nat.le_refl _
        · rw [cUp_ne e]
          exact Nat.zero_le _) c3 (fun j _ hj hne => cUp_ne hne) (by rw [cUp_at]; omega) hS hx9
      have pr : ∀ q, (q < 1040 ∨ q = 1042 + 200 ∨ 1124 < q) → g_pickFrom i (mR τ) (mB τ) gr (cnt1 cnt i) 6 0 (g_take s1 i n (mR τ) gr) (2 ^ i) y q = g_take s1 i n (mR τ) gr q := fun q hq => fr_pickFrom ⟨fun j hj => (hg j hj).2, one_bit_lt hi6, by omega, by omega, by omega, by omega, by omega⟩
      have hh := hiR.pick (R := mR τ) (B := mB τ) (gr := gr) (cnt := cnt1 cnt i) (fx := i) 6 0 rfl (g_take s1 i n (mR τ) gr) (2 ^ i) y (one_bit_lt hi6)
      have P3 : PCx (Dm (g_Madd τ i n x y)) (Am (g_Madd τ i n x y)) (msp τ) (cn (τ 5000 2)) (mR τ) (cnt1 cnt i) (g_pickFrom i (mR τ) (mB τ) gr (cnt1 cnt i) 6 0 (g_take s1 i n (mR τ) gr) (2 ^ i) y) := PT.of fun q hq => pr q (by omega)
      generalize g_pickFrom i (mR τ) (mB τ) gr (cnt1 cnt i) 6 0 (g_take s1 i n (mR τ) gr) (2 ^ i) y = s2 at u1 u3 pr hh P3 ⊢
      obtain ⟨v1, v2, v3, v4⟩ := P3.2.2 i hi6 n (by rw [c1i]; omega)
      have br : ∀ q, q ≠ 1043 → q ≠ 1044 → q ≠ 1121 + gr i → g_giveBack s2 i n (mR τ) gr q = s2 q := fun q h1 h2 h3 => fr_giveBack ⟨h1, h2, h3⟩
      refine ⟨_, rfl, SC0.back (u1.back hi6 rfl v1 v2 gi) (fun r h1 h2 => ?_), (u3.of fun q hq => br q (by omega) (by omega) (by omega)).iff fun d => ?_, fun q hq => ?_⟩
      · have h9 : hiR (mR τ) s1 (g_giveBack s2 i n (mR τ) gr) := (hiR.take.trans hh).trans hiR.back
        refine ⟨by rw [h9 1044 (by omega) r h1, r1 1044 (by omega) (by omega) (by omega)]; exact m.1.2.1 r h2, fun g hg4 => by rw [h9 (1121 + g) (by omega) r h1, r1 (1121 + g) (by omega) (by omega) (by omega)]; exact m.1.2.2 g hg4 r h2⟩
      · rw [XN d]
        refine ⟨fun h => ?_, fun ⟨h1, h2⟩ => ?_⟩
        · rcases h with h | ⟨h1, h2, h3, h4⟩
          · exact ⟨old1 d h.1, h.2⟩
          · exact ⟨h1, h2⟩
        · by_cases e : d i = n + 1
          · exact .inr ⟨h1, h2, fun j hj => absurd hj (by omega), by rw [e, cUp_at]⟩
          · refine .inl ⟨fun j hj => ?_, h2⟩
            have := h1 j hj
            by_cases e2 : j = i
            · subst e2
              rw [c1i] at this
              rw [← hc j hj, ec]
              omega
            · rw [c1j j e2, hc j hj] at this
              exact this
      · rw [br q (by omega) (by omega) (by omega), pr q (by omega), tr q (by omega) (by omega) (by omega)]
    · rw [if_pos (fi.mpr (fun z => c3 (ff.mpr z)))]
      refine ⟨s1, rfl, SC0.back SC1 (fun r h1 h2 => ⟨by rw [r1 1044 (by omega) (by omega) (by omega)]; exact m.1.2.1 r h2, fun g hg4 => by rw [r1 (1121 + g) (by omega) (by omega) (by omega)]; exact m.1.2.2 g hg4 r h2⟩), BO1.iff fun d => ?_, fun _ _ => rfl⟩
      rw [XN d]
      refine ⟨fun h => ⟨old1 d h.1, h.2⟩, fun ⟨h1, h2⟩ => ⟨fun j hj => ?_, h2⟩⟩
      have := h1 j hj
      by_cases e2 : j = i
      · subst e2
        rw [c1i] at this
        rw [← hc j hj, ec]
        by_cases e3 : d j = n + 1
        · exfalso
          refine c3 (cLe_fe (d := d) (fun j2 hj2 => ?_) h2)
          by_cases e4 : j2 = j
          · rw [e4, cUp_at]
            exact .inr e3.symm
          · rw [cUp_ne e4]
            exact .inl rfl
        · omega
      · rw [c1j j e2, hc j hj] at this
        exact this
  obtain ⟨s3, g1, g2, g3, g4⟩ := core
  have am6 : ∀ d, Xm (g_Madd τ i n x y) d → (∀ j, j < 6 → d j ≤ 6) ∧ cAm (Am (g_Madd τ i n x y)) d ≤ 1800000 := fun d hd => by
    have h1 := ((XN d).mp hd).1
    exact ⟨fun j hj => Nat.le_trans (h1 j hj) (c16 j hj), PC.am h1⟩
  have z0 : Xm (g_Madd τ i n x y) (fun _ => 0) := (XN _).mpr ⟨cOk_0, cFe_0⟩
  obtain ⟨w1, w2⟩ := find_w g3 am6 ⟨_, z0, cSp_0⟩
  have fw : ∀ q, q ≠ 1040 → q ≠ 1041 → g_findWinners s3 q = s3 q := fun q h1 h2 => fr_findWinners ⟨h1, h2⟩
  have eo : s3 1003 = σ 1003 := (g4 1003 (by omega)).trans (r1 1003 (by omega) (by omega) (by omega))
  rw [g1]
  refine ⟨⟨by rw [e5]; exact k.1, fun j hj => ?_, fun j hj k9 hk => ?_⟩, ⟨⟨fun j hj => by rw [fw _ (by decide) (by decide)]; exact g2.1 j hj, fun r hr => by rw [fw _ (by decide) (by decide)]; exact g2.2.1 r hr, fun g hg4 r hr => by rw [fw _ (by omega) (by omega)]; exact g2.2.2 g hg4 r hr⟩, g3.of fun q hq => fw q (by omega) (by omega), fun j hj => ?_⟩, ?_, ?_⟩
  · rw [fw _ (by decide) (by decide), g4 1020 (by omega), pko j hj]
    rw [es1]
    by_cases e : j = i
    · rw [e, u2_at, c1i]
    · rw [u2_oi e, u2_ne (by omega), u2_ne (by omega), c1j j e, hc j hj]
      exact k.n hj
  · have hj6 : j < 6 := by rw [eB] at hj; omega
    rw [eR, fw _ (by omega) (by omega), fw _ (by omega) (by omega), g4 (1022 + j) (by omega), g4 (1031 + j) (by omega)]
    rw [eB] at hj
    by_cases e : j = i
    · subst e
      rw [mpk_i (by omega)] at hk
      by_cases e2 : k9 = n
      · subst e2
        rw [madd_c (by omega), madd_a (by omega), es1, u2_ne (show 1022 + j ≠ 1020 by omega), u2_ne (show 1022 + j ≠ 1031 + j by omega), u2_at, u2_ne (show 1031 + j ≠ 1020 by omega), u2_at]
        exact ⟨rfl, rfl, hx2⟩
      · have hk2 : k9 < mpk τ j := by omega
        rw [madd_o (by omega), madd_o (by omega), es1, u2_ne (show 1022 + j ≠ 1020 by omega), u2_ne (show 1022 + j ≠ 1031 + j by omega), u2_oi e2, u2_ne (show 1031 + j ≠ 1020 by omega), u2_oi e2, u2_ne (show 1031 + j ≠ 1022 + j by omega)]
        exact k.2.2 j hj k9 hk2
    · rw [mpk_j e] at hk
      rw [madd_row (by omega), r1 (1022 + j) (by omega) (by omega) (by omega), r1 (1031 + j) (by omega) (by omega) (by omega)]
      exact k.2.2 j hj k9 hk
  · rw [fw _ (by decide) (by decide), eo, madd_row (by omega)]
    exact m.2.2 j hj
  · rw [fw 1003 (by decide) (by decide)]
    exact w1
  · rw [fw 1003 (by decide) (by decide)]
    exact w2
end
end
section
/-! ===== the reference's choice, and the program's winners ===== -/
def mX (D : Nat → Nat → Nat → Nat) (gr q : Nat → Nat) (cap R : Nat) (pk : Nat → Nat) (t : XS9) (d : Nat → Nat) : Prop := (cOk pk d ∧ cFe D gr q cap R d) ∧ ∀ j, j < 6 → d j ≠ 0 → t (5020 + j) 4 = 0
section
variable {σ s t τ : XS9} {D : Nat → Nat → Nat → Nat} {A : Nat → Nat → Nat} {gr grM q pk pkM : Nat → Nat} {cd : Nat → Nat → Nat} {cap R B : Nat} {c d : Nat → Nat}
theorem CinitB_same {s9 : XS9} : x_CinitB_138 t s9 = x_CinitA_138 t s9 := rfl
/-- before the packages there is nothing to choose -/
theorem cinitB_rows : (∀ j, j < 6 → g_CinitB t R B pkM grM cd 9001 j = -1) ∧ ∀ S, S < 64 → g_CinitB t R B pkM grM cd 9003 S = 0 := by
  have z : ∀ S, x_CinitB_109 t (x_CinitB_55 t R (u2 (g_cho0 t) 9000 5 (-1))) 9003 S = 0 := fun S => by
    rw [show x_CinitB_109 t (x_CinitB_55 t R (u2 (g_cho0 t) 9000 5 (-1))) 9003 = x_CinitB_55 t R (u2 (g_cho0 t) 9000 5 (-1)) 9003 from xit_keep (fun s : XS9 => s 9003) (fun i s => by (try dsimp only); rw [u2_ne (by decide)]) _ _ _, show x_CinitB_55 t R (u2 (g_cho0 t) 9000 5 (-1)) 9003 = u2 (g_cho0 t) 9000 5 (-1) 9003 from xit_keep (fun s : XS9 => s 9003) (fun i s => by (try dsimp only); rw [u2_ne (by decide)]) _ _ _, u2_ne (by decide)]
    unfold g_cho0
    rw [if_neg (by decide), if_pos (by decide)]
  have C := clo_m (σ := t) (s := x_CinitB_109 t (x_CinitB_55 t R (u2 (g_cho0 t) 9000 5 (-1)))) (b := fun _ => 0) (fun S _ => ⟨z S, by omega⟩)
  unfold g_CinitB
  rw [CinitB_same]
  refine ⟨fun j hj => ?_, fun S hS => ?_⟩
  · rw [C.2 9001 (by decide)]
    exact put_all (v := fun _ => -1) 6 0 _ (fun h => absurd h (by omega)) (by omega)
  · obtain ⟨w, w1, _, _, T, _, _, w3⟩ := C.1 S hS
    rw [w1, ← w3]
    rfl
theorem cinitA_ok (hg : ∀ j, j < 6 → gr j < 4) (hp6 : ∀ j, j < 6 → pk j ≤ 6) (hpk : ∀ j, B ≤ j → j < 6 → pk j = 0) (hB6 : B ≤ 6) (hR5 : R ≤ 5) (eg : ∀ j, j < B → grM j = gr j) (ep : ∀ j, j < B → pkM j = pk j) (P : PCm D A q cap R B pk cd t) (hq : ∀ r, r < R → t (5010 + r) 0 = nI (q r)) : WN A (mX D gr q cap R pk t) (g_CinitA t R B pkM grM cd 9001) ∧ WW A (mX D gr q cap R pk t) (g_CinitA t R B pkM grM cd 9003) := by
  have c0 : ∀ q, (q = 9001 ∨ q = 9002 ∨ q = 9003 ∨ q = 9004 ∨ q = 9005) → ∀ i, g_cho0 t q i = 0 := fun q hq i => by
    unfold g_cho0
    rw [if_neg (by omega), if_pos (by omega)]
  have k55 : ∀ (s9 : XS9) (a : Nat), a ≠ 9004 → x_CinitA_55 t R s9 a = s9 a := fun s9 a ha => xit_keep (fun s : XS9 => s a) (fun i s => by (try dsimp only); rw [u2_ne ha]) _ _ _
  have rows : ∀ a, a < 9000 → x_CinitA_55 t R (u2 (g_cho0 t) 9000 5 (-1)) a = t a := fun a ha => by
    rw [k55 _ a (by omega), u2_ne (by omega)]
    unfold g_cho0
    rw [if_neg (by omega), if_neg (by omega)]
  have r4 : ∀ r, r < R → x_CinitA_55 t R (u2 (g_cho0 t) 9000 5 (-1)) 9004 r = t (5010 + r) 0 := fun r hr => put_all (v := fun i => t (5010 + i) 0) R 0 _ (fun h => absurd h (by omega)) (by omega)
  have z3 : ∀ S, x_CinitA_55 t R (u2 (g_cho0 t) 9000 5 (-1)) 9003 S = 0 := fun S => by
    rw [k55 _ _ (by decide), u2_ne (by decide)]
    exact c0 9003 (by omega) S
  have C := cp_ok (D := D) (A := A) (gr := gr) (grM := grM) (q := q) (pk := pk) (pkM := pkM) (cd := cd) (cap := cap) (R := R) (B := B) (t := t) hg hp6 hpk hB6 hR5 eg ep P B 0 (Nat.zero_add _) (x_CinitA_55 t R (u2 (g_cho0 t) 9000 5 (-1))) 0 0 (fun _ => 0) (fun _ => False) rows ⟨fun j hj => absurd hj (by omega), fun r hr => by rw [r4 r hr, hq r hr, cTk_0, Nat.sub_zero], fun g hg4 r hr => by rw [k55 _ _ (by decide), u2_ne (by decide), c0 9005 (by omega), cTg_0]; rfl⟩ ⟨fun S hS => ⟨0, by rw [z3]; rfl, by omega, fun d hd => hd.elim, .inl rfl⟩, .inl ⟨by rw [k55 _ _ (by decide), u2_at], fun _ h => h⟩⟩ (fun d hd => hd.elim) cOk_0 cFe_0 (fun _ _ _ => rfl) (fun j _ hn => absurd rfl hn) cSp_0.symm (by rw [cAm_0]; rfl)
  unfold g_CinitA
  generalize g_Cpick B pkM grM cd B 0 (x_CinitA_55 t R (u2 (g_cho0 t) 9000 5 (-1))) 0 0 = s9 at C ⊢
  obtain ⟨_, _, O⟩ := C
  have O := O.iff (Y := mX D gr q cap R pk t) fun d => ⟨fun h => h.elim (fun z => z.elim) fun ⟨h1, h2, _, h4⟩ => ⟨⟨h1, h2⟩, h4⟩, fun ⟨⟨h1, h2⟩, h4⟩ => .inr ⟨h1, h2, fun j hj => absurd hj (by omega), h4⟩⟩
  have z0 : mX D gr q cap R pk t (fun _ => 0) := ⟨⟨cOk_0, cFe_0⟩, fun j _ hn => absurd rfl hn⟩
  have bv : ∀ S, S < 64 → s9 9003 S = nI (cn (s9 9003 S)) ∧ cn (s9 9003 S) ≤ 1800000 ∧ (∀ d, mX D gr q cap R pk t d → cSp d = S → cAm A d ≤ cn (s9 9003 S)) ∧ (cn (s9 9003 S) = 0 ∨ ∃ c, mX D gr q cap R pk t c ∧ cSp c = S ∧ cAm A c = cn (s9 9003 S)) := fun S hS => by
    obtain ⟨w, w1, w2, w3, w4⟩ := O.1 S hS
    rw [w1, cn_nI (by omega)]
    exact ⟨rfl, w2, w3, w4⟩
  have L := clo_m (σ := t) (s := s9) (b := fun S => cn (s9 9003 S)) (fun S hS => ⟨(bv S hS).1, (bv S hS).2.1⟩)
  refine ⟨?_, fun S => cn (s9 9003 S), fun S hS => ⟨(bv S hS).2.2.1, (bv S hS).2.2.2⟩, L.1⟩
  rw [L.2 9001 (by decide)]
  rcases O.2 with ⟨_, b⟩ | ⟨c, c1, c2, c3, c4⟩
  · exact absurd z0 (b _)
  · exact ⟨c, c1, c4, c3⟩
/-- both have the same winners and worths -/
theorem cho_eq (hs : ¬ t 5000 1 ≤ 1) (F : TKF t) (m : MKT t σ) (w : MKW t σ) : (∀ j, j < 6 → g_Cinit t (mR t) (mB t) (mpk t) (mgr t) (mcd t) 9001 j = σ 1040 j) ∧ ∀ S, S < 64 → g_Cinit t (mR t) (mB t) (mpk t) (mgr t) (mcd t) 9003 S = σ 1041 S := by
  obtain ⟨⟨hR5, hB6⟩, hsp, hcap, hj⟩ := F
  have e : g_Cinit t (mR t) (mB t) (mpk t) (mgr t) (mcd t) = g_CinitA t (mR t) (mB t) (mpk t) (mgr t) (mcd t) := if_neg hs
  rw [e]
  have P : PCm (Dm t) (Am t) (msp t) (cn (t 5000 2)) (mR t) (mB t) (pkB t) (mcd t) t := ⟨fun r hr => (hsp r hr).2, ⟨hcap.1, hcap.2⟩, fun j hjB k hk => by
    obtain ⟨h1, h2⟩ := pkB_lt hk
    obtain ⟨h3, h4, h5⟩ := (hj j h1).2.2 k h2
    exact ⟨h3.2, h4, fun r _ => rfl, h5.1, h5.2⟩⟩
  have g0 : ∀ j, j < 6 → (fun j => if j < mB t then mgr t j else 0) j < 4 := fun j hj6 => by
    (try dsimp only)
    split
    · rename_i l
      exact (hj j l).2.1
    · decide
  have p6 : ∀ j, j < 6 → pkB t j ≤ 6 := fun j hj6 => by
    unfold pkB
    split
    · rename_i l
      exact (hj j l).1
    · omega
  obtain ⟨a, b⟩ := cinitA_ok (D := Dm t) (A := Am t) (gr := fun j => if j < mB t then mgr t j else 0) (grM := mgr t) (q := msp t) (pk := pkB t) (pkM := mpk t) (cd := mcd t) (cap := cn (t 5000 2)) (R := mR t) (B := mB t) (t := t) g0 p6 (fun j h1 h2 => pkB_z h1) hB6 hR5 (fun j h => (if_pos h).symm) (fun j h => (if_pos h).symm) P (fun r hr => (hsp r hr).1)
  have X : ∀ d, mX (Dm t) (fun j => if j < mB t then mgr t j else 0) (msp t) (cn (t 5000 2)) (mR t) (pkB t) t d ↔ ouX (Xm t) (σ 1003 5) d := fun d => by
    refine and_congr (and_congr_right fun hd => ?_) (forall_congr' fun j => forall_congr' fun hj6 => imp_congr Iff.rfl (m.2.2 j hj6).symm)
    refine forall_congr' fun r => forall_congr' fun hr => and_congr Iff.rfl (forall_congr' fun g => forall_congr' fun _ => ?_)
    rw [show cTg (Dm t) (fun j => if j < mB t then mgr t j else 0) g r d = cTg (Dm t) (mgr t) g r d from nsum_cg fun j hj6 => by
      unfold cGd
      (try dsimp only)
      rcases Nat.lt_or_ge j (mB t) with l | l
      · simp only [if_pos l]
      · have z : d j = 0 := by
          have := hd j hj6
          rw [pkB_z l] at this
          omega
        have z2 : cDg (Dm t) r d j = 0 := if_pos z
        rw [z2]
        exact (ite_self _).trans (ite_self _).symm]
  exact ⟨fun j hj6 => (a.iff X).uniq w.1 hj6, fun S hS => (b.iff X).uniq w.2 hS⟩
end
end
section
/-! ===== the market of both sides ===== -/
/-- a state of the reference's with the program's winners, worths and amounts -/
def tC (σ : XS9) : XS9 := fun q i => if q = 9001 then σ 1040 i else if q = 9003 then σ 1041 i else if 5030 ≤ q ∧ q ≤ 5035 then σ (1031 + (q - 5030)) (i / 2) else 0
def PYQ (σ : XS9) : Prop := ∀ w, w < 3 → ∀ j, j < 6 → σ (1131 + w) j = g_Cpay (tC σ) w 20000 6 20000 j
/-- what is kept of winners' blocks -/
def wK (τ : XS9) (r j : Nat) : Nat := if j < mB τ ∧ τ 5005 j ≠ -1 then dgt (τ (5030 + j) (2 * cn (τ 5005 j))) r else 0
def nbK (τ : XS9) (r o : Nat) : Bool := bt (τ (5010 + r) 3) o
def NM3 (τ σ : XS9) : Prop := (∀ r, r < mR τ → ∀ b, b < 5 → σ (1141 + r) b = hro (wK τ r) (msp τ r) (mtn τ r) b) ∧ σ 1005 1 = nI (tot (nbK τ) (wK τ) (msp τ) (mtn τ) (mR τ))
def KE3 (τ σ : XS9) : Prop := ((∀ j, j < 6 → τ 5005 j = σ 1040 j) ∧ (∀ j, j < 6 → τ 5006 j = σ (1131 + mwy τ) j) ∧ σ 1000 9 = τ 5000 7) ∧ NM3 τ σ
def NM0 (σ : XS9) : Prop := (∀ r, r < 5 → ∀ b, b < 5 → σ (1141 + r) b = -1) ∧ σ 1005 1 = 0
/-- before the packages -/
def EMP (τ σ : XS9) : Prop := (SC0 σ ∧ (σ 1042 0 = 0 ∧ ∀ S, 0 < S → S < 64 → σ 1042 S = -1) ∧ ∀ S, S < 64 → ∀ j, j < 6 → σ (1051 + S) j = -1) ∧ ((∀ j, j < 6 → σ 1040 j = -1) ∧ (∀ S, S < 64 → σ 1041 S = 0) ∧ ∀ w, w < 3 → ∀ j, j < 6 → σ (1131 + w) j = 0) ∧ (σ 1003 5 = 0 ∧ ∀ j, j < 6 → τ (5020 + j) 4 = 0) ∧ ∀ j, j < 6 → pkB τ j = 0
def RM (τ σ : XS9) : Prop := (RK τ σ ∧ σ 1000 10 = τ 5000 5) ∧ (τ 5000 1 ≤ 1 → EMP τ σ) ∧ (¬ τ 5000 1 ≤ 1 → MKT τ σ ∧ MKW τ σ ∧ PYQ σ) ∧ (¬ τ 5000 1 = 3 → NM0 σ) ∧ (τ 5000 1 = 3 → KE3 τ σ)
theorem RM.k {τ σ : XS9} (h : RM τ σ) : RK τ σ := h.1.1
theorem RM.d {τ σ : XS9} (h : RM τ σ) : σ 1000 10 = τ 5000 5 := h.1.2
theorem RM.e {τ σ : XS9} (h : RM τ σ) : τ 5000 1 ≤ 1 → EMP τ σ := h.2.1
theorem RM.m {τ σ : XS9} (h : RM τ σ) : ¬ τ 5000 1 ≤ 1 → MKT τ σ ∧ MKW τ σ ∧ PYQ σ := h.2.2.1
theorem RM.n0 {τ σ : XS9} (h : RM τ σ) : ¬ τ 5000 1 = 3 → NM0 σ := h.2.2.2.1
theorem RM.n3 {τ σ : XS9} (h : RM τ σ) : τ 5000 1 = 3 → KE3 τ σ := h.2.2.2.2
/-- the places that it speaks of -/
def kx (q i : Nat) : Prop := (q = 1000 ∧ (i = 9 ∨ i = 10)) ∨ (q = 1003 ∧ i = 5) ∨ (q = 1005 ∧ i = 1) ∨ (1020 ≤ q ∧ q ≤ 1124) ∨ (1131 ≤ q ∧ q ≤ 1145)
def VX (σ σ2 : XS9) : Prop := ∀ q i, kx q i → σ2 q i = σ q i
def kX (q i : Nat) : Prop := (q = 5000 ∧ (i = 1 ∨ i = 2 ∨ i = 5 ∨ i = 7)) ∨ ((q = 5001 ∨ q = 5002) ∧ i = 900) ∨ (5005 ≤ q ∧ q ≤ 5007) ∨ (5010 ≤ q ∧ q ≤ 5014 ∧ (i = 0 ∨ i = 3)) ∨ (5020 ≤ q ∧ q ≤ 5025 ∧ (i = 3 ∨ i = 4)) ∨ (5030 ≤ q ∧ q ≤ 5035)
def MX (τ τ2 : XS9) : Prop := ∀ q i, kX q i → τ2 q i = τ q i
section
variable {τ τ2 τ3 σ σ2 σ3 : XS9} {A A2 : Nat → Nat → Nat} {X Y : (Nat → Nat) → Prop} {d : Nat → Nat}
theorem VX.rfl' : VX σ σ := fun _ _ _ => rfl
theorem VX.trans (a : VX σ σ2) (b : VX σ2 σ3) : VX σ σ3 := fun q i h => (b q i h).trans (a q i h)
theorem VX.set {q i : Nat} {x : Int32} (hq : ¬ kx q i) : VX σ (u2 σ q i x) := fun q9 i9 hk => u2_o (fun a b => hq (by rw [← a, ← b]; exact hk))
theorem VX.rows (h : ∀ q, (q = 1000 ∨ q = 1003 ∨ q = 1005 ∨ (1020 ≤ q ∧ q ≤ 1124) ∨ (1131 ≤ q ∧ q ≤ 1145)) → σ2 q = σ q) : VX σ σ2 := fun q i hk => by rw [h q (by unfold kx at hk; omega)]
theorem MX.rfl' : MX τ τ := fun _ _ _ => rfl
theorem MX.trans (a : MX τ τ2) (b : MX τ2 τ3) : MX τ τ3 := fun q i h => (b q i h).trans (a q i h)
theorem MX.set {q i : Nat} {x : Int32} (hq : ¬ kX q i) : MX τ (u2 τ q i x) := fun q9 i9 hk => u2_o (fun a b => hq (by rw [← a, ← b]; exact hk))
theorem MX.row {q : Nat} {f : Nat → Int32} (hq : ∀ i, ¬ kX q i) : MX τ (uR τ q f) := fun q9 i9 hk => by
  by_cases e : q9 = q
  · rw [e] at hk
    exact absurd hk (hq i9)
  · rw [uR_ne e]
theorem MX.s0 {x : Int32} : MX τ (u2 τ 5000 0 x) := MX.set (fun k => by unfold kX at k; omega)
theorem MX.s00 {x : Int32} : MX τ (u2 (u2 τ 5000 0 0) 5000 0 x) := MX.s0.trans MX.s0
theorem MX.hi (e : ∀ q, q < 6000 → τ2 q = τ q) : MX τ τ2 := fun q i hk => by rw [e q (by unfold kX at hk; omega)]
theorem MX.R (m : MX τ τ2) : mR τ2 = mR τ := congrArg cn (m _ _ (by unfold kX; omega))
theorem MX.B (m : MX τ τ2) : mB τ2 = mB τ := congrArg cn (m _ _ (by unfold kX; omega))
theorem MX.pk (m : MX τ τ2) {j : Nat} (hj : j < 6) : mpk τ2 j = mpk τ j := by
  show cn (τ2 (5030 + j) 900) / 2 = _
  rw [m _ _ (by unfold kX; omega)]
theorem MX.pkb (m : MX τ τ2) {j : Nat} (hj : j < 6) : pkB τ2 j = pkB τ j := by
  unfold pkB
  rw [m.B, m.pk hj]
/-- the same choices, of the same amounts -/
theorem Xm_same (hB : ∀ j, j < 6 → pkB τ2 j = pkB τ j) (hr : ∀ j, j < 6 → τ2 (5030 + j) = τ (5030 + j)) (hg : ∀ j, j < 6 → mgr τ j = mgr τ2 j) (hs : ∀ r, r < mR τ → msp τ2 r = msp τ r) (hc : cn (τ2 5000 2) = cn (τ 5000 2)) (hR : mR τ2 = mR τ) : (∀ d, Xm τ d ↔ Xm τ2 d) ∧ ∀ d, cAm (Am τ) d = cAm (Am τ2) d := by
  refine ⟨fun d => ?_, fun d => ?_⟩
  · unfold Xm
    rw [hc, hR]
    refine and_congr (forall_congr' fun j => forall_congr' fun hj => by rw [hB j hj]) ((cFe_gr hg).trans ?_)
    refine forall_congr' fun r => forall_congr' fun hr9 => ?_
    rw [hs r hr9, show cTk (Dm τ) r d = cTk (Dm τ2) r d from nsum_cg fun j hj => by
      unfold cDg Dm
      rw [hr j hj]]
    refine and_congr Iff.rfl (forall_congr' fun g => forall_congr' fun _ => ?_)
    rw [show cTg (Dm τ) (mgr τ2) g r d = cTg (Dm τ2) (mgr τ2) g r d from nsum_cg fun j hj => by
      unfold cGd cDg Dm
      rw [hr j hj]]
  · exact nsum_cg fun j hj => by
      unfold cAd Am
      rw [hr j hj]
theorem MX.row5030 (m : MX τ τ2) {j : Nat} (hj : j < 6) : τ2 (5030 + j) = τ (5030 + j) := funext fun i => m _ _ (by unfold kX; omega)
theorem MX.same (m : MX τ τ2) (hR5 : mR τ ≤ 5) : (∀ d, Xm τ d ↔ Xm τ2 d) ∧ ∀ d, cAm (Am τ) d = cAm (Am τ2) d := Xm_same (fun j hj => m.pkb hj) (fun j hj => m.row5030 hj) (fun j hj => by
  show cn (τ (5020 + j) 3) = cn (τ2 (5020 + j) 3)
  rw [m _ _ (by unfold kX; omega)]) (fun r hr => by
  show cn (τ2 (5010 + r) 0) = cn (τ (5010 + r) 0)
  rw [m _ _ (by unfold kX; omega)]) (by rw [m _ _ (by unfold kX; omega)]) m.R
theorem MKT.of (h : MKT τ σ) (X : (∀ d, Xm τ d ↔ Xm τ2 d) ∧ ∀ d, cAm (Am τ) d = cAm (Am τ2) d) (ho : ∀ j, j < 6 → τ2 (5020 + j) 4 = τ (5020 + j) 4) (c : ∀ q i, (1042 ≤ q ∧ q ≤ 1124) ∨ (q = 1003 ∧ i = 5) → σ2 q i = σ q i) : MKT τ2 σ2 := by
  refine ⟨⟨fun j hj => ?_, fun r hr => ?_, fun g hg r hr => ?_⟩, ((h.2.1.cg fun d _ => X.2 d).iff X.1).of fun q hq => funext fun i => c q i (by omega), fun j hj => ?_⟩
  · rw [c _ _ (by omega)]
    exact h.1.1 j hj
  · rw [c _ _ (by omega)]
    exact h.1.2.1 r hr
  · rw [c _ _ (by omega)]
    exact h.1.2.2 g hg r hr
  · rw [c _ _ (by omega), ho j hj]
    exact h.2.2 j hj
theorem MKW.of (h : MKW τ σ) (X : (∀ d, Xm τ d ↔ Xm τ2 d) ∧ ∀ d, cAm (Am τ) d = cAm (Am τ2) d) (c : ∀ q i, (1040 ≤ q ∧ q ≤ 1041) ∨ (q = 1003 ∧ i = 5) → σ2 q i = σ q i) : MKW τ2 σ2 := by
  have Y : ∀ d, ouX (Xm τ) (σ 1003 5) d ↔ ouX (Xm τ2) (σ2 1003 5) d := fun d => by
    rw [c 1003 5 (by omega)]
    exact and_congr (X.1 d) Iff.rfl
  exact ⟨((h.1.cg fun d _ => X.2 d).iff Y).onto fun j _ => c _ _ (by omega), ((h.2.cg fun d _ => X.2 d).iff Y).onto fun S _ => c _ _ (by omega)⟩
theorem tC_same (c : ∀ q i, (1031 ≤ q ∧ q ≤ 1041) → σ2 q i = σ q i) : tC σ2 = tC σ := by
  funext q i
  unfold tC
  split
  · exact c _ _ (by omega)
  · split
    · exact c _ _ (by omega)
    · split
      · exact c _ _ (by omega)
      · rfl
theorem PYQ.of (h : PYQ σ) (c : ∀ q i, (1031 ≤ q ∧ q ≤ 1041) ∨ (1131 ≤ q ∧ q ≤ 1133) → σ2 q i = σ q i) : PYQ σ2 := fun w hw j hj => by
  rw [c _ _ (by omega), tC_same fun q i hq => c q i (.inl hq)]
  exact h w hw j hj
theorem RM.kept (h : RM τ σ) (r : JR τ) (m : MX τ τ2) (c : VX σ σ2) : RM τ2 σ2 := by
  have hR5 := r.hR.2
  have hB6 := r.hB.2
  have es : τ2 5000 1 = τ 5000 1 := m _ _ (by unfold kX; omega)
  have X := m.same hR5
  have cc : ∀ q i, kx q i → σ2 q i = σ q i := c
  have mm : ∀ q i, kX q i → τ2 q i = τ q i := m
  refine ⟨⟨⟨by rw [mm _ _ (by unfold kX; omega)]; exact h.k.1, fun j hj => by rw [cc _ _ (by unfold kx; omega), m.pkb hj]; exact h.k.n hj, fun j hj k hk => ?_⟩, by rw [cc _ _ (by unfold kx; omega), mm _ _ (by unfold kX; omega)]; exact h.d⟩, fun hs => ?_, fun hs => ?_, fun hs => ?_, fun hs => ?_⟩
  · rw [m.B] at hj
    rw [m.pk (by omega)] at hk
    have k6 := (r.hpk j hj).2
    rw [cc _ _ (by unfold kx; omega), cc _ _ (by unfold kx; omega), m.row5030 (by omega), m.R]
    exact h.k.2.2 j hj k hk
  · rw [es] at hs
    obtain ⟨⟨⟨a1, a2, a3⟩, ⟨b1, b2⟩, b3⟩, ⟨c1, c2, c3⟩, ⟨d1, d2⟩, d3⟩ := h.e hs
    refine ⟨⟨⟨fun j hj => ?_, fun q hq => ?_, fun g hg q hq => ?_⟩, ⟨?_, fun S h1 h2 => ?_⟩, fun S hS j hj => ?_⟩, ⟨fun j hj => ?_, fun S hS => ?_, fun w hw j hj => ?_⟩, ⟨?_, fun j hj => ?_⟩, fun j hj => ?_⟩
    · rw [cc _ _ (by unfold kx; omega)]; exact a1 j hj
    · rw [cc _ _ (by unfold kx; omega)]; exact a2 q hq
    · rw [cc _ _ (by unfold kx; omega)]; exact a3 g hg q hq
    · rw [cc _ _ (by unfold kx; omega)]; exact b1
    · rw [cc _ _ (by unfold kx; omega)]; exact b2 S h1 h2
    · rw [cc _ _ (by unfold kx; omega)]; exact b3 S hS j hj
    · rw [cc _ _ (by unfold kx; omega)]; exact c1 j hj
    · rw [cc _ _ (by unfold kx; omega)]; exact c2 S hS
    · rw [cc _ _ (by unfold kx; omega)]; exact c3 w hw j hj
    · rw [cc _ _ (by unfold kx; omega)]; exact d1
    · rw [mm _ _ (by unfold kX; omega)]; exact d2 j hj
    · rw [m.pkb hj]; exact d3 j hj
  · rw [es] at hs
    obtain ⟨h1, h2, h3⟩ := h.m hs
    exact ⟨h1.of X (fun j hj => mm _ _ (by unfold kX; omega)) fun q i hq => cc _ _ (by unfold kx; omega), h2.of X fun q i hq => cc _ _ (by unfold kx; omega), h3.of fun q i hq => cc _ _ (by unfold kx; omega)⟩
  · rw [es] at hs
    obtain ⟨h1, h2⟩ := h.n0 hs
    exact ⟨fun q hq b hb => by rw [cc _ _ (by unfold kx; omega)]; exact h1 q hq b hb, by rw [cc _ _ (by unfold kx; omega)]; exact h2⟩
  · rw [es] at hs
    obtain ⟨⟨h1, h2, h3⟩, h4, h5⟩ := h.n3 hs
    have ew : mwy τ2 = mwy τ := by
      show cn (τ2 5000 7) = _
      rw [mm _ _ (by unfold kX; omega)]
    have eK : ∀ q, wK τ2 q = wK τ q := fun q => funext fun j => by
      unfold wK
      rw [m.B, mm 5005 j (by unfold kX; omega)]
      by_cases l : j < mB τ
      · rw [m.row5030 (by omega)]
      · rw [if_neg (fun z => l z.1), if_neg (fun z => l z.1)]
    have et : ∀ q, mtn τ2 q = mtn τ q := fun q => by
      show cn (τ2 5007 q) = _
      rw [mm _ _ (by unfold kX; omega)]
    have ep : ∀ q, q < 5 → msp τ2 q = msp τ q := fun q hq => by
      show cn (τ2 (5010 + q) 0) = _
      rw [mm _ _ (by unfold kX; omega)]
    have ew4 := r.hwy.2
    refine ⟨⟨fun j hj => by rw [mm _ _ (by unfold kX; omega), cc _ _ (by unfold kx; omega)]; exact h1 j hj, fun j hj => by rw [ew, mm _ _ (by unfold kX; omega), cc _ _ (by unfold kx; omega)]; exact h2 j hj, by rw [cc _ _ (by unfold kx; omega), mm _ _ (by unfold kX; omega)]; exact h3⟩, fun q hq b hb => ?_, ?_⟩
    · rw [m.R] at hq
      rw [cc _ _ (by unfold kx; omega), eK, et, ep q (by omega)]
      exact h4 q hq b hb
    · rw [cc _ _ (by unfold kx; omega), h5, m.R]
      congr 1
      refine nsum_cg fun o ho => ?_
      (try dsimp only)
      rw [et]
      refine nsum_cg fun o2 ho2 => ?_
      unfold clN nbK
      rw [mm (5010 + o) 3 (by unfold kX; omega), eK, eK, et, ep o (by omega), ep o2 (by omega)]
/-- before the packages, the search has just the choice of nothing -/
theorem EMP.mk (h : EMP τ σ) : MKT τ σ ∧ MKW τ σ := by
  obtain ⟨⟨a, ⟨b1, b2⟩, b3⟩, ⟨c1, c2, c3⟩, ⟨d1, d2⟩, d3⟩ := h
  have X0 : ∀ d, Xm τ d → e6 d (fun _ => 0) := fun d hd j hj => by
    have := hd.1 j hj
    rw [d3 j hj] at this
    exact Nat.le_zero.mp this
  have z0 : Xm τ (fun _ => 0) := ⟨cOk_0, cFe_0⟩
  have o0 : ∀ j, bt (σ 1003 5) j = false := fun j => by rw [d1, b_0]
  have y0 : ouX (Xm τ) (σ 1003 5) (fun _ => 0) := ⟨z0, fun j _ hn => absurd rfl hn⟩
  refine ⟨⟨a, fun S hS => ?_, fun j hj => ⟨fun _ => d2 j hj, fun _ => o0 j⟩⟩, ⟨_, y0, fun d hd => (X0 d hd.1).symm.btr, fun j hj => by rw [c1 j hj]; rfl⟩, fun _ => 0, fun S hS => ⟨fun d hd hs => ?_, .inl rfl⟩, fun S hS => ⟨0, c2 S hS, by omega, fun _ _ _ => Nat.le_refl _, S, hS, fun _ _ h => h, rfl⟩⟩
  · rcases Nat.eq_zero_or_pos S with e | e
    · subst e
      exact .inr ⟨_, z0, cSp_0, by rw [b1, cAm_0]; rfl, fun j hj => by rw [b3 0 (by decide) j hj]; rfl, fun d hd _ => (X0 d hd).symm.btr⟩
    · refine .inl ⟨b2 S e hS, fun d hd => ?_⟩
      rw [(X0 d hd).sp, cSp_0]
      omega
  · rw [(X0 d hd.1).am, cAm_0]
    exact Nat.le_refl _
end
end
section
/-! ===== amounts, blocks and payments of the winners ===== -/
section
variable {τ σ s t : XS9} {D : Nat → Nat → Nat → Nat} {A : Nat → Nat → Nat} {q pk : Nat → Nat} {cap R B j r : Nat} {X : (Nat → Nat) → Prop} {c d : Nat → Nat}
theorem rwc_at {v : Nat} (hv : v ≤ 6) : (v = 0 → rwc v < 0) ∧ (v ≠ 0 → ¬ rwc v < 0 ∧ ¬ 6 ≤ rwc v ∧ cn (rwc v) = v - 1 ∧ ¬ rwc v = -1) := by
  have : ∀ v : Fin 7, (v.1 = 0 → rwc v.1 < 0) ∧ (v.1 ≠ 0 → ¬ rwc v.1 < 0 ∧ ¬ 6 ≤ rwc v.1 ∧ cn (rwc v.1) = v.1 - 1 ∧ ¬ rwc v.1 = -1) := by decide +kernel
  exact this ⟨v, by omega⟩
theorem won_c (P : PCx D A q cap R pk s) (hp6 : ∀ j, j < 6 → pk j ≤ 6) (hc : cOk pk c) (hrow : s 1040 j = rwc (c j)) (hj : j < 6) : f_amountWon s j = nI (cAd A c j) ∧ ∀ r, r < R → r < 5 → f_blocksWon s j r = nI (cDg D r c j) := by
  have h1 := hc j hj
  have h6 := hp6 j hj
  obtain ⟨v1, v2⟩ := rwc_at (v := c j) (by omega)
  unfold f_amountWon f_blocksWon cAd cDg
  rw [hrow]
  by_cases e : c j = 0
  · rw [if_pos (v1 e), if_pos e]
    refine ⟨rfl, fun r hr hr5 => ?_⟩
    rw [if_pos (v1 e), if_pos e]
    rfl
  · obtain ⟨w1, w2, w3, w4⟩ := v2 e
    obtain ⟨d1, d2, d3, d4⟩ := P.2.2 j hj (c j - 1) (by omega)
    have w3 : Int32.toNatClampNeg (rwc (c j)) = c j - 1 := w3
    rw [if_neg w1, if_neg w2, if_neg e, w3]
    refine ⟨d3, fun r hr hr5 => ?_⟩
    rw [if_neg w1, if_neg w2, if_neg e, d2 r hr]
    exact many_d d1 hr5
theorem won_m (hrow : t 9001 j = rwc (c j)) (hc : c j ≤ 6) (ha : c j ≠ 0 → t (5030 + j) (2 * (c j - 1) + 1) = nI (A j (c j - 1))) : f_Camount t j = nI (cAd A c j) ∧ (t 9001 j = -1 → cAd A c j = 0) := by
  obtain ⟨v1, v2⟩ := rwc_at hc
  unfold f_Camount cAd f_Bamount
  rw [hrow]
  by_cases e : c j = 0
  · rw [if_pos (show rwc (c j) = -1 by rw [e]; rfl), if_pos e]
    exact ⟨rfl, fun _ => rfl⟩
  · obtain ⟨w1, w2, w3, w4⟩ := v2 e
    rw [if_neg w4, if_neg e, w3]
    exact ⟨ha e, fun z => absurd z w4⟩
/-- both find the same payments -/
theorem pay_eq (hw : WN A X (s 1040)) (hv : WW A X (s 1041)) (P : PCx D A q cap R pk s) (hp6 : ∀ j, j < 6 → pk j ≤ 6) (hB6 : B ≤ 6) (hpk : ∀ j, B ≤ j → j < 6 → pk j = 0) (hX : ∀ d, X d → cOk pk d ∧ ∀ i, i < 6 → X (cUp d i 0)) (t1 : ∀ j, j < 6 → t 9001 j = s 1040 j) (t3 : ∀ S, S < 64 → t 9003 S = s 1041 S) (ta : ∀ j, j < B → ∀ k, k < pk j → t (5030 + j) (2 * k + 1) = nI (A j k)) : ∃ W a p1 p2 : Nat → Nat, FWs W a B ∧ (∀ j, j < 6 → f_amountWon s j = nI (a j) ∧ (t 9001 j = -1 → a j = 0)) ∧ (∀ j, j < B → f_Camount t j = nI (a j)) ∧ (∀ S, S < 64 → s 1041 S = nI (W S)) ∧ (∀ j, j < 6 → (g_find s 1131 j = nI (a j) ∧ g_find s 1132 j = nI (p1 j) ∧ g_find s 1133 j = nI (p2 j)) ∧ p1 j ≤ a j ∧ p2 j ≤ a j) ∧ ∀ j, j < 6 → g_Cpay t 0 20000 B 20000 j = nI (a j) ∧ g_Cpay t 1 20000 B 20000 j = nI (p1 j) ∧ g_Cpay t 2 20000 B 20000 j = nI (p2 j) := by
  obtain ⟨c, c1, c2, c3⟩ := hw
  have xx : ∀ d, X d → (∀ j, B ≤ j → j < 6 → d j = 0) ∧ (∀ j, j < 6 → cAd A d j ≤ 300000) ∧ ∀ i, i < 6 → X (cUp d i 0) := fun d hd => by
    have h1 := (hX d hd).1
    refine ⟨fun j a b => ?_, fun j hj => ?_, (hX d hd).2⟩
    · have := h1 j b
      rw [hpk j a b] at this
      omega
    · unfold cAd
      split
      · exact Nat.zero_le _
      · have := h1 j hj
        exact (P.2.2 j hj (d j - 1) (by omega)).2.2.2
  obtain ⟨hF, hW⟩ := FWs.of (B := B) hB6 c1 c2 hv xx
  have ok := (hX c c1).1
  have c6 : ∀ j, j < 6 → c j ≤ 6 := fun j hj => Nat.le_trans (ok j hj) (hp6 j hj)
  have hac : ∀ j, j < 6 → f_amountWon s j = nI (cAd A c j) := fun j hj => (won_c P hp6 ok (c3 j hj) hj).1
  have wm : ∀ j, j < 6 → j < B → f_Camount t j = nI (cAd A c j) ∧ (t 9001 j = -1 → cAd A c j = 0) := fun j hj hjB => won_m (by rw [t1 j hj]; exact c3 j hj) (c6 j hj) (fun hn => ta j hjB _ (by have := ok j hj; omega))
  have hn : ∀ j, j < 6 → t 9001 j = -1 → cAd A c j = 0 := fun j hj e => by
    rcases Nat.lt_or_ge j B with l | l
    · exact (wm j hj l).2 e
    · exact hF.2.2.2 j l hj
  obtain ⟨p1, p2, q1, q2⟩ := pay_all (σ := s) (t := t) (qa := 20000) (B := B) hF hB6 (Nat.le_refl _) (fun j hj => (t1 j hj).symm) hn (fun j h1 h2 => by
    rw [t1 j h2, c3 j h2, (xx c c1).1 j h1 h2]
    rfl) hac (fun j hj => (wm j (by omega) hj).1) hW (fun S hS => (t3 S hS).trans (hW S hS))
  exact ⟨_, _, p1, p2, hF, fun j hj => ⟨hac j hj, hn j hj⟩, fun j hj => (wm j (by omega) hj).1, hW, q1, q2⟩
theorem ouX_dn (h : ouX (Xm τ) (σ 1003 5) d) : cOk (pkB τ) d ∧ ∀ i, i < 6 → ouX (Xm τ) (σ 1003 5) (cUp d i 0) := by
  refine ⟨h.1.1, fun i hi => ⟨⟨fun j hj => ?_, cLe_fe (d := d) (fun j hj => ?_) h.1.2⟩, fun j hj hn => ?_⟩⟩
  · by_cases e : j = i
    · rw [e, cUp_at]
      exact Nat.zero_le _
    · rw [cUp_ne e]
      exact h.1.1 j hj
  · by_cases e : j = i
    · rw [e, cUp_at]
      exact .inl rfl
    · rw [cUp_ne e]
      exact .inr rfl
  · by_cases e : j = i
    · rw [e, cUp_at] at hn
      exact absurd rfl hn
    · rw [cUp_ne e] at hn
      exact h.2 j hj hn
theorem Cpay3 {v : Nat → Nat → Nat} {w : Nat} (hw : w < 3) {s9 t9 : XS9} {B2 : Nat} {a p1 p2 : Nat → Nat} (h1 : ∀ j, j < 6 → (s9 1131 j = nI (a j) ∧ s9 1132 j = nI (p1 j) ∧ s9 1133 j = nI (p2 j))) (h2 : ∀ j, j < 6 → g_Cpay t9 0 20000 B2 20000 j = nI (a j) ∧ g_Cpay t9 1 20000 B2 20000 j = nI (p1 j) ∧ g_Cpay t9 2 20000 B2 20000 j = nI (p2 j)) {j : Nat} (hj : j < 6) : s9 (1131 + w) j = g_Cpay t9 w 20000 B2 20000 j := by
  match w, hw with
  | 0, _ => exact (h1 j hj).1.trans (h2 j hj).1.symm
  | 1, _ => exact (h1 j hj).2.1.trans (h2 j hj).2.1.symm
  | 2, _ => exact (h1 j hj).2.2.trans (h2 j hj).2.2.symm
/-- what is found is what the rows of winners and amounts ask -/
theorem MKW.find (w : MKW τ σ) (P : PCx (Dm τ) (Am τ) q cap R (pkB τ) σ) (hp6 : ∀ j, j < 6 → pkB τ j ≤ 6) : ∀ v, v < 3 → ∀ j, j < 6 → g_find σ (1131 + v) j = g_Cpay (tC σ) v 20000 6 20000 j := fun v hv j hj => by
  obtain ⟨W, a, p1, p2, _, _, _, _, h1, h2⟩ := pay_eq (B := 6) (t := tC σ) w.1 w.2 P hp6 (Nat.le_refl _) (fun j h1 h2 => by omega) (fun d hd => ouX_dn hd) (fun j _ => if_pos rfl) (fun S _ => by
    unfold tC
    rw [if_neg (by decide), if_pos rfl]) (fun j hj k hk => by
    unfold tC
    rw [if_neg (by omega), if_neg (by omega), if_pos (by omega), show 5030 + j - 5030 = j by omega, show (2 * k + 1) / 2 = k by omega]
    exact (P.2.2 j hj k hk).2.2.1)
  exact Cpay3 (v := fun _ _ => 0) hv (fun j hj => (h1 j hj).1) h2 hj
theorem PYQ.found (w : MKW τ σ) (P : PCx (Dm τ) (Am τ) q cap R (pkB τ) σ) (hp6 : ∀ j, j < 6 → pkB τ j ≤ 6) : PYQ (g_find σ) := fun v hv j hj => by
  rw [w.find P hp6 v hv j hj, tC_same (σ := σ) (σ2 := g_find σ) fun q i hq => by rw [fr_find ⟨by omega, by omega, by omega⟩]]
/-- the reference's payments by a state with the same winners, worths and packages -/
theorem PYQ.same (h : PYQ σ) (w : MKW τ σ) (P : PCx (Dm τ) (Am τ) q cap R (pkB τ) σ) (hp6 : ∀ j, j < 6 → pkB τ j ≤ 6) (hB6 : mB τ ≤ 6) (t1 : ∀ j, j < 6 → t 9001 j = σ 1040 j) (t3 : ∀ S, S < 64 → t 9003 S = σ 1041 S) (ta : ∀ j, j < mB τ → ∀ k, k < pkB τ j → t (5030 + j) (2 * k + 1) = nI (Am τ j k)) : ∃ W a : Nat → Nat, ∃ p : Nat → Nat → Nat, FWs W a (mB τ) ∧ (∀ j, j < 6 → f_amountWon σ j = nI (a j) ∧ (t 9001 j = -1 → a j = 0)) ∧ (∀ j, j < mB τ → f_Camount t j = nI (a j)) ∧ (∀ S, S < 64 → σ 1041 S = nI (W S)) ∧ (∀ j, j < 6 → σ 1131 j = nI (a j)) ∧ ∀ v, v < 3 → ∀ j, j < 6 → σ (1131 + v) j = nI (p v j) ∧ p v j ≤ a j ∧ g_Cpay t v 20000 (mB τ) 20000 j = nI (p v j) := by
  obtain ⟨W, a, p1, p2, h1, h2, h3, h4, h5, h6⟩ := pay_eq (B := mB τ) (t := t) w.1 w.2 P hp6 hB6 (fun j h1 h2 => pkB_z h1) (fun d hd => ouX_dn hd) t1 t3 ta
  have fe : ∀ v, v < 3 → ∀ j, j < 6 → σ (1131 + v) j = g_find σ (1131 + v) j := fun v hv j hj => by rw [h v hv j hj, w.find P hp6 v hv j hj]
  refine ⟨W, a, fun v => if v = 0 then a else if v = 1 then p1 else p2, h1, h2, h3, h4, fun j hj => (fe 0 (by decide) j hj).trans (h5 j hj).1.1, fun v hv j hj => ?_⟩
  rw [fe v hv j hj]
  match v, hv with
  | 0, _ => exact ⟨(h5 j hj).1.1, Nat.le_refl _, (h6 j hj).1⟩
  | 1, _ => exact ⟨(h5 j hj).1.2.1, (h5 j hj).2.1, (h6 j hj).2.1⟩
  | 2, _ => exact ⟨(h5 j hj).1.2.2, (h5 j hj).2.2, (h6 j hj).2.2⟩
end
end
section
/-! ===== settled: winners, payments and names are kept on both sides ===== -/
section
variable {τ t s σ : XS9} {spc : Nat → Nat} {wy : Nat} {c : Nat → Nat}
/-- rows of the reference's behind the keeping -/
theorem keep_rows (hB6 : mB t ≤ 6) {q : Nat} (h : (q < 5005 ∨ 5007 < q) ∧ q < 9000) : g_Mkeep t (mR t) (mB t) (mpk t) (mgr t) (mcd t) wy (msp t) q = t q := fr_Mkeep ⟨h.1, by omega, by omega, hB6⟩
theorem keep_sim (hs3 : ¬ t 5000 1 ≤ 1) (F : TKF t) (P : PCx (Dm t) (Am t) (msp t) (cn (t 5000 2)) (mR t) (pkB t) s) (m : MKT t s) (w : MKW t s) (y : PYQ s) (hwy : wy < 3) (hn : ∀ r, r < 5 → s 1013 r = t (5010 + r) 3) (hsp : ∀ r, r < mR t → spc r = msp t r) : ((∀ j, j < 6 → g_Mkeep t (mR t) (mB t) (mpk t) (mgr t) (mcd t) wy (msp t) 5005 j = s 1040 j) ∧ ∀ j, j < 6 → g_Mkeep t (mR t) (mB t) (mpk t) (mgr t) (mcd t) wy (msp t) 5006 j = s (1131 + wy) j) ∧ NM3 (g_Mkeep t (mR t) (mB t) (mpk t) (mgr t) (mcd t) wy (msp t)) (g_give s (mR t) spc) := by
  have hR5 := F.1.1
  have hB6 := F.1.2
  have hp6 := F.p6
  obtain ⟨x1, x3⟩ := cho_eq hs3 F m w
  have fC : ∀ q, q < 9000 → g_Cinit t (mR t) (mB t) (mpk t) (mgr t) (mcd t) q = t q := fun q hq => fr_Cinit (.inl hq)
  obtain ⟨c, ⟨c1, c1o⟩, c2, c3⟩ := w.1
  unfold g_Mkeep
  generalize g_Cinit t (mR t) (mB t) (mpk t) (mgr t) (mcd t) = C at x1 x3 fC ⊢
  have y1 : ∀ q, q ≠ 5005 → uR C 5005 (va_cpy (C 9001) (t 5005) 0 0 6) q = C q := fun q hq => uR_ne hq
  have y5 : ∀ j, j < 6 → uR C 5005 (va_cpy (C 9001) (t 5005) 0 0 6) 5005 j = s 1040 j := fun j hj => by
    rw [uR_eq, cpy_lo hj]
    exact x1 j hj
  generalize uR C 5005 (va_cpy (C 9001) (t 5005) 0 0 6) = C1 at y1 y5 ⊢
  obtain ⟨W, a, p, _, _, _, _, _, h6⟩ := y.same (τ := t) (t := C1) w P hp6 hB6 (fun j hj => by rw [y1 9001 (by decide)]; exact x1 j hj) (fun S hS => by rw [y1 9003 (by decide)]; exact x3 S hS) (fun j hj k hk => by
    rw [y1 _ (by omega), fC _ (by omega)]
    exact F.pcm hj (pkB_lt hk).2)
  have g1 : ∀ q, q ≠ 20000 → g_Cpay C1 wy 20000 (mB t) q = C1 q := fun q hq => fr_Cpay ⟨hq, hB6⟩
  have g2 : ∀ j, j < 6 → g_Cpay C1 wy 20000 (mB t) 20000 j = s (1131 + wy) j := fun j hj => by
    obtain ⟨a1, _, a2⟩ := h6 wy hwy j hj
    rw [a1, a2]
  generalize g_Cpay C1 wy 20000 (mB t) = G at g1 g2 ⊢
  have v6 : ∀ j, j < 6 → uR G 5006 (va_cpy (G 20000) (t 5006) 0 0 6) 5006 j = s (1131 + wy) j := fun j hj => by
    rw [uR_eq, cpy_lo hj]
    exact g2 j hj
  have v5 : ∀ j, j < 6 → uR G 5006 (va_cpy (G 20000) (t 5006) 0 0 6) 5005 j = s 1040 j := fun j hj => by
    rw [uR_ne (by decide), g1 _ (by decide)]
    exact y5 j hj
  have vo : ∀ q, q ≠ 5005 → q ≠ 5006 → q < 9000 → uR G 5006 (va_cpy (G 20000) (t 5006) 0 0 6) q = t q := fun q h1 h2 h3 => by rw [uR_ne h2, g1 _ (by omega), y1 _ h1, fC _ h3]
  generalize uR G 5006 (va_cpy (G 20000) (t 5006) 0 0 6) = v at v5 v6 vo ⊢
  have eBv : mB v = mB t := by
    show cn (v 5002 900) = _
    rw [vo _ (by decide) (by decide) (by decide)]
  have c6 : ∀ j, j < 6 → c j ≤ 6 := fun j hj => Nat.le_trans (c1.1 j hj) (hp6 j hj)
  have cB : ∀ j, j < 6 → c j ≠ 0 → j < mB t ∧ c j - 1 < mpk t j := fun j hj hne => by
    have := c1.1 j hj
    exact pkB_lt (k := c j - 1) (by omega)
  have wk : ∀ r, r < mR t → ∀ j, j < 6 → wK v r j = cDg (Dm t) r c j := fun r hr j hj => by
    obtain ⟨e1, e2⟩ := rwc_at (c6 j hj)
    unfold wK cDg
    rw [eBv, v5 j hj, c3 j hj, vo _ (by omega) (by omega) (by omega)]
    by_cases z : c j = 0
    · rw [if_pos z, if_neg (fun q => q.2 (by rw [z]; rfl))]
    · obtain ⟨f1, f2, f3, f4⟩ := e2 z
      rw [if_neg z, if_pos ⟨(cB j hj z).1, f4⟩, f3]
      rfl
  have H := give_sim (σ := s) (τ := t) (v := v) (w := wK v) (nb := nbK t) (sp := spc) (sp2 := msp t) (R := mR t) (B := mB t) hR5 hB6 (fun r hr j hj => by
    unfold cbw
    rw [(won_c P hp6 c1.1 (c3 j hj) hj).2 r hr (by omega), wk r hr j hj, cn_nI]
    have : cDg (Dm t) r c j ≤ 5 := by
      unfold cDg Dm
      split
      · omega
      · exact dgt_le
    omega) (fun r hr j hj => by
    refine ⟨?_, fun hb => ?_, fun _ e => ?_, fun hb e => ?_⟩
    · unfold wK
      split
      · exact dgt_le
      · omega
    · exact if_neg (fun q => by have := q.1; omega)
    · exact if_neg (fun q => q.2 e)
    · have e9 : wK v r j = dgt (v (5030 + j) (2 * cn (v 5005 j))) r := if_pos ⟨by rw [eBv]; exact hb, e⟩
      rw [e9]
      unfold f_Bcode
      refine of_d ?_ (by omega)
      rw [v5 j hj, c3 j hj] at e ⊢
      have z : c j ≠ 0 := fun z => e (by rw [z]; rfl)
      obtain ⟨f1, f2, f3, f4⟩ := (rwc_at (c6 j hj)).2 z
      rw [f3, vo _ (by omega) (by omega) (by omega)]
      exact ((F.2.2.2 j hb).2.2 _ (cB j hj z).2).1) (fun o ho => ⟨(hsp o ho).symm, by rw [hsp o ho]; exact (F.2.1 o ho).2⟩) (fun r o hr ho => by
    rw [nb_eq (by omega), hn r (by omega)]
    unfold nbK
    cases bt (t (5010 + r) 3) o
    · exact ⟨fun _ => rfl, fun _ z => by cases z⟩
    · exact ⟨fun z => absurd rfl z, fun z => by cases z⟩) (fun r o hr ho => (b_tst1 (by omega)).1)
  obtain ⟨k1, k2, k3⟩ := H
  generalize x_Mkeep_45 t (mB t) (mR t) (msp t) v = u at k1 k2 k3 ⊢
  have uq : ∀ q, q < 9000 → u2 (u2 u 9000 20 0) 20000 20 0 q = u q := fun q hq => by rw [u2_ne (by omega), u2_ne (by omega)]
  have uv : ∀ q, q ≠ 5007 → q < 9000 → u2 (u2 u 9000 20 0) 20000 20 0 q = v q := fun q h1 h2 => by rw [uq q h2, k3 q h1]
  generalize u2 (u2 u 9000 20 0) 20000 20 0 = z at uq uv ⊢
  have eR : mR z = mR t := by
    show cn (z 5001 900) = _
    rw [uv _ (by decide) (by decide), vo _ (by decide) (by decide) (by decide)]
  have eK : wK z = wK v := funext fun r => funext fun j => by
    unfold wK
    rw [show mB z = mB v by show cn (z 5002 900) = _; rw [uv _ (by decide) (by decide)], uv 5005 (by decide) (by decide)]
    by_cases l : j < mB v ∧ v 5005 j ≠ -1
    · rw [eBv] at l
      rw [uv (5030 + j) (by omega) (by omega)]
    · rw [if_neg l, if_neg l]
  have eT : mtn z = fun o => cn (u 5007 o) := funext fun o => by
    show cn (z 5007 o) = _
    rw [uq _ (by decide)]
  have eN : ∀ r o, r < 5 → nbK z r o = nbK t r o := fun r o hr => by
    unfold nbK
    rw [uv _ (by omega) (by omega), vo _ (by omega) (by omega) (by omega)]
  have eS : ∀ r, r < mR t → msp z r = spc r := fun r hr => by
    show cn (z (5010 + r) 0) = _
    rw [uv _ (by omega) (by omega), vo _ (by omega) (by omega) (by omega), hsp r hr]
  refine ⟨⟨fun j hj => by rw [uv _ (by decide) (by decide)]; exact v5 j hj, fun j hj => by rw [uv _ (by decide) (by decide)]; exact v6 j hj⟩, fun r hr b hb => ?_, ?_⟩
  · rw [eR] at hr
    rw [eK, eT, eS r hr]
    exact (k1 r hr).2.2 b hb
  · rw [k2, eR, eK, eT]
    congr 1
    refine nsum_cg fun o ho => nsum_cg fun o2 ho2 => ?_
    unfold clN
    rw [eN o o2 (by omega), eS o (by omega), eS o2 (by omega)]
end
end
section
/-! ===== who may tell a package, alike on both sides ===== -/
section
variable {τ σ : XS9} {x y z v : Int32} {R B i : Nat} {q : Nat → Nat} {cap : Nat}
theorem within_go (hy : bd 7775 y) {f : Nat → Int32} {N : Nat} (hf : ∀ r, r < N → f r = nI (q r) ∧ q r ≤ 5) : ∀ (n k : Nat), k + n = N → (∀ r, r < k → dgt y r ≤ q r) → ((match xitR (fun i4 (s4 : Int32) => (if (s4 - s4 / 6 * 6) ≤ (f i4) then (.inl (s4 / 6) : Int32 ⊕ Int32) else .inr 0)) n k (nI (cn y / 6 ^ k)) with | .inl _ => (1 : Int32) | .inr r4 => r4) = 0 ↔ ¬ ∀ r, r < N → dgt y r ≤ q r)
  | 0, k, e, h => by
    obtain rfl : k = N := by omega
    exact ⟨fun w => absurd (show (1 : Int32) = 0 from w) (by decide), fun w => absurd h w⟩
  | n + 1, k, e, h => by
    obtain ⟨f1, f2⟩ := hf k (by omega)
    obtain ⟨e1, e2⟩ := at6 (k := k) hy
    have d5 := dgt_le (c := y) (r := k)
    unfold xitR
    (try dsimp only)
    rw [e1, e2, f1]
    by_cases c : dgt y k ≤ q k
    · rw [if_pos ((nle (by omega) (by omega)).mpr c)]
      exact within_go hy hf n (k + 1) (by omega) (fun r hr => by
        by_cases e3 : r = k
        · rw [e3]
          exact c
        · exact h r (by omega))
    · rw [if_neg (fun w => c ((nle (by omega) (by omega)).mp w))]
      exact ⟨fun _ w => c (w k (by omega)), fun _ => rfl⟩
theorem within_eq (hy : bd 7775 y) {f : Nat → Int32} {N : Nat} (hf : ∀ r, r < N → f r = nI (q r) ∧ q r ≤ 5) : f_isWithin y N f = 0 ↔ ¬ ∀ r, r < N → dgt y r ≤ q r := by
  have := within_go hy hf N 0 (Nat.zero_add _) (fun r hr => absurd hr (by omega))
  rw [Nat.pow_zero, Nat.div_one, ← hy.1] at this
  exact this
theorem cap_eq (hy : bd 7775 y) (hR5 : R ≤ 5) (hc : σ 1001 10 = nI cap) (hc5 : cap ≤ 5) : f_isWithinCap σ y R = 0 ↔ ¬ ∀ r, r < R → dgt y r ≤ cap := by
  have H : ∀ (n k : Nat), k + n = R → (∀ r, r < k → dgt y r ≤ cap) → ((match xitR (fun i2 (s2 : Unit) => (if (f_many y i2) ≤ (σ 1001 10) then (.inl () : Unit ⊕ Int32) else .inr 0)) n k () with | .inl _ => (1 : Int32) | .inr r2 => r2) = 0 ↔ ¬ ∀ r, r < R → dgt y r ≤ cap) := by
    intro n
    induction n with
    | zero =>
      intro k e h
      obtain rfl : k = R := by omega
      exact ⟨fun w => absurd (show (1 : Int32) = 0 from w) (by decide), fun w => absurd h w⟩
    | succ n ih =>
      intro k e h
      have d5 := dgt_le (c := y) (r := k)
      unfold xitR
      (try dsimp only)
      rw [many_d hy (by omega), hc]
      by_cases c : dgt y k ≤ cap
      · rw [if_pos ((nle (by omega) (by omega)).mpr c)]
        have := ih (k + 1) (by omega) (fun r hr => by
          by_cases e3 : r = k
          · rw [e3]
            exact c
          · exact h r (by omega))
        rw [hc] at this
        exact this
      · rw [if_neg (fun w => c ((nle (by omega) (by omega)).mp w))]
        exact ⟨fun _ w => c (w k (by omega)), fun _ => rfl⟩
  exact H R 0 (Nat.zero_add _) (fun r hr => absurd hr (by omega))
/-- the least that may be told -/
def lstT (τ : XS9) (y : Int32) (R : Nat) : Nat := nsum (fun r => dgt y r * cn (τ (5010 + r) 2)) R
theorem lst_le (p : JP τ) (hR5 : R ≤ 5) : lstT τ y R ≤ 24975 := by
  have := nsum_le (d := fun r => dgt y r * cn (τ (5010 + r) 2)) (k := 4995) (N := R) fun r hr => by
    have h1 := dgt_le (c := y) (r := r)
    have h2 := (p.1 r (by omega)).2
    (try dsimp only)
    calc dgt y r * cn (τ (5010 + r) 2) ≤ 5 * 999 := Nat.mul_le_mul h1 h2
      _ ≤ 4995 := by decide
  unfold lstT
  omega
theorem tot_eq (hy : bd 7775 y) (p : JP τ) (hR5 : R ≤ 5) (hs : ∀ r, r < 5 → σ 1012 r = τ (5010 + r) 2) (hz : ∀ r, R ≤ r → r < 5 → τ (5010 + r) 2 = 0) : f_total y 5 (σ 1012) = nI (lstT τ y R) := by
  rw [total_x, xsum_n (d := fun r => dgt y r * cn (τ (5010 + r) 2)) (fun r hr => by
    (try dsimp only)
    rw [many_d hy hr, hs r hr, (p.1 r hr).1, nI_mul, ← (p.1 r hr).1])]
  congr 1
  exact nsum_cut (fun r h1 h2 => by
    (try dsimp only)
    rw [hz r h1 h2]
    exact Nat.mul_zero _) hR5
theorem off_m (hy : bd 7775 y) (p : JP τ) (hR5 : R ≤ 5) (hq : ∀ r, r < R → τ (5010 + r) 0 = nI (q r) ∧ q r ≤ 5) (hc : τ 5000 2 = nI cap) (hc5 : cap ≤ 5) : ((x_Moffer_104 τ y R (1, Int64.ofNat (0 : Fin 2))).1 = 0 ↔ ¬ ∀ r, r < R → dgt y r ≤ q r ∧ dgt y r ≤ cap) ∧ (x_Moffer_104 τ y R (1, Int64.ofNat (0 : Fin 2))).2 = Int64.ofNat (lstT τ y R) := by
  have H := xit_ind (step := fun i104 (s104 : Int32 × Int64) => (if (if (τ (5010 + i104) 0) < (τ 5000 2) then (τ (5010 + i104) 0) else (τ 5000 2)) < (f_of y i104) then (s104.1 &&& 0, s104.2 + ((Int32.toInt64 (f_of y i104)) * (Int32.toInt64 (τ (5010 + i104) 2)))) else (s104.1 &&& 1, s104.2 + ((Int32.toInt64 (f_of y i104)) * (Int32.toInt64 (τ (5010 + i104) 2)))))) (fun k u => ((u.1 = 1 ∧ ∀ r, r < k → dgt y r ≤ q r ∧ dgt y r ≤ cap) ∨ (u.1 = 0 ∧ ¬ ∀ r, r < k → dgt y r ≤ q r ∧ dgt y r ≤ cap)) ∧ u.2 = Int64.ofNat (lstT τ y k)) (N := R) (fun k u hk hP => ?_) R 0 (1, Int64.ofNat (0 : Fin 2)) (Nat.zero_add _) ⟨.inl ⟨rfl, fun r hr => absurd hr (by omega)⟩, rfl⟩
  · refine ⟨?_, H.2⟩
    rcases H.1 with ⟨h1, h2⟩ | ⟨h1, h2⟩
    · exact ⟨fun w => absurd (h1.symm.trans w) (by decide), fun w => absurd h2 w⟩
    · exact ⟨fun _ => h2, fun _ => h1⟩
  · obtain ⟨u1, u2'⟩ := hP
    obtain ⟨q1, q2⟩ := hq k hk
    have d5 := dgt_le (c := y) (r := k)
    have s9 := p.1 k (by omega)
    have ed : Int32.toInt64 (f_of y k) * Int32.toInt64 (τ (5010 + k) 2) = Int64.ofNat (dgt y k * cn (τ (5010 + k) 2)) := by
      have s92 := s9.2
      have m9 : Int32.maxValue.toInt = 2147483647 := rfl
      have t1 : Int32.toInt64 (nI (dgt y k)) = Int64.ofNat (dgt y k) := Int32.toInt64_ofNat' (by rw [m9]; omega)
      have t2 : Int32.toInt64 (nI (cn (τ (5010 + k) 2))) = Int64.ofNat (cn (τ (5010 + k) 2)) := Int32.toInt64_ofNat' (by rw [m9]; omega)
      rw [← s9.1] at t2
      rw [of_d hy (by omega), t1, t2, Int64.ofNat_mul]
    have es : u.2 + Int32.toInt64 (f_of y k) * Int32.toInt64 (τ (5010 + k) 2) = Int64.ofNat (lstT τ y (k + 1)) := by
      rw [ed, u2', ← Int64.ofNat_add]
      rfl
    have cond : ((if (τ (5010 + k) 0) < (τ 5000 2) then (τ (5010 + k) 0) else (τ 5000 2)) < (f_of y k)) ↔ ¬ (dgt y k ≤ q k ∧ dgt y k ≤ cap) := by
      rw [q1, hc, of_d hy (by omega)]
      by_cases c : q k < cap
      · rw [if_pos ((nlt (by omega) (by omega)).mpr c), nlt (by omega) (by omega)]
        omega
      · rw [if_neg (fun w => c ((nlt (by omega) (by omega)).mp w)), nlt (by omega) (by omega)]
        omega
    (try dsimp only)
    by_cases c : dgt y k ≤ q k ∧ dgt y k ≤ cap
    · rw [if_neg (fun w => cond.mp w c)]
      refine ⟨?_, es⟩
      rcases u1 with ⟨h1, h2⟩ | ⟨h1, h2⟩
      · refine .inl ⟨by show u.1 &&& 1 = 1; rw [h1]; decide, fun r hr => ?_⟩
        by_cases e : r = k
        · rw [e]
          exact c
        · exact h2 r (by omega)
      · exact .inr ⟨by show u.1 &&& 1 = 0; rw [h1]; decide, fun w => h2 fun r hr => w r (by omega)⟩
    · rw [if_pos (cond.mpr c)]
      exact ⟨.inr ⟨Int32.and_zero, fun w => c (w k (by omega))⟩, es⟩
theorem cmp_ok {n L : Nat} (hn : n < 1000000) (hL : L < 1000000) : 0 ≤ lg_cmp (Int32.toInt64 (nI n)) (Int64.ofNat L) ↔ L ≤ n := by
  have a : (Int32.toInt64 (nI n)).toInt = (n : Int) := by rw [Int32.toInt_toInt64, toI_nI (by omega)]
  have b : (Int64.ofNat L).toInt = (L : Int) := Int64.toInt_ofNat_of_lt (by omega)
  unfold lg_cmp
  by_cases c1 : Int32.toInt64 (nI n) > Int64.ofNat L
  · rw [if_pos c1]
    have := Int64.lt_iff_toInt_lt.mp c1
    exact ⟨fun _ => by omega, fun _ => by decide⟩
  · rw [if_neg c1]
    have c1 : ¬ L < n := fun w => c1 (Int64.lt_iff_toInt_lt.mpr (by rw [a, b]; omega))
    by_cases c2 : Int32.toInt64 (nI n) = Int64.ofNat L
    · rw [if_pos c2]
      have := congrArg Int64.toInt c2
      exact ⟨fun _ => by omega, fun _ => by decide⟩
    · rw [if_neg c2]
      refine ⟨fun w => absurd w (by decide), fun w => absurd (Int64.toInt_inj.mp ?_) c2⟩
      rw [a, b]
      omega
/-- the same packages are let -/
theorem may_off (a : RA τ σ) (r : JR τ) (p : JP τ) (z9 : RZ τ) (k : RK τ σ) (hi : i < mB τ) (hy : bd 7775 y) (hy2 : cn y < 6 ^ mR τ) (hz : 0 ≤ z) : f_mayOffer σ i y z (mR τ) = 0 ↔ (y ≤ 0 ∨ τ (5020 + i) 0 < z ∨ (x_Moffer_104 τ y (mR τ) (1, Int64.ofNat (0 : Fin 2))).1 = 0 ∨ ¬ 0 ≤ lg_cmp (Int32.toInt64 z) ((x_Moffer_104 τ y (mR τ) (1, Int64.ofNat (0 : Fin 2))).2)) := by
  have hR5 := r.hR.2
  have hB6 := r.hB.2
  obtain ⟨o1, o2⟩ := off_m (q := msp τ) (cap := cn (τ 5000 2)) hy p hR5 (fun q hq => r.hsp q hq) k.mx.1 k.mx.2
  have zhi : ∀ q, mR τ ≤ q → q < 5 → dgt y q = 0 := fun q h1 h2 => by
    unfold dgt
    rw [Nat.div_eq_of_lt (Nat.lt_of_lt_of_le hy2 (Nat.pow_le_pow_right (by decide) h1))]
  have w5 := within_eq (q := fun q => if q < mR τ then msp τ q else 0) (f := σ 1010) (N := 5) hy (fun q hq => by
    rw [(a.2.1 q hq).1]
    (try dsimp only)
    split
    · rename_i l
      exact r.hsp q l
    · rename_i l
      exact ⟨(z9 q (Nat.not_lt.mp l) hq).1, by omega⟩)
  have wc := cap_eq (σ := σ) hy hR5 (a.1.2.1.trans k.mx.1) k.mx.2
  have tt := tot_eq (σ := σ) hy p hR5 (fun q hq => (a.2.1 q hq).2.2.1) (fun q h1 h2 => (z9 q h1 h2).2.2)
  have ll := lst_le (y := y) p hR5
  have bz := p.2.1 i (by omega)
  have y0 : y ≤ 0 ↔ y = 0 := by
    refine ⟨fun w => ?_, fun w => by rw [w]; exact Int32.le_refl _⟩
    have h2 := hy.2
    rw [hy.1] at w ⊢
    rw [(nI_le0 (by omega)).mp w]
    rfl
  rw [o2, y0]
  unfold f_mayOffer
  rw [tt, (a.2.2.1 i (by omega)).1]
  by_cases c1 : y = 0
  · rw [if_pos c1]
    exact ⟨fun _ => .inl c1, fun _ => rfl⟩
  · rw [if_neg c1]
    by_cases c4 : τ (5020 + i) 0 < z
    · refine ⟨fun _ => .inr (.inl c4), fun _ => ?_⟩
      (repeat' split) <;> first | rfl | contradiction
    · have zb : bd 99999 z := bd.leq bz (by decide) hz c4 (Nat.le_refl _)
      have zb2 := zb.2
      have cm := cmp_ok (n := cn z) (L := lstT τ y (mR τ)) (by omega) (by omega)
      rw [← zb.1] at cm
      have lt : z < nI (lstT τ y (mR τ)) ↔ ¬ lstT τ y (mR τ) ≤ cn z := by
        have := nlt (a := cn z) (b := lstT τ y (mR τ)) (by omega) (by omega)
        rw [← zb.1] at this
        rw [this]
        omega
      by_cases c2 : ∀ q, q < mR τ → dgt y q ≤ msp τ q ∧ dgt y q ≤ cn (τ 5000 2)
      · have n1 : ¬ f_isWithin y 5 (σ 1010) = 0 := fun w => w5.mp w fun q hq => by
          (try dsimp only)
          split
          · rename_i l
            exact (c2 q l).1
          · rename_i l
            rw [zhi q (by omega) hq]
            exact Nat.le_refl _
        have n2 : ¬ f_isWithinCap σ y (mR τ) = 0 := fun w => wc.mp w fun q hq => (c2 q hq).2
        have n3 : ¬ (x_Moffer_104 τ y (mR τ) (1, Int64.ofNat (0 : Fin 2))).1 = 0 := fun w => o1.mp w c2
        rw [if_neg n1, if_neg n2, cm]
        by_cases c3 : lstT τ y (mR τ) ≤ cn z
        · rw [if_neg (fun w => lt.mp w c3), if_neg c4]
          refine ⟨fun w => absurd w (by decide), fun w => ?_⟩
          rcases w with w | w | w | w
          · exact absurd w c1
          · exact absurd w c4
          · exact absurd w n3
          · exact absurd c3 w
        · rw [if_pos (lt.mpr c3)]
          exact ⟨fun _ => .inr (.inr (.inr c3)), fun _ => rfl⟩
      · refine ⟨fun _ => .inr (.inr (.inl (o1.mpr c2))), fun _ => ?_⟩
        by_cases n1 : f_isWithin y 5 (σ 1010) = 0
        · rw [if_pos n1]
        · rw [if_neg n1]
          have n2 : f_isWithinCap σ y (mR τ) = 0 := wc.mpr fun w => c2 fun q hq => by
            have h1 : ∀ q, q < 5 → dgt y q ≤ (if q < mR τ then msp τ q else 0) := Classical.byContradiction fun n => n1 (w5.mpr n)
            have h1 := h1 q (by omega)
            rw [if_pos hq] at h1
            exact ⟨h1, w q hq⟩
          rw [if_pos n2]
theorem code_eq (r : JR τ) : f_isCode σ y (mR τ) = 0 ↔ (y < 0 ∨ f_power (mR τ) ≤ y) := by
  have e : x_isCode_4 σ y (mR τ) 1 = f_power (mR τ) := rfl
  unfold f_isCode
  rw [e]
  by_cases c1 : y < 0
  · rw [if_pos c1]
    exact ⟨fun _ => .inl c1, fun _ => rfl⟩
  · rw [if_neg c1]
    by_cases c2 : f_power (mR τ) ≤ y
    · rw [if_pos c2]
      exact ⟨fun _ => .inr c2, fun _ => rfl⟩
    · rw [if_neg c2]
      exact ⟨fun w => absurd w (by decide), fun w => w.elim (fun w => absurd w c1) (fun w => absurd w c2)⟩
theorem pow_nI : ∀ R, R ≤ 5 → f_power R = nI (6 ^ R) := by
  intro R hR
  match R, hR with
  | 0, _ => rfl
  | 1, _ => rfl
  | 2, _ => rfl
  | 3, _ => rfl
  | 4, _ => rfl
  | 5, _ => rfl
theorem code_bd (r : JR τ) (h1 : ¬ y < 0) (h2 : ¬ f_power (mR τ) ≤ y) : bd 7775 y ∧ cn y < 6 ^ mR τ := by
  have hR5 := r.hR.2
  obtain ⟨e1, e2⟩ := cn_of (Int32.not_lt.mp h1)
  have p5 : 6 ^ mR τ ≤ 7776 := by
    have := Nat.pow_le_pow_right (n := 6) (by decide) hR5
    exact this
  rw [pow_nI _ hR5, e1] at h2
  have yl : y.toInt < 2 ^ 31 := y.toInt_lt
  have h3 : ¬ 6 ^ mR τ ≤ cn y := fun w => h2 ((nle (by omega) (by omega)).mpr w)
  exact ⟨⟨e1, by omega⟩, by omega⟩
end
end
