/-! ===== pure facts: the payments come to an end ===== -/
theorem xitB_fin {S : Type} {step : Nat → S → S ⊕ S} (P : Nat → S → Prop) (Q : S → Prop) {N : Nat} (h : ∀ i s, i < N → P i s → (∀ s', step i s = .inl s' → P (i + 1) s') ∧ ∀ s', step i s = .inr s' → Q s') (he : ∀ s, P N s → Q s) : ∀ (f i : Nat) (s : S), i + f = N → P i s → Q (xitB step f i s)
  | 0, i, s, e, hP => he s (by rw [show N = i by omega]; exact hP)
  | f + 1, i, s, e, hP => by
    unfold xitB
    split
    · rename_i s' e'
      exact xitB_fin P Q h he f (i + 1) s' (by omega) ((h i s (by omega) hP).1 s' e')
    · rename_i s' e'
      exact (h i s (by omega) hP).2 s' e'
theorem xitR_term {S R : Type} {step : Nat → S → S ⊕ R} (P : S → Prop) (M : S → Nat) (h : ∀ i s s', P s → step i s = .inl s' → P s' ∧ M s' < M s) : ∀ (f i : Nat) (s : S), P s → M s < f → ∃ r, xitR step f i s = .inr r
  | 0, i, s, hP, hM => absurd hM (Nat.not_lt_zero _)
  | f + 1, i, s, hP, hM => by
    unfold xitR
    split
    · rename_i s' e'
      obtain ⟨h1, h2⟩ := h i s s' hP e'
      exact xitR_term P M h f (i + 1) s' h1 (by omega)
    · rename_i r e'
      exact ⟨r, rfl⟩
def isum (T : Nat → Int) : Nat → Nat → Int
  | 0, _ => 0
  | f + 1, i => T i + isum T f (i + 1)
theorem isum_back {T : Nat → Int} : ∀ f i, isum T (f + 1) i = isum T f i + T (i + f)
  | 0, i => by
    show T i + 0 = 0 + T (i + 0)
    rw [Nat.add_zero]
    omega
  | f + 1, i => by
    show T i + isum T (f + 1) (i + 1) = (T i + isum T f (i + 1)) + T (i + (f + 1))
    rw [isum_back f (i + 1), show i + 1 + f = i + (f + 1) by omega]
    omega
theorem isum_le {T U : Nat → Int} : ∀ f i, (∀ k, i ≤ k → k < i + f → T k ≤ U k) → isum T f i ≤ isum U f i
  | 0, _, _ => Int.le_refl _
  | f + 1, i, h => by
    have h1 := isum_le f (i + 1) (fun k a b => h k (by omega) (by omega))
    have h2 := h i (by omega) (by omega)
    show T i + isum T f (i + 1) ≤ U i + isum U f (i + 1)
    omega
theorem isum_const {c : Int} : ∀ f i, isum (fun _ => c) f i = c * f
  | 0, _ => by
    show (0 : Int) = c * ((0 : Nat) : Int)
    simp
  | f + 1, i => by
    show c + isum (fun _ => c) f (i + 1) = c * ((f + 1 : Nat) : Int)
    rw [isum_const f (i + 1), Int.natCast_add, Int.mul_add]
    have : c * ((1 : Nat) : Int) = c := by simp
    omega
theorem isum_cg {T U : Nat → Int} : ∀ f i, (∀ k, i ≤ k → k < i + f → T k = U k) → isum T f i = isum U f i
  | 0, _, _ => rfl
  | f + 1, i, h => by
    show T i + isum T f (i + 1) = U i + isum U f (i + 1)
    rw [h i (by omega) (by omega), isum_cg f (i + 1) (fun k a b => h k (by omega) (by omega))]
theorem isum_dec {T U : Nat → Int} {j : Nat} (hj : U j + 1 ≤ T j) : ∀ f i, i ≤ j → j < i + f → (∀ k, i ≤ k → k < i + f → U k ≤ T k) → isum U f i + 1 ≤ isum T f i
  | 0, i, h1, h2, h => absurd h2 (by omega)
  | f + 1, i, h1, h2, h => by
    show (U i + isum U f (i + 1)) + 1 ≤ T i + isum T f (i + 1)
    by_cases e : i = j
    · subst e
      have := isum_le f (i + 1) (fun k a b => h k (by omega) (by omega))
      omega
    · have := isum_dec hj f (i + 1) (by omega) (by omega) (fun k a b => h k (by omega) (by omega))
      have h3 := h i (by omega) (by omega)
      omega
theorem psum_is {s : XS9} {row : Nat → Int32} : ∀ n, psum s row n = isum (fun j => (pv s row j).toInt) n 0
  | 0 => rfl
  | n + 1 => by
    rw [isum_back n 0, Nat.zero_add]
    show psum s row n + (pv s row n).toInt = _
    rw [psum_is n]
theorem xit_sub {step : Nat → Int32 → Int32} {t : Nat → Int32} (hs : ∀ i a, step i a = a - t i) (f : Nat) : ∀ (i : Nat) (a : Int32), (∀ k, i ≤ k → k < i + f → -3000000 ≤ (t k).toInt ∧ (t k).toInt ≤ 3000000) → f ≤ 6 → -20000000 + 3000000 * (f : Int) ≤ a.toInt → a.toInt ≤ 20000000 - 3000000 * (f : Int) → (xit step f i a).toInt = a.toInt - isum (fun k => (t k).toInt) f i := by
  induction f with
  | zero =>
    intro i a h hf h1 h2
    exact (Int.sub_zero a.toInt).symm
  | succ f ih =>
    intro i a h hf h1 h2
    have b := h i (by omega) (by omega)
    have e : (a - t i).toInt = a.toInt - (t i).toInt := i32_sub (by omega) (by omega)
    show (xit step f (i + 1) (step i a)).toInt = a.toInt - ((t i).toInt + isum (fun k => (t k).toInt) f (i + 1))
    rw [hs, ih (i + 1) (a - t i) (fun k x y => h k (by omega) (by omega)) (by omega) (by rw [e]; omega) (by rw [e]; omega), e]
    omega
/-- what is left to pay of an amount -/
def pleft (s : XS9) (qa j : Nat) : Int := if s 9001 j = -1 then 0 else if (s qa j).toInt < (f_Camount s j).toInt then (f_Camount s j).toInt - (s qa j).toInt else 0
def PYI (s0 : XS9) (B qa : Nat) (s : XS9) : Prop := (∀ q, q ≠ qa → s q = s0 q) ∧ ∀ j, j < B → -2000000 ≤ (s qa j).toInt ∧ (s qa j).toInt ≤ 2200000
def PYM (B qa : Nat) (s : XS9) : Int := isum (pleft s qa) B 0
section
variable {s0 s : XS9} {B qa S : Nat} {pk : Nat → Nat}
theorem cam_eq {j : Nat} : f_Camount s j = pv s (s 9001) j := rfl
theorem CHO.am (h : CHO B pk s) (ha : AMs s) (hpk : ∀ j, j < B → pk j ≤ 6) (hB6 : B ≤ 6) {j : Nat} (hj : j < B) : 0 ≤ (f_Camount s j).toInt ∧ (f_Camount s j).toInt ≤ 300000 := by
  obtain ⟨m, h1, h2, h3, h4⟩ := h
  rw [cam_eq]
  exact pv_int ha hpk hB6 h3 (Nat.le_refl B) hj
theorem pleft_0 {j : Nat} : 0 ≤ pleft s qa j := by
  unfold pleft
  split
  · exact Int.le_refl _
  · split <;> omega
theorem PYM_0 : 0 ≤ PYM B qa s := by
  have := isum_le (T := fun _ => 0) (U := pleft s qa) B 0 (fun k _ _ => pleft_0)
  rw [isum_const] at this
  unfold PYM
  omega
/-- one who could pay more -/
def elig (s : XS9) (S qa j : Nat) : Prop := ¬ (((nI S) >>> ((nI j) &&& 31)) &&& 1) = 1 ∧ ¬ s 9001 j = -1 ∧ s qa j < f_Camount s j
theorem PYI.some (hq : 20000 ≤ qa) (h : PYI s0 B qa s) (hc : CHO B pk s) (ha : AMs s) (hpk : ∀ j, j < B → pk j ≤ 6) (hB6 : B ≤ 6) (hS : S < 64) (ho : 0 < f_Cobjection s S qa B) : ∃ j, j < B ∧ elig s S qa j := by
  rcases Classical.em (∃ j, j < B ∧ elig s S qa j) with y | n
  · exact y
  · exfalso
    have n : ∀ j, j < B → ¬ elig s S qa j := fun j hj e => n ⟨j, hj, e⟩
    have am := fun j hj => hc.am ha hpk hB6 (j := j) hj
    obtain ⟨m, h1, h2, h3, h4⟩ := hc
    let t : Nat → Int32 := fun j => if (((nI S) >>> ((nI j) &&& 31)) &&& 1) = 1 then f_Camount s j else if s 9001 j = -1 then 0 else s qa j
    have tb : ∀ j, j < B → -3000000 ≤ (t j).toInt ∧ (t j).toInt ≤ 3000000 ∧ (f_Camount s j).toInt ≤ (t j).toInt := fun j hj => by
      have a := am j hj
      have p := h.2 j hj
      have nj := n j hj
      unfold elig at nj
      show -3000000 ≤ (if (((nI S) >>> ((nI j) &&& 31)) &&& 1) = 1 then f_Camount s j else if s 9001 j = -1 then 0 else s qa j).toInt ∧ (if (((nI S) >>> ((nI j) &&& 31)) &&& 1) = 1 then f_Camount s j else if s 9001 j = -1 then 0 else s qa j).toInt ≤ 3000000 ∧ (f_Camount s j).toInt ≤ (if (((nI S) >>> ((nI j) &&& 31)) &&& 1) = 1 then f_Camount s j else if s 9001 j = -1 then 0 else s qa j).toInt
      by_cases e1 : (((nI S) >>> ((nI j) &&& 31)) &&& 1) = 1
      · rw [if_pos e1]
        omega
      · rw [if_neg e1]
        by_cases e2 : s 9001 j = -1
        · have z : f_Camount s j = 0 := if_pos e2
          rw [if_pos e2, z]
          decide
        · rw [if_neg e2]
          have e3 : ¬ s qa j < f_Camount s j := fun q => nj ⟨e1, e2, q⟩
          rw [i_ltI] at e3
          omega
    have hw := h2 S hS
    have e : (f_Cobjection s S qa B).toInt = (s 9003 S).toInt - isum (fun k => (t k).toInt) B 0 := by
      unfold f_Cobjection x_Cobjection_9 f_Cworth
      refine xit_sub (t := t) (fun i a => ?_) B 0 (s 9003 S) (fun k _ hk => ⟨(tb k (by omega)).1, (tb k (by omega)).2.1⟩) hB6 (by omega) (by omega)
      show (if (((nI S) >>> ((nI i) &&& 31)) &&& 1) = 1 then a - (f_Camount s i) else (if (s 9001 i) = (-1) then a - 0 else a - (s qa i))) = a - (if (((nI S) >>> ((nI i) &&& 31)) &&& 1) = 1 then f_Camount s i else if s 9001 i = -1 then 0 else s qa i)
      split
      · rfl
      · split
        · rfl
        · rfl
    have l := isum_le (T := fun j => (pv s (s 9001) j).toInt) (U := fun k => (t k).toInt) B 0 (fun k _ hk => (tb k (by omega)).2.2)
    rw [← psum_is, h4] at l
    have ho := i_ltI.mp ho
    have z : (0 : Int32).toInt = 0 := by decide
    omega
theorem cam_up (hq : 20000 ≤ qa) {i j : Nat} {v : Int32} (hj : j < 6) : f_Camount (u2 s qa i v) j = f_Camount s j := by
  unfold f_Camount f_Bamount
  rw [u2_ne (show (9001 : Nat) ≠ qa by omega), u2_ne (show 5030 + j ≠ qa by omega)]
theorem PYI.up (hq : 20000 ≤ qa) (h : PYI s0 B qa s) (hB6 : B ≤ 6) (am : ∀ j, j < B → (f_Camount s j).toInt ≤ 300000) {i : Nat} (hi : i < B) (h2 : ¬ s 9001 i = -1) (h3 : s qa i < f_Camount s i) : PYI s0 B qa (u2 s qa i (s qa i + 1)) ∧ PYM B qa (u2 s qa i (s qa i + 1)) + 1 ≤ PYM B qa s := by
  have a := am i hi
  have p := h.2 i hi
  have h3 := i_ltI.mp h3
  have e1 : (s qa i + 1).toInt = (s qa i).toInt + 1 := i32_add (b := 1) (by show _ ≤ _ + (1 : Int); omega) (by show _ + (1 : Int) ≤ _; omega)
  refine ⟨⟨fun q hq9 => ?_, fun j hj => ?_⟩, ?_⟩
  · rw [u2_ne hq9]
    exact h.1 q hq9
  · by_cases e : j = i
    · subst e
      rw [u2_at, e1]
      omega
    · rw [u2_oi e]
      exact h.2 j hj
  · unfold PYM
    refine isum_dec (j := i) ?_ B 0 (Nat.zero_le _) (by omega) (fun k _ hk => ?_)
    · unfold pleft
      rw [cam_up hq (by omega), u2_ne (show (9001 : Nat) ≠ qa by omega), if_neg h2, if_neg h2, u2_at, e1, if_pos h3]
      split <;> omega
    · by_cases e : k = i
      · subst e
        unfold pleft
        rw [cam_up hq (by omega), u2_ne (show (9001 : Nat) ≠ qa by omega), if_neg h2, if_neg h2, u2_at, e1, if_pos h3]
        split <;> omega
      · unfold pleft
        rw [cam_up hq (by omega), u2_ne (show (9001 : Nat) ≠ qa by omega), u2_oi e]
        exact Int.le_refl _
/-- one pass of a raise -/
theorem PYI.pass (hq : 20000 ≤ qa) (hB6 : B ≤ 6) {σ : XS9} {x : Nat} {s6 : XS9 × Nat × Int32} {t0 : XS9 × Nat × Int32} (e9 : ∀ i, t0.1 9001 i = σ 9001 i) (am : ∀ j, j < B → (f_Camount t0.1 j).toInt ≤ 300000) (hl : t0.2.1 < 2147483648) (h : PYI s0 B qa t0.1) :
    PYI s0 B qa (x_Craise_22 σ S x qa B s6 t0).1 ∧ (PYM B qa (x_Craise_22 σ S x qa B s6 t0).1 + 1 ≤ PYM B qa t0.1 ∨ ((x_Craise_22 σ S x qa B s6 t0).1 = t0.1 ∧ (t0.2.1 = 0 ∨ ∀ j, j < B → ¬ elig t0.1 S qa j))) := by
  unfold x_Craise_22
  refine xitB_fin (fun i t => PYI s0 B qa t.1 ∧ (PYM B qa t.1 + 1 ≤ PYM B qa t0.1 ∨ (t.1 = t0.1 ∧ t.2.1 = t0.2.1 ∧ ∀ j, j < i → ¬ elig t0.1 S qa j))) (fun t => PYI s0 B qa t.1 ∧ (PYM B qa t.1 + 1 ≤ PYM B qa t0.1 ∨ (t.1 = t0.1 ∧ (t0.2.1 = 0 ∨ ∀ j, j < B → ¬ elig t0.1 S qa j)))) (N := B) (fun i t hi hP => ?_) (fun t hP => ?_) B 0 t0 (Nat.zero_add _) ⟨h, .inr ⟨rfl, rfl, fun j hj => absurd hj (by omega)⟩⟩
  · have cam : ∀ j, j < 6 → f_Camount t.1 j = f_Camount t0.1 j := fun j hj => by
      unfold f_Camount f_Bamount
      rw [hP.1.1 9001 (by omega), hP.1.1 (5030 + j) (by omega), h.1 9001 (by omega), h.1 (5030 + j) (by omega)]
    have e9t : t.1 9001 i = σ 9001 i := by rw [← e9, hP.1.1 9001 (by omega), h.1 9001 (by omega)]
    have go : (¬ elig t0.1 S qa i ∨ ¬ t.1 = t0.1) → (PYI s0 B qa t.1 ∧ (PYM B qa t.1 + 1 ≤ PYM B qa t0.1 ∨ (t.1 = t0.1 ∧ t.2.1 = t0.2.1 ∧ ∀ j, j < i + 1 → ¬ elig t0.1 S qa j))) := fun hn => by
      refine ⟨hP.1, ?_⟩
      rcases hP.2 with q | ⟨q1, q2, q3⟩
      · exact .inl q
      · refine .inr ⟨q1, q2, fun j hj => ?_⟩
        rcases Nat.lt_or_ge j i with l | l
        · exact q3 j l
        · obtain rfl : j = i := by omega
          exact hn.resolve_right (fun c => c q1)
    (try dsimp only)
    split
    · rename_i c0
      refine ⟨fun s' e => (by cases e), fun s' e => ?_⟩
      rw [← Sum.inr.inj e]
      refine ⟨hP.1, ?_⟩
      rcases hP.2 with q | ⟨q1, q2, q3⟩
      · exact .inl q
      · refine .inr ⟨q1, .inl ?_⟩
        rw [q2] at c0
        exact (nI_le0 hl).mp c0
    · split
      · rename_i c1
        refine ⟨fun s' e => ?_, fun s' e => (by cases e)⟩
        rw [← Sum.inl.inj e]
        exact go (.inl fun g => g.1 c1)
      · split
        · rename_i c2
          refine ⟨fun s' e => ?_, fun s' e => (by cases e)⟩
          rw [← Sum.inl.inj e]
          exact go (.inl fun g => g.2.1 ((e9 i).trans c2))
        · rename_i c2
          split
          · rename_i c3
            refine ⟨fun s' e => ?_, fun s' e => (by cases e)⟩
            rw [← Sum.inl.inj e]
            obtain ⟨u1, u3⟩ := hP.1.up hq hB6 (fun j hj => by rw [cam j (by omega)]; exact am j hj) hi (fun g => c2 (e9t.symm.trans g)) c3
            refine ⟨u1, .inl ?_⟩
            rcases hP.2 with q | ⟨q1, q2, q3⟩
            · show PYM B qa (u2 t.1 qa i (t.1 qa i + 1)) + 1 ≤ _
              omega
            · show PYM B qa (u2 t.1 qa i (t.1 qa i + 1)) + 1 ≤ _
              rw [← q1]
              exact u3
          · rename_i c3
            refine ⟨fun s' e => ?_, fun s' e => (by cases e)⟩
            rw [← Sum.inl.inj e]
            refine go ?_
            by_cases q : t.1 = t0.1
            · exact .inl fun g => c3 (by rw [q]; exact g.2.2)
            · exact .inr q
  · refine ⟨hP.1, ?_⟩
    rcases hP.2 with q | ⟨q1, q2, q3⟩
    · exact .inl q
    · exact .inr ⟨q1, .inr q3⟩
theorem PYI.raise (hq : 20000 ≤ qa) (hB6 : B ≤ 6) {x : Nat} (hx : x < 2147483648) (hx0 : 0 < x) (am : ∀ j, j < B → (f_Camount s j).toInt ≤ 300000) (h : PYI s0 B qa s) (he : ∃ j, j < B ∧ elig s S qa j) :
    PYI s0 B qa (g_Craise s S x qa B) ∧ PYM B qa (g_Craise s S x qa B) + 1 ≤ PYM B qa s := by
  unfold g_Craise x_Craise_6
  refine xitB_fin (fun i t => (i = 0 → t = (s, x, 1)) ∧ (0 < i → (PYI s0 B qa t.1 ∧ PYM B qa t.1 + 1 ≤ PYM B qa s) ∧ t.2.1 ≤ x)) (fun t => PYI s0 B qa t.1 ∧ PYM B qa t.1 + 1 ≤ PYM B qa s) (N := x + 1) (fun i t hi hP => ?_) (fun t hP => (hP.2 (by omega)).1) (x + 1) 0 (s, x, 1) (Nat.zero_add _) ⟨fun _ => rfl, fun q => absurd q (by omega)⟩
  have K : PYI s0 B qa t.1 ∧ t.2.1 ≤ x ∧ PYM B qa t.1 ≤ PYM B qa s := by
    rcases Nat.eq_zero_or_pos i with e | e
    · rw [hP.1 e]
      exact ⟨h, Nat.le_refl _, Int.le_refl _⟩
    · have := hP.2 e
      exact ⟨this.1.1, this.2, by omega⟩
  have e9 : ∀ i, t.1 9001 i = s 9001 i := fun i => by rw [K.1.1 9001 (by omega), h.1 9001 (by omega)]
  have cam : ∀ j, j < B → (f_Camount t.1 j).toInt ≤ 300000 := fun j hj => by
    have : f_Camount t.1 j = f_Camount s j := by
      unfold f_Camount f_Bamount
      rw [K.1.1 9001 (by omega), K.1.1 (5030 + j) (by omega), h.1 9001 (by omega), h.1 (5030 + j) (by omega)]
    rw [this]
    exact am j hj
  have ps := PYI.pass (S := S) (x := x) (s6 := t) (t0 := (t.1, t.2.1, 0)) hq hB6 e9 cam (by show t.2.1 < _; omega) K.1
  have pl : (x_Craise_22 s S x qa B t (t.1, t.2.1, 0)).2.1 ≤ t.2.1 := by
    unfold x_Craise_22
    refine xitB_all (fun u : XS9 × Nat × Int32 => u.2.1 ≤ t.2.1) (N := B) (fun k u u' hk hu => ?_) B 0 _ (Nat.zero_add _) (Nat.le_refl _)
    (try dsimp only)
    (repeat' split) <;> intro e <;> rcases e with e | e <;> first | (cases e; done) | (first | rw [← Sum.inl.inj e] | rw [← Sum.inr.inj e]) <;> (show _ ≤ t.2.1) <;> first | exact hu | (show u.2.1 - 1 ≤ _; omega)
  (try dsimp only)
  split
  · rename_i c0
    refine ⟨fun s' e => (by cases e), fun s' e => ?_⟩
    rw [← Sum.inr.inj e]
    rcases Nat.eq_zero_or_pos i with e1 | e1
    · rw [hP.1 e1] at c0
      exact absurd ((nI_le0 hx).mp c0) (by show ¬ x = 0; omega)
    · exact (hP.2 e1).1
  · split
    · rename_i c1
      refine ⟨fun s' e => (by cases e), fun s' e => ?_⟩
      rw [← Sum.inr.inj e]
      rcases Nat.eq_zero_or_pos i with e1 | e1
      · rw [hP.1 e1] at c1
        exact absurd c1 (by show ¬ (1 : Int32) = 0; decide)
      · exact (hP.2 e1).1
    · refine ⟨fun s' e => ?_, fun s' e => (by cases e)⟩
      rw [← Sum.inl.inj e]
      refine ⟨fun q => absurd q (by omega), fun _ => ⟨⟨ps.1, ?_⟩, Nat.le_trans pl K.2.1⟩⟩
      have l := K.2.2
      rcases ps.2 with q | ⟨q1, q2⟩
      · show PYM B qa (x_Craise_22 s S x qa B t (t.1, t.2.1, 0)).1 + 1 ≤ _
        have q : PYM B qa (x_Craise_22 s S x qa B t (t.1, t.2.1, 0)).1 + 1 ≤ PYM B qa t.1 := q
        omega
      · show PYM B qa (x_Craise_22 s S x qa B t (t.1, t.2.1, 0)).1 + 1 ≤ _
        rw [q1]
        show PYM B qa t.1 + 1 ≤ _
        rcases Nat.eq_zero_or_pos i with e1 | e1
        · exfalso
          rw [hP.1 e1] at q2
          obtain ⟨j, j1, j2⟩ := he
          rcases q2 with q2 | q2
          · have q2 : x = 0 := q2
            omega
          · exact q2 j j1 j2
        · exact (hP.2 e1).1.2
theorem best_lt (hB6 : B ≤ 6) : x_Cpay2_94 s qa B 0 < 64 := by
  have hp := pow_le6 hB6
  unfold x_Cpay2_94
  refine xit_inv (fun n : Nat => n < 64) (N := 2 ^ B - 1) (fun i n hi hn => ?_) (2 ^ B - 1) 0 0 (Nat.zero_add _) (by decide)
  (try dsimp only)
  split
  · exact hn
  · omega
theorem p2_term (hq : 20000 ≤ qa) (hB6 : B ≤ 6) (hc : CHO B pk s0) (ha : AMs s0) (hpk : ∀ j, j < B → pk j ≤ 6) (h : PYI s0 B qa s) : ∃ r, xitR (p2_step qa B) 20000000 0 s = .inr r := by
  have am := fun j (hj : j < B) => hc.am ha hpk hB6 hj
  have amt : ∀ t, PYI s0 B qa t → ∀ j, j < B → (f_Camount t j).toInt ≤ 300000 := fun t ht j hj => by
    have : f_Camount t j = f_Camount s0 j := by
      unfold f_Camount f_Bamount
      rw [ht.1 9001 (by omega), ht.1 (5030 + j) (by omega)]
    rw [this]
    exact (am j hj).2
  refine xitR_term (fun t => PYI s0 B qa t) (fun t => (PYM B qa t).toNat) (fun i t t' ht e => ?_) 20000000 0 s h ?_
  · unfold p2_step at e
    split at e
    · rename_i ho
      rw [← Sum.inl.inj e]
      have hct : CHO B pk t := hc.of hB6 fun q hq9 => ht.1 q (by omega)
      have hat : AMs t := fun j k hj hk => by rw [ht.1 _ (by omega)]; exact ha j k hj hk
      obtain ⟨n1, n2⟩ := pos_nat (Int32.not_le.mpr ho)
      have n0 : 0 < cn (f_Cobjection t (x_Cpay2_94 t qa B 0) qa B) := by
        rcases Nat.eq_zero_or_pos (cn (f_Cobjection t (x_Cpay2_94 t qa B 0) qa B)) with z | z
        · rw [z] at n1
          rw [n1] at ho
          exact absurd ho (by decide)
        · exact z
      obtain ⟨a, b⟩ := PYI.raise hq hB6 (S := x_Cpay2_94 t qa B 0) n2 n0 (amt t ht) ht (ht.some hq hct hat hpk hB6 (best_lt hB6) ho)
      refine ⟨a, ?_⟩
      have := PYM_0 (B := B) (qa := qa) (s := g_Craise t (x_Cpay2_94 t qa B 0) (cn (f_Cobjection t (x_Cpay2_94 t qa B 0) qa B)) qa B)
      show (PYM B qa (g_Craise t (x_Cpay2_94 t qa B 0) (cn (f_Cobjection t (x_Cpay2_94 t qa B 0) qa B)) qa B)).toNat < (PYM B qa t).toNat
      omega
    · cases e
  · have l := isum_le (T := pleft s qa) (U := fun _ => 2300000) B 0 (fun k _ hk => by
      have a := amt s h k (by omega)
      have p := h.2 k (by omega)
      unfold pleft
      (repeat' split) <;> omega)
    rw [isum_const] at l
    show (isum (pleft s qa) B 0).toNat < 20000000
    omega
theorem PYI.start (hq : 20000 ≤ qa) (hB6 : B ≤ 6) (hc : CHO B pk s0) (ha : AMs s0) (hpk : ∀ j, j < B → pk j ≤ 6) : PYI s0 B qa (g_Cpay20 s0 qa B) := by
  have am := fun j (hj : j < B) => hc.am ha hpk hB6 hj
  obtain ⟨m, h1, h2, h3, h4⟩ := hc
  have hp := pow_le6 hB6
  unfold g_Cpay20 x_Cpay2_7
  refine xit_inv (fun t : XS9 => PYI s0 B qa t) (N := B) (fun i t hi ht => ?_) B 0 _ (Nat.zero_add _) ⟨fun q hq9 => uR_ne hq9, fun j hj => ?_⟩
  · (try dsimp only)
    split
    · exact ht
    · refine ⟨fun q hq9 => by rw [u2_ne hq9]; exact ht.1 q hq9, fun j hj => ?_⟩
      by_cases e : j = i
      · subst e
        rw [u2_at]
        have c : f_Camount t j = f_Camount s0 j := by
          unfold f_Camount f_Bamount
          rw [ht.1 9001 (by omega), ht.1 (5030 + j) (by omega)]
        have a := am j hj
        unfold f_Cworth
        rw [c, ht.1 9003 (by omega)]
        have w1 := h2 (bclr (2 ^ B - 1) j) (bclr_lt (by omega))
        have w2 := h2 (2 ^ B - 1) (by omega)
        have e1 : (s0 9003 (2 ^ B - 1) - f_Camount s0 j).toInt = (s0 9003 (2 ^ B - 1)).toInt - (f_Camount s0 j).toInt := i32_sub (by omega) (by omega)
        rw [i32_sub (by omega) (by omega), e1]
        omega
      · rw [u2_oi e]
        exact ht.2 j hj
  · rw [uR_eq]
    have : rowN 6 j = 0 := by
      unfold rowN
      rw [if_neg (by omega), if_neg (by omega)]
    rw [this]
    decide
theorem pay_term (hq : 20000 ≤ qa) (hB6 : B ≤ 6) (hc : CHO B pk s0) (ha : AMs s0) (hpk : ∀ j, j < B → pk j ≤ 6) : ∃ r, xitR (p2_step qa B) 20000000 0 (g_Cpay20 s0 qa B) = .inr r := p2_term hq hB6 hc ha hpk (PYI.start hq hB6 hc ha hpk)
end
