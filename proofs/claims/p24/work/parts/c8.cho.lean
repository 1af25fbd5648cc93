/-! ===== pure facts: winners and worths on the reference's side ===== -/
theorem i32_add {a b : Int32} (h1 : -2000000000 ≤ a.toInt + b.toInt) (h2 : a.toInt + b.toInt ≤ 2000000000) : (a + b).toInt = a.toInt + b.toInt := by
  rw [Int32.toInt_add]
  exact Int.bmod_eq_of_le (by omega) (by omega)
theorem i32_sub {a b : Int32} (h1 : -2000000000 ≤ a.toInt - b.toInt) (h2 : a.toInt - b.toInt ≤ 2000000000) : (a - b).toInt = a.toInt - b.toInt := by
  rw [Int32.toInt_sub]
  exact Int.bmod_eq_of_le (by omega) (by omega)
/-- what a pick is worth, and what picks are worth together -/
def pv (s : XS9) (row : Nat → Int32) (j : Nat) : Int32 := if row j = -1 then 0 else s (5030 + j) (2 * cn (row j) + 1)
def psum (s : XS9) (row : Nat → Int32) : Nat → Int
  | 0 => 0
  | n + 1 => psum s row n + (pv s row n).toInt
def pval (pk : Nat → Nat) (row : Nat → Int32) (n : Nat) : Prop := ∀ j, j < n → row j = -1 ∨ ∃ k, k < pk j ∧ row j = nI k
/-- amounts are small -/
def AMs (s : XS9) : Prop := ∀ j k, j < 6 → k < 6 → bd 300000 (s (5030 + j) (2 * k + 1))
theorem bd.int {m : Nat} {v : Int32} (h : bd m v) (hm : m < 2147483648) : 0 ≤ v.toInt ∧ v.toInt ≤ m := by
  have h2 := h.2
  rw [h.1, toI_nI (by omega)]
  omega
section
variable {s τ : XS9} {row row' : Nat → Int32} {pk : Nat → Nat} {B n j : Nat}
theorem pv_int (ha : AMs s) (hpk : ∀ j, j < B → pk j ≤ 6) (hB6 : B ≤ 6) (h : pval pk row n) (hn : n ≤ B) (hj : j < n) : 0 ≤ (pv s row j).toInt ∧ (pv s row j).toInt ≤ 300000 := by
  unfold pv
  split
  · decide
  · rename_i hne
    rcases h j hj with e | ⟨k, hk, e⟩
    · exact absurd e hne
    · have := hpk j (by omega)
      rw [e, cn_nI (by omega)]
      exact (ha j k (by omega) (by omega)).int (by decide)
theorem psum_int (ha : AMs s) (hpk : ∀ j, j < B → pk j ≤ 6) (hB6 : B ≤ 6) (h : pval pk row n) (hn : n ≤ B) : ∀ m, m ≤ n → 0 ≤ psum s row m ∧ psum s row m ≤ 300000 * m
  | 0, _ => by
    show (0 : Int) ≤ 0 ∧ (0 : Int) ≤ 300000 * ((0 : Nat) : Int)
    omega
  | m + 1, hm => by
    obtain ⟨h1, h2⟩ := psum_int ha hpk hB6 h hn m (by omega)
    obtain ⟨h3, h4⟩ := pv_int ha hpk hB6 h hn (j := m) (by omega)
    show 0 ≤ psum s row m + (pv s row m).toInt ∧ psum s row m + (pv s row m).toInt ≤ 300000 * ((m + 1 : Nat) : Int)
    omega
theorem pv_cg (e : row' j = row j) (er : s (5030 + j) = τ (5030 + j)) : pv s row' j = pv τ row j := by
  unfold pv
  rw [e, er]
theorem psum_cg : ∀ n, (∀ j, j < n → row' j = row j ∧ s (5030 + j) = τ (5030 + j)) → psum s row' n = psum τ row n
  | 0, _ => rfl
  | n + 1, h => by
    show psum s row' n + (pv s row' n).toInt = psum τ row n + (pv τ row n).toInt
    rw [psum_cg n (fun j hj => h j (by omega)), pv_cg (h n (by omega)).1 (h n (by omega)).2]
theorem pval.cg (h : pval pk row n) (e : ∀ j, j < n → row' j = row j) : pval pk row' n := fun j hj => by rw [e j hj]; exact h j hj
end
/-- what holds of the search while it runs: rows under 9000 are as in t -/
def GI (t : XS9) (B : Nat) (pk : Nat → Nat) (s : XS9) : Prop := (∀ q, q < 9000 → s q = t q) ∧ (∀ S, S < 64 → 0 ≤ (s 9003 S).toInt ∧ ((s 9003 S).toInt ≤ (s 9000 5).toInt ∨ (s 9003 S).toInt = 0)) ∧ ((s 9000 5).toInt = -1 ∨ (0 ≤ (s 9000 5).toInt ∧ pval pk (s 9001) B ∧ psum t (s 9001) B = (s 9000 5).toInt))
section
variable {t s s2 : XS9} {B : Nat} {pk gr : Nat → Nat} {cd : Nat → Nat → Nat}
theorem GI.of (h : GI t B pk s) (e : ∀ q, (q < 9002 ∨ q = 9003) → s2 q = s q) : GI t B pk s2 := by
  obtain ⟨h1, h2, h3⟩ := h
  refine ⟨fun q hq => by rw [e q (by omega)]; exact h1 q hq, fun S hS => ?_, ?_⟩
  · rw [e 9003 (by omega), e 9000 (by omega)]
    exact h2 S hS
  · rw [e 9001 (by omega), e 9000 (by omega)]
    exact h3
theorem i_ltI {a b : Int32} : a < b ↔ a.toInt < b.toInt := Int32.lt_iff_toInt_lt
theorem GI.base (h : GI t B pk s) (ha : AMs t) (hpk : ∀ j, j < B → pk j ≤ 6) (hB6 : B ≤ 6) {S : Nat} {x : Int32} (hv : pval pk (s 9002) B) (hx : psum t (s 9002) B = x.toInt) : GI t B pk (g_CpickBase s S x B) ∧ 0 ≤ (g_CpickBase s S x B 9000 5).toInt ∧ g_CpickBase s S x B 9002 = s 9002 := by
  obtain ⟨h1, h2, h3⟩ := h
  obtain ⟨x1, x2⟩ := psum_int ha hpk hB6 hv (Nat.le_refl B) B (Nat.le_refl B)
  rw [hx] at x1 x2
  unfold g_CpickBase
  split
  · rename_i hm
    have hm := i_ltI.mp hm
    have fr : ∀ q, q ≠ 9001 → x_CpickBase_62 s S x B (uR (u2 (u2 s 9003 S (if s 9003 S < x then x else s 9003 S)) 9000 5 x) 9001 (va_cpy (s 9002) (s 9001) 0 0 6)) q = u2 (u2 s 9003 S (if s 9003 S < x then x else s 9003 S)) 9000 5 x q := fun q hq => by
      unfold x_CpickBase_62
      refine (xit_keep (fun s : XS9 => s q) (fun i s => ?_) _ _ _).trans ?_
      · (try dsimp only)
        rw [u2_ne hq]
      · (try dsimp only)
        rw [uR_ne hq]
    have row : ∀ j, j < B → x_CpickBase_62 s S x B (uR (u2 (u2 s 9003 S (if s 9003 S < x then x else s 9003 S)) 9000 5 x) 9001 (va_cpy (s 9002) (s 9001) 0 0 6)) 9001 j = s 9002 j := fun j hj => by
      unfold x_CpickBase_62
      refine (xit_keep (fun s : XS9 => s 9001 j) (fun i s => ?_) _ _ _).trans ?_
      · (try dsimp only)
        rw [u2_oi (by omega)]
      · (try dsimp only)
        rw [uR_eq, cpy_lo (by omega)]
    refine ⟨⟨fun q hq => ?_, fun S2 hS2 => ?_, .inr ⟨?_, ?_, ?_⟩⟩, ?_, ?_⟩
    · rw [fr q (by omega), u2_ne (by omega), u2_ne (by omega)]
      exact h1 q hq
    · rw [fr 9003 (by decide), fr 9000 (by decide), u2_at, u2_ne (by decide)]
      by_cases e : S2 = S
      · subst e
        rw [u2_at]
        have h2 := h2 S2 hS2
        split
        · exact ⟨x1, .inl (Int.le_refl _)⟩
        · rename_i hn
          have hn := fun q => hn (i_ltI.mpr q)
          exact ⟨h2.1, .inl (by omega)⟩
      · rw [u2_oi e]
        have h2 := h2 S2 hS2
        exact ⟨h2.1, .inl (by omega)⟩
    · rw [fr 9000 (by decide), u2_at]
      exact x1
    · exact hv.cg row
    · rw [fr 9000 (by decide), u2_at, ← hx]
      exact psum_cg B fun j hj => ⟨row j hj, rfl⟩
    · rw [fr 9000 (by decide), u2_at]
      exact x1
    · rw [fr 9002 (by decide), u2_ne (by decide), u2_ne (by decide)]
  · rename_i hm
    have hm : ¬ (s 9000 5).toInt < x.toInt := fun q => hm (i_ltI.mpr q)
    refine ⟨⟨fun q hq => ?_, fun S2 hS2 => ?_, ?_⟩, ?_, ?_⟩
    · rw [u2_ne (by omega)]
      exact h1 q hq
    · rw [u2_ne (show (9000 : Nat) ≠ 9003 by decide)]
      by_cases e : S2 = S
      · subst e
        rw [u2_at]
        split
        · exact ⟨x1, .inl (by omega)⟩
        · exact h2 S2 hS2
      · rw [u2_oi e]
        exact h2 S2 hS2
    · rw [u2_ne (show (9000 : Nat) ≠ 9003 by decide), u2_ne (show (9001 : Nat) ≠ 9003 by decide)]
      exact h3
    · rw [u2_ne (by decide)]
      omega
    · rw [u2_ne (by decide)]
theorem pick_ok (ha : AMs t) (hpk : ∀ j, j < B → pk j ≤ 6) (hB6 : B ≤ 6) : ∀ (f i : Nat), i + f = B → ∀ (s : XS9) (S : Nat) (x : Int32), GI t B pk s → pval pk (s 9002) i → psum t (s 9002) i = x.toInt → GI t B pk (g_Cpick B pk gr cd f i s S x) ∧ 0 ≤ (g_Cpick B pk gr cd f i s S x 9000 5).toInt ∧ ∀ j, j < i → g_Cpick B pk gr cd f i s S x 9002 j = s 9002 j
  | 0, i, e, s, S, x, h, hv, hx => by
    obtain rfl : i = B := by omega
    obtain ⟨a, b, c⟩ := h.base ha hpk hB6 (S := S) hv hx
    exact ⟨a, b, fun j hj => congrFun c j⟩
  | f + 1, i, e, s, S, x, h, hv, hx => by
    have hiB : i < B := by omega
    have rc9 := pick_ok ha hpk hB6 f (i + 1) (by omega)
    have rel : ∀ {s2 : XS9} {v : Int32}, GI t B pk s2 → (∀ j, j < i → s2 9002 j = s 9002 j) → (v = -1 ∨ ∃ k, k < pk i ∧ v = nI k) → ∀ {y : Int32} {S2 : Nat}, y.toInt = x.toInt + (pv t (u2 s2 9002 i v 9002) i).toInt → GI t B pk (g_Cpick B pk gr cd f (i + 1) (u2 s2 9002 i v) S2 y) ∧ 0 ≤ (g_Cpick B pk gr cd f (i + 1) (u2 s2 9002 i v) S2 y 9000 5).toInt ∧ ∀ j, j < i → g_Cpick B pk gr cd f (i + 1) (u2 s2 9002 i v) S2 y 9002 j = s 9002 j := fun {s2 v} hg hr hv2 {y S2} hy => by
      have lo : ∀ j, j < i → u2 s2 9002 i v 9002 j = s 9002 j := fun j hj => by rw [u2_oi (by omega)]; exact hr j hj
      obtain ⟨a, b, c⟩ := rc9 (u2 s2 9002 i v) S2 y (hg.of fun q hq => u2_ne (by omega)) (fun j hj => by
        rcases Nat.lt_or_ge j i with q | q
        · rw [lo j q]
          exact hv j q
        · obtain rfl : j = i := by omega
          rw [u2_at]
          exact hv2) (by
        show psum t (u2 s2 9002 i v 9002) i + (pv t (u2 s2 9002 i v 9002) i).toInt = y.toInt
        rw [hy, ← hx, psum_cg (s := t) (τ := t) i (fun j hj => ⟨lo j hj, rfl⟩)])
      exact ⟨a, b, fun j hj => (c j (by omega)).trans (lo j hj)⟩
    show GI t B pk (g_CpickStep s (fun σ S x => g_Cpick B pk gr cd f (i + 1) σ S x) i S x B pk gr cd) ∧ _
    have n1 : pv t (u2 s 9002 i (-1) 9002) i = 0 := by
      unfold pv
      rw [u2_at, if_pos rfl]
    have r1 := rel (s2 := s) (v := -1) h (fun _ _ => rfl) (.inl rfl) (y := x) (S2 := S) (by rw [n1]; show x.toInt = x.toInt + 0; omega)
    show GI t B pk (x_CpickStep_119 s (fun σ S x => g_Cpick B pk gr cd f (i + 1) σ S x) i S x B pk gr cd (g_Cpick B pk gr cd f (i + 1) (u2 s 9002 i (-1)) S x)) ∧ 0 ≤ (x_CpickStep_119 s (fun σ S x => g_Cpick B pk gr cd f (i + 1) σ S x) i S x B pk gr cd (g_Cpick B pk gr cd f (i + 1) (u2 s 9002 i (-1)) S x) 9000 5).toInt ∧ ∀ j, j < i → x_CpickStep_119 s (fun σ S x => g_Cpick B pk gr cd f (i + 1) σ S x) i S x B pk gr cd (g_Cpick B pk gr cd f (i + 1) (u2 s 9002 i (-1)) S x) 9002 j = s 9002 j
    generalize g_Cpick B pk gr cd f (i + 1) (u2 s 9002 i (-1)) S x = s1 at r1 ⊢
    unfold x_CpickStep_119
    refine xitB_all (fun s2 : XS9 => GI t B pk s2 ∧ 0 ≤ (s2 9000 5).toInt ∧ ∀ j, j < i → s2 9002 j = s 9002 j) (N := pk i) (fun k s2 s3 hk hP => ?_) (pk i) 0 _ (Nat.zero_add _) r1
    (try dsimp only)
    split
    · split
      · intro q
        rcases q with q | q
        · rw [← Sum.inl.inj q]
          exact hP
        · cases q
      · intro q
        rcases q with q | q
        · rw [← Sum.inl.inj q]
          have T : ∀ (s4 : XS9) (c : Nat) (x4 : Int32) (q4 : Nat), (q4 ≠ 9004 ∧ q4 ≠ 9005) → g_Ctake s4 i c x4 (gr i) q4 = s4 q4 := fun s4 c x4 q4 hq4 => fr_Ctake hq4
          have k6 := hpk i hiB
          have am := ha i k (by omega) (by omega)
          have am2 := am.int (by decide)
          obtain ⟨p1, p2⟩ := psum_int ha hpk hB6 hv (by omega) i (Nat.le_refl i)
          rw [hx] at p1 p2
          have gt : GI t B pk (g_Ctake s2 i (cd i k) 1 (gr i)) := hP.1.of fun q hq => T _ _ _ _ (by omega)
          have ev : f_Bamount (u2 (g_Ctake s2 i (cd i k) 1 (gr i)) 9002 i (nI k)) i k = t (5030 + i) (2 * k + 1) := by
            unfold f_Bamount
            rw [u2_ne (by omega), T _ _ _ _ (by omega), hP.1.1 _ (by omega)]
          have pe : pv t (u2 (g_Ctake s2 i (cd i k) 1 (gr i)) 9002 i (nI k) 9002) i = t (5030 + i) (2 * k + 1) := by
            unfold pv
            rw [u2_at, cn_nI (by omega), if_neg]
            intro e9
            have := congrArg Int32.toInt e9
            rw [toI_nI (by omega)] at this
            have e2 : (-1 : Int32).toInt = -1 := by decide
            omega
          rw [ev]
          have hy : (x + t (5030 + i) (2 * k + 1)).toInt = x.toInt + (t (5030 + i) (2 * k + 1)).toInt := i32_add (by omega) (by omega)
          obtain ⟨a, b, c⟩ := rel (s2 := g_Ctake s2 i (cd i k) 1 (gr i)) (v := nI k) gt (fun j hj => by rw [T _ _ _ _ (by omega)]; exact hP.2.2 j hj) (.inr ⟨k, hk, rfl⟩) (y := x + t (5030 + i) (2 * k + 1)) (S2 := S ||| 2 ^ i) (by rw [pe]; exact hy)
          refine ⟨a.of fun q hq => T _ _ _ _ (by omega), ?_, fun j hj => ?_⟩
          · rw [T _ _ _ _ (by omega)]
            exact b
          · rw [T _ _ _ _ (by omega)]
            exact c j hj
        · cases q
    · intro q
      rcases q with q | q
      · cases q
      · rw [← Sum.inr.inj q]
        exact hP
end
/-- what holds of a Choice that is made -/
def CHO (B : Nat) (pk : Nat → Nat) (s : XS9) : Prop := ∃ m : Int, m ≤ 1800000 ∧ (∀ S, S < 64 → 0 ≤ (s 9003 S).toInt ∧ (s 9003 S).toInt ≤ m) ∧ pval pk (s 9001) B ∧ psum s (s 9001) B = m
theorem CHO.of {B : Nat} {pk : Nat → Nat} {s s2 : XS9} (h : CHO B pk s) (hB6 : B ≤ 6) (e : ∀ q, (q = 9001 ∨ q = 9003 ∨ (5030 ≤ q ∧ q < 5036)) → s2 q = s q) : CHO B pk s2 := by
  obtain ⟨m, h1, h2, h3, h4⟩ := h
  refine ⟨m, h1, fun S hS => ?_, ?_, ?_⟩
  · rw [e 9003 (by omega)]
    exact h2 S hS
  · rw [e 9001 (by omega)]
    exact h3
  · rw [← h4]
    exact psum_cg B fun j hj => ⟨by rw [e 9001 (by omega)], e _ (by omega)⟩
theorem CHO.init {t : XS9} {R B : Nat} {pk gr : Nat → Nat} {cd : Nat → Nat → Nat} (ha : AMs t) (hpk : ∀ j, j < B → pk j ≤ 6) (hB6 : B ≤ 6) : CHO B pk (g_Cinit t R B pk gr cd) := by
  have c0 : ∀ q, (q = 9001 ∨ q = 9002 ∨ q = 9003) → ∀ i, g_cho0 t q i = 0 := fun q hq i => by
    unfold g_cho0
    rw [if_neg (by omega), if_pos (by omega)]
  unfold g_Cinit
  split
  · unfold g_CinitB
    have e1 : ∀ j, j < 6 → x_CinitB_109 t (x_CinitB_55 t R (u2 (g_cho0 t) 9000 5 (-1))) 9001 j = -1 := fun j hj => by
      have H : ∀ (f i : Nat) (s : XS9), (j < i → s 9001 j = -1) → (j < i + f) → xit (fun i109 (s109 : XS9) => u2 s109 9001 i109 (-1)) f i s 9001 j = -1 := by
        intro f
        induction f with
        | zero => exact fun i s h1 h2 => h1 (by omega)
        | succ f ih =>
          intro i s h1 h2
          refine ih (i + 1) _ (fun h3 => ?_) (by omega)
          by_cases e : j = i
          · subst e
            exact u2_at
          · show u2 s 9001 i (-1) 9001 j = -1
            rw [u2_oi e]
            exact h1 (by omega)
      exact H 6 0 _ (by omega) (by omega)
    have e3 : ∀ S, x_CinitB_109 t (x_CinitB_55 t R (u2 (g_cho0 t) 9000 5 (-1))) 9003 S = 0 := fun S => by
      rw [show x_CinitB_109 t (x_CinitB_55 t R (u2 (g_cho0 t) 9000 5 (-1))) 9003 = x_CinitB_55 t R (u2 (g_cho0 t) 9000 5 (-1)) 9003 from xit_keep (fun s : XS9 => s 9003) (fun i s => by (try dsimp only); rw [u2_ne (by decide)]) _ _ _, show x_CinitB_55 t R (u2 (g_cho0 t) 9000 5 (-1)) 9003 = u2 (g_cho0 t) 9000 5 (-1) 9003 from xit_keep (fun s : XS9 => s 9003) (fun i s => by (try dsimp only); rw [u2_ne (by decide)]) _ _ _, u2_ne (by decide)]
      exact c0 9003 (by omega) S
    generalize x_CinitB_109 t (x_CinitB_55 t R (u2 (g_cho0 t) 9000 5 (-1))) = s0 at e1 e3
    have k : ∀ q, q ≠ 9003 → x_CinitB_138 t s0 q = s0 q := fun q hq => xit_keep (fun s : XS9 => s q) (fun i s => by (try dsimp only); exact fx_CinitB_149 hq) _ _ _
    have e4 : ∀ S, x_CinitB_138 t s0 9003 S = 0 := by
      unfold x_CinitB_138
      refine xit_inv (fun s : XS9 => ∀ S, s 9003 S = 0) (N := 64) (fun i s hi hP => ?_) 64 0 _ rfl e3
      unfold x_CinitB_149
      refine xit_inv (fun s : XS9 => ∀ S, s 9003 S = 0) (N := 6) (fun k s hk hP => ?_) 6 0 _ rfl hP
      (try dsimp only)
      split
      · intro S
        by_cases e : S = i
        · subst e
          rw [u2_at, hP, hP]
          rfl
        · rw [u2_oi e]
          exact hP S
      · exact hP
    refine ⟨0, by omega, fun S hS => by rw [e4]; decide, fun j hj => .inl (by rw [k _ (by decide)]; exact e1 j (by omega)), ?_⟩
    have z : ∀ n, n ≤ 6 → psum (x_CinitB_138 t s0) (x_CinitB_138 t s0 9001) n = 0 := by
      intro n
      induction n with
      | zero => exact fun _ => rfl
      | succ n ih =>
        intro hn
        show psum _ _ n + (pv (x_CinitB_138 t s0) (x_CinitB_138 t s0 9001) n).toInt = 0
        rw [ih (by omega)]
        unfold pv
        rw [k _ (by decide), e1 n (by omega), if_pos rfl]
        decide
    exact z B hB6
  · unfold g_CinitA
    have f5 : ∀ q, q ≠ 9004 → x_CinitA_55 t R (u2 (g_cho0 t) 9000 5 (-1)) q = u2 (g_cho0 t) 9000 5 (-1) q := fun q hq => xit_keep (fun s : XS9 => s q) (fun i s => by (try dsimp only); rw [u2_ne hq]) _ _ _
    have G0 : GI t B pk (x_CinitA_55 t R (u2 (g_cho0 t) 9000 5 (-1))) := by
      refine ⟨fun q hq => ?_, fun S hS => ?_, .inl ?_⟩
      · rw [f5 q (by omega), u2_ne (by omega), fr_cho0 (by omega)]
      · rw [f5 9003 (by omega), u2_ne (by omega), c0 9003 (by omega)]
        exact ⟨by decide, .inr (by decide)⟩
      · rw [f5 9000 (by omega), u2_at]
        decide
    obtain ⟨a, b, -⟩ := pick_ok (gr := gr) (cd := cd) ha hpk hB6 B 0 (Nat.zero_add _) _ 0 0 G0 (fun j hj => absurd hj (by omega)) (by show (0 : Int) = (0 : Int32).toInt; decide)
    generalize g_Cpick B pk gr cd B 0 (x_CinitA_55 t R (u2 (g_cho0 t) 9000 5 (-1))) 0 0 = s0 at a b
    have k : ∀ q, q ≠ 9003 → x_CinitA_138 t s0 q = s0 q := fun q hq => xit_keep (fun s : XS9 => s q) (fun i s => by (try dsimp only); exact fx_CinitA_149 hq) _ _ _
    obtain ⟨a1, a2, a3⟩ := a
    obtain ⟨a4, a5, a6⟩ := a3.resolve_left (by omega)
    have W : ∀ S, S < 64 → 0 ≤ (x_CinitA_138 t s0 9003 S).toInt ∧ (x_CinitA_138 t s0 9003 S).toInt ≤ (s0 9000 5).toInt := by
      unfold x_CinitA_138
      refine xit_inv (fun s : XS9 => ∀ S, S < 64 → 0 ≤ (s 9003 S).toInt ∧ (s 9003 S).toInt ≤ (s0 9000 5).toInt) (N := 64) (fun i s hi hP => ?_) 64 0 _ rfl (fun S hS => by have := a2 S hS; omega)
      unfold x_CinitA_149
      refine xit_inv (fun s : XS9 => ∀ S, S < 64 → 0 ≤ (s 9003 S).toInt ∧ (s 9003 S).toInt ≤ (s0 9000 5).toInt) (N := 6) (fun k s hk hP => ?_) 6 0 _ rfl hP
      (try dsimp only)
      split
      · intro S hS
        by_cases e : S = i
        · subst e
          rw [u2_at]
          split
          · exact hP _ (bclr_lt hS)
          · exact hP _ hS
        · rw [u2_oi e]
          exact hP S hS
      · exact hP
    refine ⟨(s0 9000 5).toInt, ?_, W, ?_, ?_⟩
    · have := psum_int ha hpk hB6 a5 (Nat.le_refl B) B (Nat.le_refl B)
      rw [a6] at this
      omega
    · rw [k 9001 (by decide)]
      exact a5
    · rw [← a6]
      exact psum_cg B fun j hj => ⟨by rw [k 9001 (by decide)], by rw [k _ (by omega), a1 _ (by omega)]⟩
theorem CHO.pi {B : Nat} {pk : Nat → Nat} {s : XS9} (h : CHO B pk s) : ∀ j, j < B → s 9001 j = -1 ∨ ∃ n, n < pk j ∧ s 9001 j = nI n := by
  obtain ⟨m, h1, h2, h3, h4⟩ := h
  exact h3
