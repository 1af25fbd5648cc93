section
/-! ===== pure facts: the class's clock ===== -/
theorem many_eq {n r : Nat} (hn : n ≤ 7775) (hr : r < 5) : f_many (nI n) r = nI (n / 6 ^ r % 6) := by
  have d : ∀ a, a ≤ 7775 → nI a / 6 = nI (a / 6) := fun a ha => div6 (by omega)
  have e : ∀ a, a ≤ 7775 → nI a - nI a / 6 * 6 = nI (a % 6) := fun a ha => mod6x (by omega)
  match r, hr with
  | 0, _ =>
    show nI n - nI n / 6 * 6 = _
    rw [e n hn, Nat.pow_zero, Nat.div_one]
  | 1, _ =>
    show nI n / 6 - nI n / 6 / 6 * 6 = _
    rw [d n hn, e _ (by omega), Nat.pow_one]
  | 2, _ =>
    show nI n / 6 / 6 - nI n / 6 / 6 / 6 * 6 = _
    rw [d n hn, d _ (by omega), e _ (by omega), Nat.div_div_eq_div_mul]
  | 3, _ =>
    show nI n / 6 / 6 / 6 - nI n / 6 / 6 / 6 / 6 * 6 = _
    rw [d n hn, d _ (by omega), d _ (by omega), e _ (by omega), Nat.div_div_eq_div_mul, Nat.div_div_eq_div_mul]
  | 4, _ =>
    show nI n / 6 / 6 / 6 / 6 - nI n / 6 / 6 / 6 / 6 / 6 * 6 = _
    rw [d n hn, d _ (by omega), d _ (by omega), d _ (by omega), e _ (by omega), Nat.div_div_eq_div_mul, Nat.div_div_eq_div_mul, Nat.div_div_eq_div_mul]
theorem rep_eq {n k p d : Nat} (hd : d * p ≤ n) : nI n + (nI k - nI d) * nI p = nI (n - d * p + k * p) := by
  rw [Int32.sub_mul, nI_mul, nI_mul, ← nI_plus, ← nI_minus hd, Int32.sub_eq_add_neg, Int32.sub_eq_add_neg, Int32.add_assoc, Int32.add_comm (nI (k * p))]
theorem bd.many {c : Int32} (h : bd 7775 c) {r : Nat} (hr : r < 5) : bd 5 (f_many c r) := by
  rw [h.1, many_eq h.2 hr]
  exact bd.nat (by omega) (by decide)
theorem bd.replaced {c m : Int32} (h : bd 7775 c) {r : Nat} (hr : r < 5) (hm : bd 5 m) : bd 7775 (f_replaced c r m) := by
  unfold f_replaced
  have h2 := h.2
  have m2 := hm.2
  rw [h.1, many_eq h2 hr, hm.1]
  generalize cn c = n at h2
  generalize cn m = k at m2
  match r, hr with
  | 0, _ =>
    rw [show x_replaced_5 (nI n) 0 (nI k) 1 = nI 1 from rfl, rep_eq (by simp only [Nat.pow_zero]; omega)]
    exact bd.nat (by simp only [Nat.pow_zero]; omega) (by decide)
  | 1, _ =>
    rw [show x_replaced_5 (nI n) 1 (nI k) 1 = nI 6 from rfl, rep_eq (by simp only [Nat.pow_one]; omega)]
    exact bd.nat (by simp only [Nat.pow_one]; omega) (by decide)
  | 2, _ =>
    rw [show x_replaced_5 (nI n) 2 (nI k) 1 = nI 36 from rfl, rep_eq (by show n / 36 % 6 * 36 ≤ n; omega)]
    exact bd.nat (by show n - n / 36 % 6 * 36 + k * 36 ≤ 7775; omega) (by decide)
  | 3, _ =>
    rw [show x_replaced_5 (nI n) 3 (nI k) 1 = nI 216 from rfl, rep_eq (by show n / 216 % 6 * 216 ≤ n; omega)]
    exact bd.nat (by show n - n / 216 % 6 * 216 + k * 216 ≤ 7775; omega) (by decide)
  | 4, _ =>
    rw [show x_replaced_5 (nI n) 4 (nI k) 1 = nI 1296 from rfl, rep_eq (by show n / 1296 % 6 * 1296 ≤ n; omega)]
    exact bd.nat (by show n - n / 1296 % 6 * 1296 + k * 1296 ≤ 7775; omega) (by decide)
theorem tot_step {c a p : Int32} {m : Nat} (hc : bd 7775 c) (ha : bd m a) (hp : bd 9999 p) (hm : m ≤ 1000000) : bd 7775 (c / 6) ∧ bd (m + 49995) (a + (c - c / 6 * 6) * p) := by
  have c2 := hc.2
  have a2 := ha.2
  have p2 := hp.2
  rw [hc.1, ha.1, hp.1]
  generalize cn c = n at c2
  generalize cn a = k at a2
  generalize cn p = q at p2
  rw [mod6x (by omega), div6 (by omega), nI_mul, nI_plus]
  have h6 : n % 6 ≤ 5 := by omega
  have hmul : n % 6 * q ≤ 5 * 9999 := Nat.mul_le_mul h6 p2
  exact ⟨bd.nat (by omega) (by decide), bd.nat (by omega) (by omega)⟩
theorem bd.total {c : Int32} (h : bd 7775 c) {f : Nat → Int32} (hf : ∀ r, r < 5 → bd 9999 (f r)) : bd 249975 (f_total c 5 f) := by
  have s0 := tot_step h (bd.zero (m := 0)) (hf 0 (by decide)) (by decide)
  have s1 := tot_step s0.1 s0.2 (hf 1 (by decide)) (by decide)
  have s2 := tot_step s1.1 s1.2 (hf 2 (by decide)) (by decide)
  have s3 := tot_step s2.1 s2.2 (hf 3 (by decide)) (by decide)
  have s4 := tot_step s3.1 s3.2 (hf 4 (by decide)) (by decide)
  exact s4.2
/-- the clock's numbers: codes that are held and wished, prices now and in the log; first prices and the step -/
def KB (σ : XS9) : Prop := (∀ i, i < 6 → bd 7775 (σ 2002 i)) ∧ (∀ i, i < 6 → bd 7775 (σ 2003 i)) ∧ (∀ r, r < 5 → bd 9999 (σ 2001 r)) ∧ (∀ k r, k < 60 → r < 5 → bd 9999 (σ (2101 + k) r)) ∧ (∀ r, r < 5 → bd 999 (σ 1012 r)) ∧ bd 20 (σ 1000 8)
theorem KB.of {σ σ' : XS9} (h : KB σ) (e : ∀ q, (q = 2001 ∨ q = 2002 ∨ q = 2003 ∨ (2101 ≤ q ∧ q ≤ 2160) ∨ q = 1012) → σ' q = σ q) (e8 : σ' 1000 8 = σ 1000 8) : KB σ' := by
  obtain ⟨h1, h2, h3, h4, h5, h6⟩ := h
  refine ⟨fun i hi => ?_, fun i hi => ?_, fun i hi => ?_, fun k r hk hr => ?_, fun r hr => ?_, by rw [e8]; exact h6⟩
  · rw [e _ (by omega)]; exact h1 i hi
  · rw [e _ (by omega)]; exact h2 i hi
  · rw [e _ (by omega)]; exact h3 i hi
  · rw [e _ (by omega)]; exact h4 k r hk hr
  · rw [e _ (by omega)]; exact h5 r hr
theorem KB.rows {σ σ' : XS9} (h : KB σ) (e : ∀ q, (q = 2001 ∨ q = 2002 ∨ q = 2003 ∨ (2101 ≤ q ∧ q ≤ 2160) ∨ q = 1012 ∨ q = 1000) → σ' q = σ q) : KB σ' := h.of (fun q hq => e q (by omega)) (by rw [e _ (by omega)])
theorem KB.set {σ : XS9} (h : KB σ) {q i : Nat} {x : Int32} (hq : ¬ (q = 2001 ∨ q = 2002 ∨ q = 2003 ∨ (2101 ≤ q ∧ q ≤ 2160) ∨ q = 1012 ∨ (q = 1000 ∧ i = 8))) : KB (u2 σ q i x) := by
  refine h.of (fun q9 h9 => u2_ne (by omega)) ?_
  by_cases e : q = 1000
  · subst e
    exact u2_oi (by omega)
  · rw [u2_ne (by omega)]
theorem KB.put {σ : XS9} {q i : Nat} {x : Int32} (h : KB σ) (hx : ((q = 2002 ∨ q = 2003) ∧ bd 7775 x) ∨ ((q = 2001 ∨ (2101 ≤ q ∧ q ≤ 2160)) ∧ bd 9999 x) ∨ (q = 1012 ∧ bd 999 x) ∨ (q = 1000 ∧ i = 8 ∧ bd 20 x)) : KB (u2 σ q i x) := by
  have g : ∀ (P : Int32 → Prop) q9 i9, P (σ q9 i9) → (q9 = q → i9 = i → P x) → P (u2 σ q i x q9 i9) := fun P q9 i9 h1 h2 => by
    by_cases e1 : q9 = q
    · by_cases e2 : i9 = i
      · subst e1
        subst e2
        rw [u2_at]
        exact h2 rfl rfl
      · rw [show u2 σ q i x q9 i9 = σ q9 i9 from by subst e1; exact u2_oi e2]
        exact h1
    · rw [u2_ne e1]
      exact h1
  obtain ⟨h1, h2, h3, h4, h5, h6⟩ := h
  refine ⟨fun i hi => g _ _ _ (h1 i hi) (fun a b => ?_), fun i hi => g _ _ _ (h2 i hi) (fun a b => ?_), fun i hi => g _ _ _ (h3 i hi) (fun a b => ?_), fun k r hk hr => g _ _ _ (h4 k r hk hr) (fun a b => ?_), fun r hr => g _ _ _ (h5 r hr) (fun a b => ?_), g _ _ _ h6 (fun a b => ?_)⟩ <;> (rcases hx with ⟨z1, z⟩ | ⟨z1, z⟩ | ⟨z1, z⟩ | ⟨z1, z2, z⟩ <;> first | exact z | (exfalso; omega))
theorem KB.row {σ : XS9} {q : Nat} {f : Nat → Int32} (h : KB σ) (hx : ¬ (q = 2001 ∨ q = 2002 ∨ q = 2003 ∨ (2101 ≤ q ∧ q ≤ 2160) ∨ q = 1012 ∨ q = 1000) ∨ ((q = 2002 ∨ q = 2003) ∧ ∀ i, i < 6 → bd 7775 (f i)) ∨ ((q = 2001 ∨ (2101 ≤ q ∧ q ≤ 2160)) ∧ ∀ i, i < 5 → bd 9999 (f i))) : KB (uR σ q f) := by
  have g : ∀ (P : Int32 → Prop) q9 i9, P (σ q9 i9) → (q9 = q → P (f i9)) → P (uR σ q f q9 i9) := fun P q9 i9 h1 h2 => by
    by_cases e1 : q9 = q
    · subst e1
      rw [uR_eq]
      exact h2 rfl
    · rw [uR_ne e1]
      exact h1
  obtain ⟨h1, h2, h3, h4, h5, h6⟩ := h
  refine ⟨fun i hi => g _ _ _ (h1 i hi) (fun a => ?_), fun i hi => g _ _ _ (h2 i hi) (fun a => ?_), fun i hi => g _ _ _ (h3 i hi) (fun a => ?_), fun k r hk hr => g _ _ _ (h4 k r hk hr) (fun a => ?_), fun r hr => g _ _ _ (h5 r hr) (fun a => ?_), g _ _ _ h6 (fun a => ?_)⟩ <;> (rcases hx with z | ⟨z1, z⟩ | ⟨z1, z⟩ <;> first | exact z _ ‹_› | (exfalso; omega))
theorem cpy_lo {f g : Nat → Int32} {n j : Nat} (h : j < n) : va_cpy f g 0 0 n j = f j := by
  unfold va_cpy
  rw [if_pos (by omega), Nat.zero_add, Nat.sub_zero]
theorem KB.fill {s : XS9} (h : KB s) {a n : Nat} {x : Int32} (ha : ((a = 2002 ∨ a = 2003) ∧ bd 7775 x) ∨ ¬ (a = 2001 ∨ a = 2002 ∨ a = 2003 ∨ (2101 ≤ a ∧ a ≤ 2160) ∨ a = 1012 ∨ a = 1000)) : KB (g_fill s a n x) := by
  unfold g_fill x_fill_5
  refine xit_inv KB (N := n) (fun i3 s3 _ hP3 => ?_) n 0 _ (Nat.zero_add _) h
  rcases ha with ha | ha
  · exact hP3.put (.inl ha)
  · exact hP3.set (by omega)
theorem KB.begin {s : XS9} (h : KB s) : KB (g_begin s 2000) := by
  have z : bd 7775 0 := bd.zero
  unfold g_begin
  refine KB.set (q := 2000) (KB.set (q := 2000) (KB.fill (KB.fill (KB.fill (KB.fill (KB.row (KB.row h (q := 2001) ?_) (q := 2004) (.inl (by decide))) (.inl ⟨.inl rfl, z⟩)) (.inl ⟨.inr rfl, z⟩)) (.inr (by decide))) (.inr (by decide))) (by decide)) (by decide)
  exact .inr (.inr ⟨.inl rfl, fun i hi => by rw [cpy_lo hi]; exact (h.2.2.2.2.1 i hi).le (by decide)⟩)
theorem KB.undo {s : XS9} (h : KB s) {B K : Nat} (hB6 : B ≤ 6) : KB (g_undoContradictions s 2000 B K) := by
  unfold g_undoContradictions x_undoContradictions_2
  refine xit_inv KB (N := B) (fun i s2 hi hP => ?_) B 0 _ (Nat.zero_add _) h
  (try dsimp only)
  split
  · exact hP
  · exact (hP.set (q := 2006) (by omega)).put (.inl ⟨.inr rfl, hP.1 i (by omega)⟩)
theorem KB.lower {s : XS9} (h : KB s) {B : Nat} : KB (g_lowerEligible s 2000 B) := h.rows fun q hq => fr_lowerEligible (by omega)
theorem KB.held2 {s s0 : XS9} (h : KB s0) {r B : Nat} (hr : r < 5) (hB6 : B ≤ 6) : KB (x_moveHeld_2 s 2000 r B s0) := by
  unfold x_moveHeld_2
  refine xit_inv KB (N := B) (fun i s2 hi hP => ?_) B 0 _ (Nat.zero_add _) h
  (try dsimp only)
  split
  · exact hP
  · exact hP.put (.inl ⟨.inl rfl, (hP.1 i (by omega)).replaced hr ((hP.2.1 i (by omega)).many hr)⟩)
theorem held_amt {h w o : Int32} (hh : bd 5 h) (hw : bd 5 w) (ho : ¬ o ≤ 0) : bd 5 (h - (if (h - w) < o then (h - w) else o)) := by
  have h2 := hh.2
  have w2 := hw.2
  have o0 : 0 ≤ o := Int32.le_of_lt (Int32.not_le.mp ho)
  obtain ⟨e1, e2⟩ := cn_of o0
  rw [hh.1, hw.1]
  generalize cn h = a at h2
  generalize cn w = b at w2
  by_cases hab : b ≤ a
  · rw [nI_minus hab]
    split
    · rw [nI_minus (by omega)]
      exact bd.nat (by omega) (by decide)
    · rename_i q
      have q2 : o ≤ nI (a - b) := Int32.not_lt.mp q
      have q3 := Int32.le_iff_toInt_le.mp q2
      rw [toI_nI (by omega)] at q3
      rw [e1, nI_minus (by omega)]
      exact bd.nat (by omega) (by decide)
  · have e : nI a - nI b = - nI (b - a) := by
      rw [← nI_minus (by omega : a ≤ b), Int32.neg_sub]
    have lt : nI a - nI b < o := by
      rw [e]
      have hb : -nI (b - a) ≤ 0 := by
        have : ∀ k : Fin 6, -nI k.1 ≤ 0 := by decide
        exact this ⟨b - a, by omega⟩
      exact Int32.lt_of_le_of_lt hb (Int32.not_le.mp ho)
    rw [if_pos lt, e, Int32.sub_neg, nI_plus]
    exact bd.nat (by omega) (by decide)
theorem KB.held80 {s : XS9} {s0 : XS9 × Int32} (h : KB s0.1) {r B : Nat} (hr : r < 5) (hB6 : B ≤ 6) : KB (x_moveHeld_80 s 2000 r B s0).1 := by
  unfold x_moveHeld_80
  refine xitB_inv (fun s : XS9 × Int32 => KB s.1) (N := B) (fun i s2 hi hP => ⟨fun s' e => ?_, fun s' e => ?_⟩) B 0 _ (Nat.zero_add _) h
  · (try dsimp only at e)
    split at e
    · cases e
    · rename_i q
      rw [← Sum.inl.inj e]
      exact hP.put (.inl ⟨.inl rfl, (hP.1 i (by omega)).replaced hr (held_amt ((hP.1 i (by omega)).many hr) ((hP.2.1 i (by omega)).many hr) q)⟩)
  · (try dsimp only at e)
    split at e
    · rw [← Sum.inr.inj e]
      exact hP
    · cases e
theorem KB.held {s : XS9} (h : KB s) {r B : Nat} (hr : r < 5) (hB6 : B ≤ 6) : KB (g_moveHeld s 2000 r B) := by
  unfold g_moveHeld
  exact KB.held80 (KB.held2 (s := s) h hr hB6) hr hB6
theorem raise_amt {p x : Int32} (hp : bd 9999 p) (hx : bd 20 x) : bd 9999 (if (p + (if 1 < ((p * x) / 100) then ((p * x) / 100) else 1)) < 9999 then (p + (if 1 < ((p * x) / 100) then ((p * x) / 100) else 1)) else 9999) := by
  have p2 := hp.2
  have x2 := hx.2
  rw [hp.1, hx.1]
  generalize cn p = a at p2
  generalize cn x = b at x2
  have hab : a * b ≤ 9999 * 20 := Nat.mul_le_mul p2 x2
  rw [nI_mul, show (100 : Int32) = nI 100 from rfl, nI_div (by omega) (by decide) (by decide)]
  have hv : ∃ v, v ≤ 2000 ∧ (if 1 < nI (a * b / 100) then nI (a * b / 100) else 1) = nI v := by
    split
    · exact ⟨a * b / 100, by omega, rfl⟩
    · exact ⟨1, by decide, rfl⟩
  obtain ⟨v, hv1, hv2⟩ := hv
  rw [hv2, nI_plus]
  split
  · rename_i q
    exact bd.nat (Nat.le_of_lt ((nI_ltI (a := a + v) (b := 9999) (by omega) (by omega)).mp q)) (by decide)
  · exact bd.nat (n := 9999) (Nat.le_refl _) (by decide)
theorem KB.raise {s : XS9} (h : KB s) {x : Int32} {R : Nat} (hx : bd 20 x) (hR5 : R ≤ 5) : KB (g_raisePrices s 2000 x R) := by
  unfold g_raisePrices x_raisePrices_5
  refine xit_inv (fun s : XS9 × Int32 => KB s.1) (N := R) (fun i s2 hi hP => ?_) R 0 _ (Nat.zero_add _) h
  (try dsimp only)
  split
  · exact hP
  · exact hP.put (.inr (.inl ⟨.inl rfl, raise_amt (hP.2.2.1 i (by omega)) hx⟩))
theorem KB.held92 {s s0 : XS9} (h : KB s0) {x : Int32} {B R K : Nat} (hR5 : R ≤ 5) (hB6 : B ≤ 6) : KB (x_closeRound_92 s 2000 x B R K s0) := by
  unfold x_closeRound_92
  exact xit_inv KB (N := R) (fun i s2 hi hP => hP.held (by omega) hB6) R 0 _ (Nat.zero_add _) h
theorem KB.closeRound {s : XS9} (h : KB s) {x : Int32} {B R K : Nat} (hx : bd 20 x) (hR5 : R ≤ 5) (hB6 : B ≤ 6) (hK60 : K ≤ 60) : KB (g_closeRound s 2000 x B R K) := by
  unfold g_closeRound
  split
  · rename_i hK
    have A : K < 60 → KB (uR (uR (u2 (u2 s (2000 + 7) K x) (2000 + 8) K (s 2000 12)) (2000 + 101 + K) (va_cpy (s (2000 + 1)) (s (2000 + 101 + K)) 0 0 5)) (2000 + 201 + K) (va_cpy (s (2000 + 3)) (s (2000 + 201 + K)) 0 0 6)) := fun hk =>
      KB.row (KB.row (KB.set (q := 2008) (KB.set (q := 2007) h (by omega)) (by omega)) (.inr (.inr ⟨.inr (by omega), fun i hi => by rw [cpy_lo hi]; exact h.2.2.1 i hi⟩))) (.inl (by omega))
    have hk : K < 60 := (nI_ltI (a := K) (b := 60) (by omega) (by omega)).mp hK
    have A := A hk
    generalize uR (uR (u2 (u2 s (2000 + 7) K x) (2000 + 8) K (s 2000 12)) (2000 + 101 + K) (va_cpy (s (2000 + 1)) (s (2000 + 101 + K)) 0 0 5)) (2000 + 201 + K) (va_cpy (s (2000 + 3)) (s (2000 + 201 + K)) 0 0 6) = t at A ⊢
    have fin : ∀ u, KB u → KB (u2 (u2 (uR (uR (g_raisePrices u 2000 x R) (2000 + 301 + K) (va_cpy (u (2000 + 2)) (u (2000 + 301 + K)) 0 0 6)) (2000 + 3) (va_cpy (u (2000 + 2)) (u (2000 + 3)) 0 0 6)) 2000 12 0) 2000 9 (nI (K + 1))) := fun u hu =>
      KB.set (KB.set (KB.row (KB.row (hu.raise hx hR5) (.inl (by omega))) (.inr (.inl ⟨.inr rfl, fun i hi => by rw [cpy_lo hi]; exact hu.1 i hi⟩))) (by decide)) (by decide)
    split
    · exact fin _ (KB.held92 A.lower hR5 hB6)
    · exact fin _ (KB.held92 (A.undo hB6).lower hR5 hB6)
  · exact h
theorem bd.ge0 {m : Nat} {v : Int32} (h : bd m v) (hm : m < 2147483648) : 0 ≤ v := by
  rw [h.1]
  exact xx_ge0 _ (by have := h.2; omega)
theorem JC.closeRound {s : XS9} (h : JC s) {x : Int32} {B R : Nat} : JC (g_closeRound s 2000 x B R (cn (s 2000 9))) := by
  have h60 := h.2.2.1.2
  have e : ∀ q, q ≠ 2000 → q < 2001 → g_closeRound s 2000 x B R (cn (s 2000 9)) q = s q := fun q a b => fr_closeRound (by omega)
  obtain ⟨h1, h2, h3, h4, h5, h6, h7, h8, h9, h10, h11, h12⟩ := h
  refine ⟨by rw [e _ (by omega) (by omega)]; exact h1, by rw [e _ (by omega) (by omega)]; exact h2, by rw [rounds_closeRound' h60 h3.1]; exact bd.nat (by omega) (by decide), by rw [e _ (by omega) (by omega)]; exact h4, by rw [e _ (by omega) (by omega)]; exact h5, fun i hi => ?_, fun i hi => ?_, fun i hi => ?_, fun i k hi hk => ?_, fun i hi => ?_, fun i k hi hk => ?_, fun r k hr hk => ?_⟩
  · rw [e _ (by omega) (by omega)]; exact h6 i hi
  · rw [e _ (by omega) (by omega)]; exact h7 i hi
  · rw [e _ (by omega) (by omega)]; exact h8 i hi
  · rw [e _ (by omega) (by omega)]; exact h9 i k hi hk
  · rw [e _ (by omega) (by omega)]; exact h10 i hi
  · rw [e _ (by omega) (by omega)]; exact h11 i k hi hk
  · rw [e _ (by omega) (by omega)]; exact h12 r k hr hk
theorem KB.addM {s : XS9} (h : KB s) {i : Nat} {x y : Int32} {R B : Nat} {gr cnt : Nat → Nat} (hi : i < 6) (hg : ∀ i, i < 6 → gr i < 4) (hc : cnt i ≤ 6) : KB (g_addM s i x y R B gr cnt) := h.rows fun q hq => fr_addM ⟨hi, by omega, hg⟩ hc
theorem KB.find {s : XS9} (h : KB s) : KB (g_find s) := h.rows fun q hq => fr_find (by omega)
theorem JK.endClock {s : XS9} (hJ : JC s) (hK : KB s) {R B K : Nat} {gr : Nat → Nat} (hB6 : B ≤ 6) (hK60 : K < 60) (hg : ∀ i, i < 6 → gr i < 4) : JC (g_endClock s R B K gr) ∧ KB (g_endClock s R B K gr) := by
  unfold g_endClock
  have e : JC (x_endClock_7 s R B K gr (u2 s 1000 7 2)) ∧ KB (x_endClock_7 s R B K gr (u2 s 1000 7 2)) := by
    unfold x_endClock_7
    refine xit_inv (fun s => JC s ∧ KB s) (N := B) (fun i s7 hi hP => ?_) B 0 _ (Nat.zero_add _) ⟨hJ.set (ky1000 (by decide)), hK.set (by decide)⟩
    (try dsimp only)
    split
    · exact hP
    · have hi6 : i < 6 := by omega
      have h2 := hP.2.1 i hi6
      have hc := (hP.1.2.2.2.2.2.2.1 i hi6).2
      refine ⟨hP.1.addM hi6 hg hc (h2.ge0 (by decide)) (bd.ge0 (m := 249975) ?_ (by decide)), hP.2.addM hi6 hg hc⟩
      unfold f_lastValue
      exact h2.total (fun r hr => hP.2.2.2.2.1 K r hK60 hr)
  exact ⟨e.1.find, e.2.find⟩
theorem JK.close {σ : XS9} (hJ : JC σ) (hK : KB σ) {x : Int32} {R B : Nat} {gr : Nat → Nat} (hR5 : R ≤ 5) (hB6 : B ≤ 6) (hg : ∀ i, i < 6 → gr i < 4) : JC (g_close σ x R B gr) ∧ KB (g_close σ x R B gr) := by
  unfold g_close
  split
  · split
    · unfold x_close_14
      refine xitB_inv (fun s => JC s ∧ KB s) (N := cn x) (fun i s hi hP => ?_) (cn x) 0 _ (Nat.zero_add _) ⟨hJ, hK⟩
      have C1 : JC (g_closeRound s 2000 (s 1000 8) B R (cn (s 2000 9))) ∧ KB (g_closeRound s 2000 (s 1000 8) B R (cn (s 2000 9))) := ⟨hP.1.closeRound, hP.2.closeRound hP.2.2.2.2.2.2 hR5 hB6 hP.1.2.2.1.2⟩
      refine ⟨fun s' e => ?_, fun s' e => ?_⟩
      · by_cases c1 : s 1000 7 = 1
        · rw [if_pos c1] at e
          by_cases c2 : f_closeRound s 2000 (s 1000 8) B R (cn (s 2000 9)) = 0
          · rw [if_pos c2] at e
            rw [← Sum.inl.inj e]
            exact C1
          · rw [if_neg c2] at e
            rw [← Sum.inl.inj e]
            exact JK.endClock C1.1 C1.2 hB6 (by omega) hg
        · rw [if_neg c1] at e
          exact absurd e (by intro e; cases e)
      · by_cases c1 : s 1000 7 = 1
        · rw [if_pos c1] at e
          by_cases c2 : f_closeRound s 2000 (s 1000 8) B R (cn (s 2000 9)) = 0
          · rw [if_pos c2] at e
            exact absurd e (by intro e; cases e)
          · rw [if_neg c2] at e
            exact absurd e (by intro e; cases e)
        · rw [if_neg c1] at e
          rw [← Sum.inr.inj e]
          exact hP
    · exact ⟨hJ, hK⟩
  · exact ⟨hJ, hK⟩
theorem KB.init : KB s0C := by
  have z : ∀ q, q ≠ 1001 → q ≠ 1042 → ¬ ((1051 ≤ q ∧ q ≤ 1114) ∨ q = 1043 ∨ q = 1040 ∨ (1141 ≤ q ∧ q ≤ 1145)) → q ≠ 1000 → ∀ i m, bd m (s0C q i) := fun q a b c d i m => by
    rw [s0C_z a b c d]
    exact bd.zero
  refine ⟨fun i _ => z _ (by omega) (by omega) (by omega) (by omega) _ _, fun i _ => z _ (by omega) (by omega) (by omega) (by omega) _ _, fun i _ => z _ (by omega) (by omega) (by omega) (by omega) _ _, fun k r _ _ => z _ (by omega) (by omega) (by omega) (by omega) _ _, fun i _ => z _ (by omega) (by omega) (by omega) (by omega) _ _, ?_⟩
  exact ⟨by decide, by decide⟩
section
variable {σ : XS9} {R B C K w : Nat}
theorem KB.region {x y z : Int32} (h : KB σ) : KB (g_region σ x y z R) := by
  unfold g_region
  split
  · split
    · split
      · rename_i hz
        split
        · split
          · refine KB.begin ?_
            unfold g_addRegion
            exact KB.set (q := 1001) (KB.put (KB.set (q := 1011) (KB.set (q := 1010) h (by omega)) (by omega)) (.inr (.inr (.inl ⟨rfl, bd.bt hz (by decide) rfl (by decide)⟩)))) (by omega)
          · exact h
        · exact h
      · exact h
    · exact h
  · exact h
theorem KB.bidder {x y z v : Int32} (h : KB σ) : KB (g_bidder σ x y z v B) := by
  unfold g_bidder
  split
  · split
    · split
      · split
        · split
          · split
            · refine KB.begin ?_
              unfold g_addBidder
              exact KB.set (q := 1001) (KB.set (q := 1017) (KB.set (q := 1016) (KB.set (q := 1015) (KB.set (q := 1014) h (by omega)) (by omega)) (by omega)) (by omega)) (by omega)
            · exact h
          · exact h
        · exact h
      · exact h
    · exact h
  · exact h
theorem KB.border {x y : Int32} (h : KB σ) : KB (g_border σ x y R) := by
  unfold g_border
  split
  · split
    · split
      · exact h
      · split
        · unfold g_addBorder
          exact KB.set (q := 1013) (KB.set (q := 1013) h (by omega)) (by omega)
        · exact h
    · exact h
  · exact h
theorem KB.rules {x y : Int32} (h : KB σ) : KB (g_rules σ x y) := by
  unfold g_rules
  split
  · split
    · exact KB.set (q := 1001) (KB.set (q := 1001) h (by omega)) (by omega)
    · exact h
  · exact h
theorem KB.step {x : Int32} (h : KB σ) : KB (g_step σ x) := by
  unfold g_step
  split
  · rename_i hx
    have p : KB (u2 σ 1000 8 x) := h.put (.inr (.inr (.inr ⟨rfl, rfl, bd.bt hx (by decide) rfl (by decide)⟩)))
    split
    · exact p
    · split
      · exact p
      · exact h
  · exact h
theorem KB.opn (h : KB σ) : KB (g_open σ R B) := by
  unfold g_open
  split
  · split
    · exact h
    · split
      · exact h
      · exact KB.set (q := 1000) h (by omega)
  · exact h
theorem KB.wish {x y z : Int32} (h : KB σ) (hR5 : R ≤ 5) (hB6 : B ≤ 6) : KB (g_wish σ x y z R B) := by
  unfold g_wish
  split
  · rename_i hx
    split
    · rename_i hy
      split
      · rename_i hz
        have z1 : bd 5 (nI (cn z)) := by
          have b := bd.bt hz (by decide) (m := 5) rfl (by decide)
          rw [← b.1]
          exact b
        split
        · split
          · exact h
          · have hx2 := hx.2
            have hy2 := hy.2
            exact h.put (.inl ⟨.inr rfl, (h.2.1 (cn x) (by omega)).replaced (by omega) z1⟩)
        · exact h
      · exact h
    · exact h
  · exact h
theorem KB.waive {x : Int32} (h : KB σ) : KB (g_waive σ x B) := by
  unfold g_waive
  split
  · split
    · split
      · exact h
      · split
        · unfold g_useWaiver
          exact KB.set (q := 2000) (KB.set (q := 2005) h (by omega)) (by omega)
        · exact h
    · exact h
  · exact h
theorem KB.station {x y : Int32} (h : KB σ) : KB (g_station σ x y R C) := by
  unfold g_station
  split
  · split
    · split
      · unfold g_add
        exact KB.set (q := 1006) (KB.set (q := 1150) (KB.set (q := 1151) h (by omega)) (by omega)) (by omega)
      · exact h
    · exact h
  · exact h
theorem KB.ask {x y : Int32} (h : KB σ) : KB (g_ask σ x y C) := by
  unfold g_ask
  split
  · split
    · exact KB.set (q := 1150) h (by omega)
    · exact h
  · exact h
theorem KB.pack {x : Int32} {ch : Nat} {rg : Nat → Nat} (h : KB σ) : KB (g_pack σ x ch C rg) := h.rows fun q hq => fr_packM (by omega)
theorem KB.cheapest {ch : Nat} {rg : Nat → Nat} (h : KB σ) : KB (g_cheapest σ ch C rg) := h.rows fun q hq => fr_cheapest (by omega)
theorem KB.packs {x y : Int32} {rg : Nat → Nat} (h : KB σ) : KB (g_packs σ x y C rg) := by
  unfold g_packs
  split
  · split
    · exact h.pack
    · exact h
  · exact h
theorem KB.channel {x y z : Int32} {rg : Nat → Nat} (h : KB σ) : KB (g_channel σ x y z C rg) := by
  unfold g_channel
  split
  · split
    · split
      · exact h.pack
      · exact h
    · exact h
  · exact h
theorem KB.clear {x : Int32} {rg : Nat → Nat} (h : KB σ) : KB (g_clear σ x C rg) := by
  unfold g_clear
  split
  · exact h.cheapest
  · exact h
theorem KB.runLog {x y : Int32} {j r : Nat} (h : KB σ) (hK60 : K ≤ 60) : KB (g_runLog σ 3000 2000 x j r y B R K) := h.rows fun q hq => fr_runLog hK60 (by omega)
theorem KB.anew {x y z v : Int32} (h : KB σ) (hK60 : K ≤ 60) : KB (g_anew σ x y z v R B K) := by
  unfold g_anew
  split
  · split
    · split
      · split
        · exact h.runLog hK60
        · exact h
      · exact h
    · exact h
  · exact h
theorem KB.isSound (h : KB σ) (hK60 : K ≤ 60) : KB (g_isSound σ R B w K) := h.runLog hK60
theorem KB.digest {rg : Nat → Nat} (h : KB σ) (hK60 : K ≤ 60) : KB (g_digest σ K B R C w rg) := by
  unfold g_digest g_dgS
  split
  · exact KB.isSound h.cheapest.cheapest hK60
  · exact KB.isSound h hK60
theorem KB.knock (h : KB σ) : KB (g_knock σ) := KB.set (q := 1000) h (by omega)
theorem KB.offer {x y z : Int32} {gr cnt : Nat → Nat} (h : KB σ) (hB6 : B ≤ 6) (hg : ∀ i, i < 6 → gr i < 4) (hc : ∀ i, i < 6 → cnt i ≤ 6) : KB (g_offer σ x y z R B gr cnt) := by
  unfold g_offer
  split
  · rename_i hx
    have hx6 : cn x < 6 := by have := hx.2; omega
    split
    · exact h
    · split
      · split
        · split
          · exact h
          · split
            · exact h
            · exact (h.addM hx6 hg (hc _ hx6)).find
        · exact h
      · exact h
  · exact h
theorem KB.give {sp : Nat → Nat} (h : KB σ) (hR5 : R ≤ 5) : KB (g_give σ R sp) := h.rows fun q hq => fr_give hR5 ⟨by omega, by omega⟩
theorem KB.settle {x : Int32} {sp : Nat → Nat} (h : KB σ) (hR5 : R ≤ 5) : KB (g_settle σ x R sp) := by
  unfold g_settle
  split
  · split
    · exact KB.give (KB.set (q := 1000) (KB.set (q := 1000) h (by omega)) (by omega)) hR5
    · exact h
  · exact h
theorem KB.leaveOut {i : Nat} (h : KB σ) : KB (g_leaveOut σ i) := h.rows fun q hq => fr_leaveOut (by omega)
theorem KB.fail {x : Int32} {sp : Nat → Nat} (h : KB σ) (hR5 : R ≤ 5) : KB (g_fail σ x R B sp) := by
  unfold g_fail
  split
  · split
    · split
      · exact h
      · exact KB.give (KB.set (q := 1000) h (by omega)).leaveOut.find hR5
    · exact h
  · exact h
end
end
section
/-! ===== pure facts: counts and flags of the reference's memory ===== -/
def ev (m : Nat) (v : Int32) : Prop := v = nI (2 * (cn v / 2)) ∧ cn v / 2 ≤ m
theorem ev.nat {m n : Nat} (h : n ≤ m) (hm : m < 1073741824) : ev m (nI (2 * n)) := by
  have e : cn (nI (2 * n)) = 2 * n := cn_nI (by omega)
  unfold ev
  rw [e, show 2 * n / 2 = n by omega]
  exact ⟨rfl, h⟩
theorem ev.zero {m : Nat} : ev m 0 := ⟨rfl, Nat.zero_le _⟩
def JA (σ : XS9) : Prop := bd 5 (σ 5001 900) ∧ bd 6 (σ 5002 900) ∧ bd 60 (σ 5003 900) ∧ (σ 5000 1 = 0 → σ 7000 20 = 0 ∧ σ 5003 900 = 0) ∧ (σ 7000 25 = 0 ∨ (σ 7000 25 = 1 ∧ σ 7000 20 = 1)) ∧ (σ 5000 1 = 1 → σ 7000 25 = 1 ∧ σ 7000 20 = 1) ∧
  (∀ b, (b = 7000 ∨ b = 8000) → bd 60 (σ b 21) ∧ bd 60 (σ b 22) ∧ bd 199 (σ b 23) ∧ bd 199 (σ b 24)) ∧ σ 7000 22 = σ 7000 21 ∧ (∀ j, j < 10 → ev 6 (σ (5030 + j) 900)) ∧ (∀ j, j < 6 → bd 3 (σ (5020 + j) 3)) ∧ (∀ j k, j < 6 → k < 6 → bd 7775 (σ (5030 + j) (2 * k))) ∧
  ev 10 (σ 5004 900) ∧ (∀ q, q < cn (σ 5004 900) / 2 → n_lt (σ 5004 (2 * q)) (cn (σ 5001 900))) ∧ (∀ r, r < 5 → bd 5 (σ 5007 r)) ∧ (∀ r, r < 5 → bd 5 (σ (5010 + r) 0)) ∧ (σ 5000 1 = 3 → ∀ j, j < cn (σ 5002 900) → σ 5005 j = -1 ∨ n_lt (σ 5005 j) (cn (σ (5030 + j) 900) / 2)) ∧ bd 2 (σ 5000 7)
def JF (σ : XS9) : Prop := (σ 9000 20 = 0 ∧ σ 8000 20 = 0) ∧ ∀ q, 20000 ≤ q → q < 20010 → σ q 20 = 0
theorem JF.mem {σ : XS9} (h : JF σ) : mem_eq σ σ := ⟨fun _ _ _ _ _ => rfl, ⟨⟨h.1.1, h.1.1⟩, h.1.2, h.1.2⟩, fun q a b => ⟨h.2 q a b, h.2 q a b⟩⟩
/-- the places that JA speaks of -/
def kr (q i : Nat) : Prop := (q = 5000 ∧ (i = 1 ∨ i = 7)) ∨ ((q = 5001 ∨ q = 5002 ∨ q = 5003) ∧ i = 900) ∨ (q = 5004 ∧ (i = 900 ∨ i % 2 = 0)) ∨ q = 5005 ∨ q = 5007 ∨ (5010 ≤ q ∧ q ≤ 5014 ∧ i = 0) ∨ (5020 ≤ q ∧ q ≤ 5025 ∧ i = 3) ∨ (5030 ≤ q ∧ q ≤ 5039 ∧ (i = 900 ∨ i % 2 = 0)) ∨ (q = 7000 ∧ 20 ≤ i ∧ i ≤ 25) ∨ (q = 8000 ∧ 21 ≤ i ∧ i ≤ 24)
theorem kr_5000_1 : kr 5000 1 := by unfold kr; omega
theorem kr_5000_7 : kr 5000 7 := by unfold kr; omega
theorem kr_5001_900 : kr 5001 900 := by unfold kr; omega
theorem kr_5002_900 : kr 5002 900 := by unfold kr; omega
theorem kr_5003_900 : kr 5003 900 := by unfold kr; omega
theorem kr_5004_900 : kr 5004 900 := by unfold kr; omega
theorem kr_7000_20 : kr 7000 20 := by unfold kr; omega
theorem kr_7000_21 : kr 7000 21 := by unfold kr; omega
theorem kr_7000_22 : kr 7000 22 := by unfold kr; omega
theorem kr_7000_23 : kr 7000 23 := by unfold kr; omega
theorem kr_7000_24 : kr 7000 24 := by unfold kr; omega
theorem kr_7000_25 : kr 7000 25 := by unfold kr; omega
theorem kr_07 {r : Nat} : kr 5007 r := by unfold kr; omega
theorem kr_05 {j : Nat} : kr 5005 j := by unfold kr; omega
theorem kr_04 {q : Nat} : kr 5004 (2 * q) := by unfold kr; omega
theorem kr_30 {j : Nat} (h : j < 10) : kr (5030 + j) 900 := by unfold kr; omega
theorem kr_3k {j k : Nat} (h : j < 10) : kr (5030 + j) (2 * k) := by unfold kr; omega
theorem kr_20 {j : Nat} (h : j < 6) : kr (5020 + j) 3 := by unfold kr; omega
theorem kr_10 {r : Nat} (h : r < 5) : kr (5010 + r) 0 := by unfold kr; omega
theorem kr_bj {b j : Nat} (hb : b = 7000 ∨ b = 8000) (h1 : 21 ≤ j) (h2 : j ≤ 24) : kr b j := by
  rcases hb with rfl | rfl
  · unfold kr; omega
  · unfold kr; omega
theorem JA.of {σ σ' : XS9} (h : JA σ) (e : ∀ q i, kr q i → σ' q i = σ q i) : JA σ' := by
  have k : ∀ q i, kr q i → σ' q i = σ q i := e
  obtain ⟨h1, h2, h3, h4, h5, h6, h7, h8, h9, h10, h11, h12, h13, h14, h15, h16, h17⟩ := h
  have e1 := e 5001 900 kr_5001_900
  have e2 := e 5002 900 kr_5002_900
  have e3 := e 5003 900 kr_5003_900
  have e4 := e 5004 900 kr_5004_900
  have s1 := e 5000 1 kr_5000_1
  have s7 := e 5000 7 kr_5000_7
  have f20 := e 7000 20 kr_7000_20
  have f21 := e 7000 21 kr_7000_21
  have f22 := e 7000 22 kr_7000_22
  have f25 := e 7000 25 kr_7000_25
  refine ⟨by rw [e1]; exact h1, by rw [e2]; exact h2, by rw [e3]; exact h3, by rw [s1, f20, e3]; exact h4, by rw [f25, f20]; exact h5, by rw [s1, f25, f20]; exact h6, fun b hb => ?_, by rw [f22, f21]; exact h8, fun j hj => ?_, fun j hj => ?_, fun j k hj hk => ?_, by rw [e4]; exact h12, fun q hq => ?_, fun r hr => ?_, fun r hr => ?_, fun hs j hj => ?_, by rw [s7]; exact h17⟩
  · rw [e b 21 (kr_bj hb (by decide) (by decide)), e b 22 (kr_bj hb (by decide) (by decide)), e b 23 (kr_bj hb (by decide) (by decide)), e b 24 (kr_bj hb (by decide) (by decide))]
    exact h7 b hb
  · rw [e _ _ (kr_30 (by omega))]; exact h9 j hj
  · rw [e _ _ (kr_20 (by omega))]; exact h10 j hj
  · rw [e _ _ (kr_3k (by omega))]; exact h11 j k hj hk
  · rw [e4] at hq
    rw [e _ _ kr_04, e1]
    exact h13 q hq
  · rw [e _ _ kr_07]; exact h14 r hr
  · rw [e _ _ (kr_10 (by omega))]; exact h15 r hr
  · rw [s1] at hs
    rw [e2] at hj
    have hj6 : j < 6 := by have := h2.2; omega
    rw [e 5005 j kr_05, e (5030 + j) 900 (kr_30 (by omega))]
    exact h16 hs j hj
theorem JA.set {σ : XS9} (h : JA σ) {q i : Nat} {x : Int32} (hq : ¬ kr q i) : JA (u2 σ q i x) := h.of fun q9 i9 hk => by
  by_cases e : q9 = q
  · subst e
    exact u2_oi (fun e2 => hq (by rw [← e2]; exact hk))
  · rw [u2_ne e]
theorem JF.set {σ : XS9} (h : JF σ) {q i : Nat} {x : Int32} (hq : (i ≠ 20 ∨ (q ≠ 9000 ∧ q ≠ 8000 ∧ (q < 20000 ∨ 20010 ≤ q))) ∨ x = 0) : JF (u2 σ q i x) := by
  have g : ∀ q9, (q9 = 9000 ∨ q9 = 8000 ∨ (20000 ≤ q9 ∧ q9 < 20010)) → σ q9 20 = 0 → u2 σ q i x q9 20 = 0 := fun q9 h9 z => by
    by_cases e1 : q9 = q
    · by_cases e2 : 20 = i
      · subst e1
        subst e2
        rw [u2_at]
        rcases hq with w | w
        · omega
        · exact w
      · rw [show u2 σ q i x q9 20 = σ q9 20 from by subst e1; exact u2_oi e2]
        exact z
    · rw [u2_ne e1]
      exact z
  exact ⟨⟨g _ (.inl rfl) h.1.1, g _ (.inr (.inl rfl)) h.1.2⟩, fun q9 a b => g _ (.inr (.inr ⟨a, b⟩)) (h.2 q9 a b)⟩
theorem JF.rows {σ σ' : XS9} (h : JF σ) (e : ∀ q, (q = 9000 ∨ q = 8000 ∨ (20000 ≤ q ∧ q < 20010)) → σ' q 20 = σ q 20) : JF σ' := ⟨⟨(e _ (.inl rfl)).trans h.1.1, (e _ (.inr (.inl rfl))).trans h.1.2⟩, fun q a b => (e q (.inr (.inr ⟨a, b⟩))).trans (h.2 q a b)⟩
def JR (σ : XS9) : Prop := JA σ ∧ JF σ
theorem kr50 {i : Nat} (hi : i ≠ 1 ∧ i ≠ 7) : ¬ kr 5000 i := fun k => by unfold kr at k; omega
theorem JR.set {σ : XS9} (h : JR σ) {q i : Nat} {x : Int32} (hq : ¬ kr q i) (h9 : i ≠ 20 ∨ (q ≠ 9000 ∧ q ≠ 8000 ∧ (q < 20000 ∨ 20010 ≤ q))) : JR (u2 σ q i x) := ⟨h.1.set hq, h.2.set (.inl h9)⟩
theorem JR.s0 {σ : XS9} (h : JR σ) {x : Int32} : JR (u2 σ 5000 0 x) := h.set (kr50 (by decide)) (.inl (by decide))
theorem JR.s00 {σ : XS9} (h : JR σ) {x : Int32} : JR (u2 (u2 σ 5000 0 0) 5000 0 x) := h.s0.s0
/-- what is made in rows from 9000 on and dropped behind -/
theorem JR.hi {σ σ' : XS9} (h : JR σ) (e : ∀ q, q < 8000 ∨ q = 8000 → σ' q = σ q) (f : JF σ') : JR σ' := ⟨h.1.of fun q i hk => by rw [e q (by unfold kr at hk; omega)], f⟩
theorem u2_o {σ : XS9} {r i q j : Nat} {x : Int32} (h : q = r → j = i → False) : u2 σ r i x q j = σ q j := by
  by_cases e : q = r
  · subst e
    exact u2_oi (fun e2 => h rfl e2)
  · rw [u2_ne e]
/-! the reference's methods keep it -/
theorem JA.addRegion {σ σ2 : XS9} {R : Nat} {x : Int32} (hR : σ 5001 900 = nI R) (hR5 : R < 5) (hx : bd 5 x) (n1 : σ2 5001 900 = nI (R + 1)) (n2 : σ2 (5010 + R) 0 = x) (h : JA σ) (e : ∀ q i, kr q i → (¬ (q = 5001 ∧ i = 900) ∧ ¬ (q = 5010 + R ∧ i = 0)) → σ2 q i = σ q i) : JA σ2 := by
  obtain ⟨h1, h2, h3, h4, h5, h6, h7, h8, h9, h10, h11, h12, h13, h14, h15, h16, h17⟩ := h
  refine ⟨?_, ?_, ?_, ?_, ?_, ?_, ?_, ?_, ?_, ?_, ?_, ?_, ?_, ?_, ?_, ?_, ?_⟩
  · rw [n1]; exact bd.nat (by omega) (by decide)
  · rw [e 5002 900 kr_5002_900 (by omega)]; exact h2
  · rw [e 5003 900 kr_5003_900 (by omega)]; exact h3
  · rw [e 5000 1 kr_5000_1 (by omega), e 7000 20 kr_7000_20 (by omega), e 5003 900 kr_5003_900 (by omega)]; exact h4
  · rw [e 7000 25 kr_7000_25 (by omega), e 7000 20 kr_7000_20 (by omega)]; exact h5
  · rw [e 5000 1 kr_5000_1 (by omega), e 7000 25 kr_7000_25 (by omega), e 7000 20 kr_7000_20 (by omega)]; exact h6
  · intro b hb
    rw [e b 21 (kr_bj hb (by decide) (by decide)) (by omega), e b 22 (kr_bj hb (by decide) (by decide)) (by omega), e b 23 (kr_bj hb (by decide) (by decide)) (by omega), e b 24 (kr_bj hb (by decide) (by decide)) (by omega)]; exact h7 b hb
  · rw [e 7000 22 kr_7000_22 (by omega), e 7000 21 kr_7000_21 (by omega)]; exact h8
  · intro j hj
    rw [e (5030 + j) 900 (kr_30 (by omega)) (by omega)]; exact h9 j hj
  · intro j hj
    rw [e (5020 + j) 3 (kr_20 (by omega)) (by omega)]; exact h10 j hj
  · intro j k hj hk
    rw [e (5030 + j) (2 * k) (kr_3k (by omega)) (by omega)]; exact h11 j k hj hk
  · rw [e 5004 900 kr_5004_900 (by omega)]; exact h12
  · intro q hq
    rw [e 5004 900 kr_5004_900 (by omega)] at hq
    have hq10 : q < 10 := by have := h12.2; omega
    have h9 := h13 q hq
    rw [hR, cn_nI (by omega)] at h9
    rw [e 5004 (2 * q) kr_04 (by omega), n1, cn_nI (by omega)]; exact ⟨h9.1, by have := h9.2; omega⟩
  · intro r hr
    rw [e 5007 r kr_07 (by omega)]; exact h14 r hr
  · intro r hr
    by_cases er : r = R
    · rw [er, n2]; exact hx
    · rw [e (5010 + r) 0 (kr_10 (by omega)) (by omega)]; exact h15 r hr
  · intro hs j hj
    rw [e 5000 1 kr_5000_1 (by omega)] at hs
    rw [e 5002 900 kr_5002_900 (by omega)] at hj
    have hj6 : j < 6 := by have := h2.2; omega
    rw [e 5005 j kr_05 (by omega), e (5030 + j) 900 (kr_30 (by omega)) (by omega)]; exact h16 hs j hj
  · rw [e 5000 7 kr_5000_7 (by omega)]; exact h17
theorem JA.addBidder {σ σ2 : XS9} {B : Nat} {u : Int32} (hB6 : B < 6) (hu : bd 3 u) (hs0 : σ 5000 1 = 0) (n1 : σ2 5002 900 = nI (B + 1)) (n2 : σ2 (5020 + B) 3 = u) (n3 : σ2 (5030 + B) 900 = 0) (h : JA σ) (e : ∀ q i, kr q i → (¬ (q = 5002 ∧ i = 900) ∧ ¬ (q = 5020 + B ∧ i = 3) ∧ ¬ (q = 5030 + B ∧ i = 900)) → σ2 q i = σ q i) : JA σ2 := by
  obtain ⟨h1, h2, h3, h4, h5, h6, h7, h8, h9, h10, h11, h12, h13, h14, h15, h16, h17⟩ := h
  refine ⟨?_, ?_, ?_, ?_, ?_, ?_, ?_, ?_, ?_, ?_, ?_, ?_, ?_, ?_, ?_, ?_, ?_⟩
  · rw [e 5001 900 kr_5001_900 (by omega)]; exact h1
  · rw [n1]; exact bd.nat (by omega) (by decide)
  · rw [e 5003 900 kr_5003_900 (by omega)]; exact h3
  · rw [e 5000 1 kr_5000_1 (by omega), e 7000 20 kr_7000_20 (by omega), e 5003 900 kr_5003_900 (by omega)]; exact h4
  · rw [e 7000 25 kr_7000_25 (by omega), e 7000 20 kr_7000_20 (by omega)]; exact h5
  · rw [e 5000 1 kr_5000_1 (by omega), e 7000 25 kr_7000_25 (by omega), e 7000 20 kr_7000_20 (by omega)]; exact h6
  · intro b hb
    rw [e b 21 (kr_bj hb (by decide) (by decide)) (by omega), e b 22 (kr_bj hb (by decide) (by decide)) (by omega), e b 23 (kr_bj hb (by decide) (by decide)) (by omega), e b 24 (kr_bj hb (by decide) (by decide)) (by omega)]; exact h7 b hb
  · rw [e 7000 22 kr_7000_22 (by omega), e 7000 21 kr_7000_21 (by omega)]; exact h8
  · intro j hj
    by_cases er : j = B
    · rw [er, n3]; exact ev.zero
    · rw [e (5030 + j) 900 (kr_30 (by omega)) (by omega)]; exact h9 j hj
  · intro j hj
    by_cases er : j = B
    · rw [er, n2]; exact hu
    · rw [e (5020 + j) 3 (kr_20 (by omega)) (by omega)]; exact h10 j hj
  · intro j k hj hk
    rw [e (5030 + j) (2 * k) (kr_3k (by omega)) (by omega)]; exact h11 j k hj hk
  · rw [e 5004 900 kr_5004_900 (by omega)]; exact h12
  · intro q hq
    rw [e 5004 900 kr_5004_900 (by omega)] at hq
    have hq10 : q < 10 := by have := h12.2; omega
    rw [e 5004 (2 * q) kr_04 (by omega), e 5001 900 kr_5001_900 (by omega)]; exact h13 q hq
  · intro r hr
    rw [e 5007 r kr_07 (by omega)]; exact h14 r hr
  · intro r hr
    rw [e (5010 + r) 0 (kr_10 (by omega)) (by omega)]; exact h15 r hr
  · intro hs
    rw [e 5000 1 kr_5000_1 (by omega), hs0] at hs
    exact absurd hs (by decide)
  · rw [e 5000 7 kr_5000_7 (by omega)]; exact h17
theorem JA.addStation {σ σ2 : XS9} {R C : Nat} {x : Int32} (hS : σ 5004 900 = nI (2 * C)) (hC : C < 10) (hR : σ 5001 900 = nI R) (hR5 : R ≤ 5) (hx : n_lt x R) (n1 : σ2 5004 900 = nI (2 * (C + 1))) (n2 : σ2 5004 (2 * C) = x) (h : JA σ) (e : ∀ q i, kr q i → (¬ (q = 5004 ∧ i = 900) ∧ ¬ (q = 5004 ∧ i = 2 * C)) → σ2 q i = σ q i) : JA σ2 := by
  obtain ⟨h1, h2, h3, h4, h5, h6, h7, h8, h9, h10, h11, h12, h13, h14, h15, h16, h17⟩ := h
  refine ⟨?_, ?_, ?_, ?_, ?_, ?_, ?_, ?_, ?_, ?_, ?_, ?_, ?_, ?_, ?_, ?_, ?_⟩
  · rw [e 5001 900 kr_5001_900 (by omega)]; exact h1
  · rw [e 5002 900 kr_5002_900 (by omega)]; exact h2
  · rw [e 5003 900 kr_5003_900 (by omega)]; exact h3
  · rw [e 5000 1 kr_5000_1 (by omega), e 7000 20 kr_7000_20 (by omega), e 5003 900 kr_5003_900 (by omega)]; exact h4
  · rw [e 7000 25 kr_7000_25 (by omega), e 7000 20 kr_7000_20 (by omega)]; exact h5
  · rw [e 5000 1 kr_5000_1 (by omega), e 7000 25 kr_7000_25 (by omega), e 7000 20 kr_7000_20 (by omega)]; exact h6
  · intro b hb
    rw [e b 21 (kr_bj hb (by decide) (by decide)) (by omega), e b 22 (kr_bj hb (by decide) (by decide)) (by omega), e b 23 (kr_bj hb (by decide) (by decide)) (by omega), e b 24 (kr_bj hb (by decide) (by decide)) (by omega)]; exact h7 b hb
  · rw [e 7000 22 kr_7000_22 (by omega), e 7000 21 kr_7000_21 (by omega)]; exact h8
  · intro j hj
    rw [e (5030 + j) 900 (kr_30 (by omega)) (by omega)]; exact h9 j hj
  · intro j hj
    rw [e (5020 + j) 3 (kr_20 (by omega)) (by omega)]; exact h10 j hj
  · intro j k hj hk
    rw [e (5030 + j) (2 * k) (kr_3k (by omega)) (by omega)]; exact h11 j k hj hk
  · rw [n1]; exact ev.nat (by omega) (by decide)
  · intro q hq
    rw [n1, cn_nI (by omega)] at hq
    rw [e 5001 900 kr_5001_900 (by omega)]
    by_cases er : q = C
    · rw [er, n2, hR, cn_nI (by omega)]; exact hx
    · rw [e 5004 (2 * q) kr_04 (by omega)]; exact h13 q (by rw [hS, cn_nI (by omega)]; omega)
  · intro r hr
    rw [e 5007 r kr_07 (by omega)]; exact h14 r hr
  · intro r hr
    rw [e (5010 + r) 0 (kr_10 (by omega)) (by omega)]; exact h15 r hr
  · intro hs j hj
    rw [e 5000 1 kr_5000_1 (by omega)] at hs
    rw [e 5002 900 kr_5002_900 (by omega)] at hj
    have hj6 : j < 6 := by have := h2.2; omega
    rw [e 5005 j kr_05 (by omega), e (5030 + j) 900 (kr_30 (by omega)) (by omega)]; exact h16 hs j hj
  · rw [e 5000 7 kr_5000_7 (by omega)]; exact h17
theorem JA.addOffer {σ σ2 : XS9} {j9 p : Nat} {c : Int32} (hj9 : j9 < 6) (hp : p < 6) (hc : bd 7775 c) (hs2 : σ 5000 1 = 2) (n1 : σ2 (5030 + j9) 900 = nI (2 * (p + 1))) (n2 : σ2 (5030 + j9) (2 * p) = c) (h : JA σ) (e : ∀ q i, kr q i → (¬ (q = 5030 + j9 ∧ i = 900) ∧ ¬ (q = 5030 + j9 ∧ i = 2 * p)) → σ2 q i = σ q i) : JA σ2 := by
  obtain ⟨h1, h2, h3, h4, h5, h6, h7, h8, h9, h10, h11, h12, h13, h14, h15, h16, h17⟩ := h
  refine ⟨?_, ?_, ?_, ?_, ?_, ?_, ?_, ?_, ?_, ?_, ?_, ?_, ?_, ?_, ?_, ?_, ?_⟩
  · rw [e 5001 900 kr_5001_900 (by omega)]; exact h1
  · rw [e 5002 900 kr_5002_900 (by omega)]; exact h2
  · rw [e 5003 900 kr_5003_900 (by omega)]; exact h3
  · rw [e 5000 1 kr_5000_1 (by omega), e 7000 20 kr_7000_20 (by omega), e 5003 900 kr_5003_900 (by omega)]; exact h4
  · rw [e 7000 25 kr_7000_25 (by omega), e 7000 20 kr_7000_20 (by omega)]; exact h5
  · rw [e 5000 1 kr_5000_1 (by omega), e 7000 25 kr_7000_25 (by omega), e 7000 20 kr_7000_20 (by omega)]; exact h6
  · intro b hb
    rw [e b 21 (kr_bj hb (by decide) (by decide)) (by omega), e b 22 (kr_bj hb (by decide) (by decide)) (by omega), e b 23 (kr_bj hb (by decide) (by decide)) (by omega), e b 24 (kr_bj hb (by decide) (by decide)) (by omega)]; exact h7 b hb
  · rw [e 7000 22 kr_7000_22 (by omega), e 7000 21 kr_7000_21 (by omega)]; exact h8
  · intro j hj
    by_cases er : j = j9
    · rw [er, n1]; exact ev.nat (by omega) (by decide)
    · rw [e (5030 + j) 900 (kr_30 (by omega)) (by omega)]; exact h9 j hj
  · intro j hj
    rw [e (5020 + j) 3 (kr_20 (by omega)) (by omega)]; exact h10 j hj
  · intro j k hj hk
    by_cases er : j = j9 ∧ k = p
    · rw [er.1, er.2, n2]; exact hc
    · rw [e (5030 + j) (2 * k) (kr_3k (by omega)) (by omega)]; exact h11 j k hj hk
  · rw [e 5004 900 kr_5004_900 (by omega)]; exact h12
  · intro q hq
    rw [e 5004 900 kr_5004_900 (by omega)] at hq
    have hq10 : q < 10 := by have := h12.2; omega
    rw [e 5004 (2 * q) kr_04 (by omega), e 5001 900 kr_5001_900 (by omega)]; exact h13 q hq
  · intro r hr
    rw [e 5007 r kr_07 (by omega)]; exact h14 r hr
  · intro r hr
    rw [e (5010 + r) 0 (kr_10 (by omega)) (by omega)]; exact h15 r hr
  · intro hs
    rw [e 5000 1 kr_5000_1 (by omega), hs2] at hs
    exact absurd hs (by decide)
  · rw [e 5000 7 kr_5000_7 (by omega)]; exact h17
section
variable {σ : XS9} {R B C K g w : Nat}
theorem JR.region {x y v : Int32} (h : JR σ) (hR : σ 5001 900 = nI R) (hR5 : R ≤ 5) : JR (g_Mregion σ x y v R) := by
  unfold g_Mregion
  split
  · rename_i hx
    split
    · split
      · split
        · split
          · exact h.s00
          · rename_i hn
            have hR6 : R < 5 := Nat.lt_of_le_of_ne hR5 (fun q => hn (by rw [q]; rfl))
            refine ⟨h.1.addRegion hR hR6 (bd.bt hx (by decide) rfl (by decide)) u2_at (by rw [u2_ne (by omega), uR_eq]; rfl) (fun q i hk hn9 => ?_), (h.2.set (q := 5000) (i := 0) (x := 0) (.inl (.inl (by decide)))).rows fun q hq => by rw [u2_ne (by omega), uR_ne (by omega)]⟩
            rw [u2_o (fun a b => hn9.1 ⟨a, b⟩)]
            by_cases e1 : q = 5010 + R
            · first | (have h9 := hn9.2; clear hn9; unfold kr at hk; omega) | (unfold kr at hk; omega)
            · rw [uR_ne e1, u2_o (fun a b => by first | (clear hn9; unfold kr at hk; omega) | (unfold kr at hk; omega))]
        · exact h.s00
      · exact h.s00
    · exact h.s00
  · exact h.s00
theorem JR.bidder {x y v u : Int32} (h : JR σ) (hB6 : B ≤ 6) : JR (g_Mbidder σ x y v u B) := by
  unfold g_Mbidder
  split
  · split
    · split
      · split
        · rename_i hu
          split
          · rename_i hs0
            split
            · exact h.s00
            · rename_i hn
              have hB5 : B < 6 := Nat.lt_of_le_of_ne hB6 (fun q => hn (by rw [q]; rfl))
              refine ⟨h.1.addBidder hB5 (bd.bt hu (by decide) rfl (by decide)) hs0 u2_at (by rw [u2_ne (by omega), u2_ne (by omega), uR_eq]; rfl) (by rw [u2_ne (by omega), u2_at]) (fun q i hk hn9 => ?_), (h.2.set (q := 5000) (i := 0) (x := 0) (.inl (.inl (by decide)))).rows fun q hq => by rw [u2_ne (by omega), u2_ne (by omega), uR_ne (by omega)]⟩
              rw [u2_o (fun a b => hn9.1 ⟨a, b⟩), u2_o (fun a b => hn9.2.2 ⟨a, b⟩)]
              by_cases e1 : q = 5020 + B
              · first | (have h9 := hn9.2.1; clear hn9; unfold kr at hk; omega) | (unfold kr at hk; omega)
              · rw [uR_ne e1, u2_o (fun a b => by first | (clear hn9; unfold kr at hk; omega) | (unfold kr at hk; omega))]
          · exact h.s00
        · exact h.s00
      · exact h.s00
    · exact h.s00
  · exact h.s00
theorem JR.border {x y : Int32} (h : JR σ) (hR5 : R ≤ 5) : JR (g_Mborder σ x y R) := by
  have k1 : ∀ c, c < R → ¬ kr (5010 + c) 3 := fun c hc k => by unfold kr at k; omega
  unfold g_Mborder
  split
  · rename_i hx
    split
    · rename_i hy
      split
      · exact h.s00
      · split
        · exact (h.s0.set (k1 _ hx.2) (.inl (by decide))).set (k1 _ hy.2) (.inl (by decide))
        · exact h.s00
    · exact h.s00
  · exact h.s00
theorem JR.rules {x y : Int32} (h : JR σ) : JR (g_Mrules σ x y) := by
  unfold g_Mrules
  split
  · split
    · exact (h.s0.set (kr50 (by decide)) (.inl (by decide))).set (kr50 (by decide)) (.inl (by decide))
    · exact h.s00
  · exact h.s00
theorem JR.step {x : Int32} (h : JR σ) : JR (g_Mstep σ x) := by
  unfold g_Mstep
  split
  · split
    · exact h.s0.set (kr50 (by decide)) (.inl (by decide))
    · exact h.s00
  · exact h.s00
theorem JR.wish {x y v : Int32} (h : JR σ) (hg : g < 200) : JR (g_Mwish σ x y v R B g) := by
  unfold g_Mwish
  split
  · split
    · split
      · split
        · split
          · exact h.s00
          · exact h.s0.set (q := 7000 + 500 + g) (fun k => by unfold kr at k; omega) (.inr (by omega))
        · exact h.s00
      · exact h.s00
    · exact h.s00
  · exact h.s00
theorem JR.waive {x : Int32} (h : JR σ) (hw : w < 200) : JR (g_Mwaive σ x B g w) := by
  unfold g_Mwaive
  split
  · split
    · split
      · exact h.s00
      · split
        · exact (h.s0.set (q := 7000 + 4) (fun k => by unfold kr at k; omega) (.inr (by omega))).set (q := 7000 + 700 + w) (fun k => by unfold kr at k; omega) (.inr (by omega))
        · exact h.s00
    · exact h.s00
  · exact h.s00
theorem JR.knock (h : JR σ) : JR (g_Mknock σ) := h.s0.set (kr50 (by decide)) (.inl (by decide))
theorem JR.station {x y : Int32} (h : JR σ) (hR : σ 5001 900 = nI R) (hR5 : R ≤ 5) (hS : σ 5004 900 = nI (2 * C)) (hC10 : C ≤ 10) : JR (g_Mstation σ x y R C) := by
  unfold g_Mstation
  split
  · rename_i hx
    split
    · split
      · exact h.s00
      · rename_i hn
        have hC : C < 10 := Nat.lt_of_le_of_ne hC10 (fun q => hn (by rw [q]; rfl))
        have hx1 : n_lt (nI (cn x)) R := by rw [← hx.1]; exact hx
        unfold g_addI
        refine ⟨JA.addStation (x := nI (cn x)) (R := R) (C := C) hS hC hR hR5 hx1 ?_ ?_ h.1 (fun q i hk hn9 => ?_), h.2.rows fun q hq => by rw [u2_ne (by omega), u2_ne (by omega), u2_ne (by omega), u2_ne (by omega), u2_ne (by omega)]⟩
        · rw [u2_at]
          congr 1
        · rw [u2_oi (by omega), u2_oi (by omega), u2_oi (by omega), u2_at]
        · rw [u2_o (fun a b => hn9.1 ⟨a, b⟩), u2_o (fun a b => by first | (clear hn9; unfold kr at hk; omega) | (unfold kr at hk; omega)), u2_o (fun a b => hn9.1 ⟨a, b⟩), u2_o (fun a b => hn9.2 ⟨a, b⟩), u2_o (fun a b => by first | (clear hn9; unfold kr at hk; omega) | (unfold kr at hk; omega))]
    · exact h.s00
  · exact h.s00
theorem JR.ask {x y : Int32} (h : JR σ) : JR (g_Mask σ x y C) := by
  have k1 : ∀ c, ¬ kr 5004 (2 * c + 1) ∨ 2 * c + 1 = 900 := fun c => .inl fun k => by unfold kr at k; omega
  unfold g_Mask
  split
  · split
    · unfold g_setS
      exact (h.s0.set (q := 5004) (fun k => by unfold kr at k; omega) (.inr (by omega))).set (q := 5004) (fun k => by unfold kr at k; omega) (.inr (by omega))
    · exact h.s00
  · exact h.s00
theorem power_ok : ∀ R, R ≤ 5 → ∃ p, p ≤ 7776 ∧ f_power R = nI p := by
  intro R hR
  match R, hR with
  | 0, _ => exact ⟨1, by decide, rfl⟩
  | 1, _ => exact ⟨6, by decide, rfl⟩
  | 2, _ => exact ⟨36, by decide, rfl⟩
  | 3, _ => exact ⟨216, by decide, rfl⟩
  | 4, _ => exact ⟨1296, by decide, rfl⟩
  | 5, _ => exact ⟨7776, by decide, rfl⟩
theorem JR.offer {x y v : Int32} {pk : Nat → Nat} (h : JR σ) (hR5 : R ≤ 5) (hB6 : B ≤ 6) (hpk : ∀ j, j < B → σ (5030 + j) 900 = nI (2 * pk j) ∧ pk j ≤ 6) : JR (g_Moffer σ x y v R B pk) := by
  unfold g_Moffer
  split
  · rename_i hx
    have hx2 := hx.2
    obtain ⟨p1, p2⟩ := hpk (cn x) hx2
    split
    · exact h.s00
    · rename_i hy0
      split
      · exact h.s00
      · rename_i hyp
        have hc : bd 7775 y := by
          obtain ⟨p, hp1, hp2⟩ := power_ok R hR5
          obtain ⟨e1, e2⟩ := cn_of (Int32.not_lt.mp hy0)
          refine ⟨e1, ?_⟩
          rw [hp2] at hyp
          have h3 := Int32.lt_iff_toInt_lt.mp (Int32.not_le.mp hyp)
          rw [toI_nI (by omega)] at h3
          omega
        split
        · split
          · rename_i hs2
            split
            · exact h.s00
            · rename_i h6
              have hp6 : pk (cn x) < 6 := (nI_ltI (a := pk (cn x)) (b := 6) (by omega) (by omega)).mp (Int32.not_le.mp h6)
              split
              · exact h.s00
              · split
                · exact h.s00
                · split
                  · exact h.s00
                  · split
                    · unfold g_Madd g_addI
                      refine ⟨JA.addOffer (j9 := cn x) (p := pk (cn x)) (c := y) (by omega) hp6 hc hs2 ?_ ?_ h.1 (fun q i hk hn9 => ?_), h.2.rows fun q hq => by rw [u2_ne (by omega), u2_ne (by omega), u2_ne (by omega), u2_ne (by omega), u2_ne (by omega)]⟩
                      · rw [u2_at]
                        congr 1
                      · rw [u2_oi (by omega), u2_oi (by omega), u2_oi (by omega), u2_at]
                      · rw [u2_o (fun a b => hn9.1 ⟨a, b⟩), u2_o (fun a b => by first | (clear hn9; unfold kr at hk; omega) | (unfold kr at hk; omega)), u2_o (fun a b => hn9.1 ⟨a, b⟩), u2_o (fun a b => hn9.2 ⟨a, b⟩), u2_o (fun a b => by first | (clear hn9; unfold kr at hk; omega) | (unfold kr at hk; omega))]
                    · exact h.s00
          · exact h.s00
        · exact h.s00
  · exact h.s00
end
end
section
/-! ===== the interfaces, from what holds at all times ===== -/
abbrev aR (σ : XS9) : Nat := cn (σ 1001 4)
abbrev aB (σ : XS9) : Nat := cn (σ 1001 9)
abbrev aK (σ : XS9) : Nat := cn (σ 2000 9)
abbrev aC (σ : XS9) : Nat := cn (σ 1006 1)
abbrev aw (σ : XS9) : Nat := cn (σ 1000 9)
abbrev agr (σ : XS9) : Nat → Nat := fun i => cn (σ 1017 i)
abbrev acn (σ : XS9) : Nat → Nat := fun i => cn (σ 1020 i)
abbrev asp (σ : XS9) : Nat → Nat := fun i => cn (σ 1010 i)
abbrev arg (σ : XS9) : Nat → Nat := fun i => cn (σ 1151 i)
abbrev mR (τ : XS9) : Nat := cn (τ 5001 900)
abbrev mB (τ : XS9) : Nat := cn (τ 5002 900)
abbrev mK (τ : XS9) : Nat := cn (τ 5003 900)
abbrev mC (τ : XS9) : Nat := cn (τ 5004 900) / 2
abbrev mg (τ : XS9) : Nat := cn (τ 7000 23)
abbrev mw (τ : XS9) : Nat := cn (τ 7000 24)
abbrev mn (τ : XS9) : Nat := cn (τ 7000 21)
abbrev mwy (τ : XS9) : Nat := cn (τ 5000 7)
abbrev mpk (τ : XS9) : Nat → Nat := fun j => cn (τ (5030 + j) 900) / 2
abbrev mgr (τ : XS9) : Nat → Nat := fun j => cn (τ (5020 + j) 3)
abbrev mcd (τ : XS9) : Nat → Nat → Nat := fun j k => cn (τ (5030 + j) (2 * k))
abbrev mrg (τ : XS9) : Nat → Nat := fun q => cn (τ 5004 (2 * q))
abbrev mtn (τ : XS9) : Nat → Nat := fun r => cn (τ 5007 r)
abbrev msp (τ : XS9) : Nat → Nat := fun r => cn (τ (5010 + r) 0)
section
variable {σ τ : XS9}
theorem JC.hR (j : JC σ) : σ 1001 4 = nI (aR σ) ∧ aR σ ≤ 5 := j.1
theorem JC.hB (j : JC σ) : σ 1001 9 = nI (aB σ) ∧ aB σ ≤ 6 := j.2.1
theorem JC.hK (j : JC σ) : σ 2000 9 = nI (aK σ) ∧ aK σ ≤ 60 := j.2.2.1
theorem JC.hC (j : JC σ) : σ 1006 1 = nI (aC σ) ∧ aC σ ≤ 10 := j.2.2.2.1
theorem JC.hw (j : JC σ) : σ 1000 9 = nI (aw σ) ∧ aw σ < 3 := ⟨j.2.2.2.2.1.1, Nat.lt_succ_of_le j.2.2.2.2.1.2⟩
theorem JC.hgr (j : JC σ) : ∀ i, i < 6 → σ 1017 i = nI (agr σ i) ∧ agr σ i < 4 := fun i hi => ⟨(j.2.2.2.2.2.1 i hi).1, Nat.lt_succ_of_le (j.2.2.2.2.2.1 i hi).2⟩
theorem JC.hct (j : JC σ) : ∀ i, i < 6 → σ 1020 i = nI (acn σ i) ∧ acn σ i ≤ 6 := fun i hi => j.2.2.2.2.2.2.1 i hi
theorem JC.hsp (j : JC σ) : ∀ i, i < 5 → σ 1010 i = nI (asp σ i) ∧ asp σ i ≤ 5 := fun i hi => j.2.2.2.2.2.2.2.1 i hi
theorem JC.hcd (j : JC σ) : XCD σ := j.2.2.2.2.2.2.2.2.1
theorem JC.hrg (j : JC σ) : ∀ i, i < aC σ → σ 1151 i = nI (arg σ i) ∧ arg σ i < 5 := fun i hi => by
  have := j.hC.2
  have h := j.2.2.2.2.2.2.2.2.2.1 i (by omega)
  exact ⟨h.1, Nat.lt_succ_of_le h.2⟩
theorem JC.ham (j : JC σ) : ∀ i k, i < 6 → k < 6 → 0 ≤ σ (1031 + i) k := j.2.2.2.2.2.2.2.2.2.2.1
theorem JR.me (r : JR τ) : mem_eq τ τ := r.2.mem
theorem JR.hR (r : JR τ) : τ 5001 900 = nI (mR τ) ∧ mR τ ≤ 5 := r.1.1
theorem JR.hB (r : JR τ) : τ 5002 900 = nI (mB τ) ∧ mB τ ≤ 6 := r.1.2.1
theorem JR.hK (r : JR τ) : τ 5003 900 = nI (mK τ) ∧ mK τ ≤ 60 := r.1.2.2.1
theorem JR.hp0 (r : JR τ) : τ 5000 1 = 0 → τ 7000 20 = 0 ∧ τ 8000 20 = 0 ∧ τ 5003 900 = 0 := fun q => ⟨(r.1.2.2.2.1 q).1, r.2.1.2, (r.1.2.2.2.1 q).2⟩
theorem JR.hfl (r : JR τ) : τ 7000 25 = nI 0 ∨ (τ 7000 25 = nI 1 ∧ τ 7000 20 = nI 1) := r.1.2.2.2.2.1
theorem JR.hst (r : JR τ) : τ 5000 1 = 1 → τ 7000 25 = nI 1 ∧ τ 7000 20 = nI 1 := r.1.2.2.2.2.2.1
theorem JR.hg (r : JR τ) : τ 7000 23 = nI (mg τ) ∧ mg τ < 200 := ⟨(r.1.2.2.2.2.2.2.1 7000 (.inl rfl)).2.2.1.1, Nat.lt_succ_of_le (r.1.2.2.2.2.2.2.1 7000 (.inl rfl)).2.2.1.2⟩
theorem JR.hw (r : JR τ) : τ 7000 24 = nI (mw τ) ∧ mw τ < 200 := ⟨(r.1.2.2.2.2.2.2.1 7000 (.inl rfl)).2.2.2.1, Nat.lt_succ_of_le (r.1.2.2.2.2.2.2.1 7000 (.inl rfl)).2.2.2.2⟩
theorem JR.hn (r : JR τ) : τ 7000 21 = nI (mn τ) ∧ mn τ ≤ 60 ∧ τ 7000 22 = nI (mn τ) := ⟨(r.1.2.2.2.2.2.2.1 7000 (.inl rfl)).1.1, (r.1.2.2.2.2.2.2.1 7000 (.inl rfl)).1.2, r.1.2.2.2.2.2.2.2.1.trans (r.1.2.2.2.2.2.2.1 7000 (.inl rfl)).1.1⟩
theorem JR.hpk (r : JR τ) : ∀ j, j < mB τ → τ (5030 + j) 900 = nI (2 * mpk τ j) ∧ mpk τ j ≤ 6 := fun j hj => by
  have := r.hB.2
  exact r.1.2.2.2.2.2.2.2.2.1 j (by omega)
theorem JR.hgr (r : JR τ) : ∀ j, j < mB τ → τ (5020 + j) 3 = nI (mgr τ j) ∧ mgr τ j < 4 := fun j hj => by
  have := r.hB.2
  have h := r.1.2.2.2.2.2.2.2.2.2.1 j (by omega)
  exact ⟨h.1, Nat.lt_succ_of_le h.2⟩
theorem JR.hcd (r : JR τ) : ∀ j k, j < mB τ → k < mpk τ j → τ (5030 + j) (2 * k) = nI (mcd τ j k) ∧ mcd τ j k < 7776 := fun j k hj hk => by
  have h6 := r.hB.2
  have h7 := (r.hpk j hj).2
  have h := r.1.2.2.2.2.2.2.2.2.2.2.1 j k (by omega) (by omega)
  exact ⟨h.1, Nat.lt_succ_of_le h.2⟩
theorem JR.hS (r : JR τ) : τ 5004 900 = nI (2 * mC τ) ∧ mC τ ≤ 10 := r.1.2.2.2.2.2.2.2.2.2.2.2.1
theorem JR.hrg (r : JR τ) : ∀ q, q < mC τ → τ 5004 (2 * q) = nI (mrg τ q) ∧ mrg τ q < mR τ := fun q hq => r.1.2.2.2.2.2.2.2.2.2.2.2.2.1 q hq
theorem JR.htn (r : JR τ) : ∀ q, q < 5 → τ 5007 q = nI (mtn τ q) ∧ mtn τ q < 6 := fun q hq => ⟨(r.1.2.2.2.2.2.2.2.2.2.2.2.2.2.1 q hq).1, Nat.lt_succ_of_le (r.1.2.2.2.2.2.2.2.2.2.2.2.2.2.1 q hq).2⟩
theorem JR.hsp (r : JR τ) : ∀ q, q < mR τ → τ (5010 + q) 0 = nI (msp τ q) ∧ msp τ q ≤ 5 := fun q hq => by
  have := r.hR.2
  exact r.1.2.2.2.2.2.2.2.2.2.2.2.2.2.2.1 q (by omega)
theorem JR.hkp (r : JR τ) : τ 5000 1 = 3 → ∀ j, j < mB τ → τ 5005 j = -1 ∨ ∃ n, n < mpk τ j ∧ τ 5005 j = nI n := fun hs j hj => (r.1.2.2.2.2.2.2.2.2.2.2.2.2.2.2.2.1 hs j hj).imp id (fun z => ⟨cn (τ 5005 j), z.2, z.1⟩)
theorem JR.hwy (r : JR τ) : τ 5000 7 = nI (mwy τ) ∧ mwy τ < 3 := ⟨r.1.2.2.2.2.2.2.2.2.2.2.2.2.2.2.2.2.1, Nat.lt_succ_of_le r.1.2.2.2.2.2.2.2.2.2.2.2.2.2.2.2.2.2⟩
end
theorem if_region {l : Launch} (hl : l.stackTraces = false) {LI : XS9 → XS9 → Prop} (hp : ∀ τ σ, LI τ σ → JC σ ∧ JR τ) (hk : ∀ τ σ (p0 p1 p2 : Int32), LI τ σ → LI (g_Mregion τ p0 p1 p2 (mR τ)) (g_region σ p0 p1 p2 (aR σ))) : IF_region l LI := by
  intro z τ σ p0 p1 p2 h9
  have j := (hp τ σ h9).1
  have r := (hp τ σ h9).2
  refine ⟨(o_region σ p0 p1 p2 (aR σ)), (g_region σ p0 p1 p2 (aR σ)), (f_Mregion τ p0 p1 p2 (mR τ)), z, (g_Mregion τ p0 p1 p2 (mR τ)), fun h hh => ct_X7_region hl j.hR.1 j.hR.2, fun E e => ?_, fun h hh => ct_X14_region hl hh.bs r.hR.1 r.hR.2 r.hp0 (fun r h1 _ => hh.no h1), hk τ σ p0 p1 p2 h9⟩
  unfold o_region at e
  (repeat' split at e) <;> first | (cases e; done) | (rw [← Sum.inr.inj e]; done) | (rw [← Sum.inr.inj e]; first | exact rfl | exact .inl rfl | exact .inr rfl | exact .inr (.inl rfl) | exact .inr (.inr rfl))
theorem if_border {l : Launch} (hl : l.stackTraces = false) {LI : XS9 → XS9 → Prop} (hp : ∀ τ σ, LI τ σ → JC σ ∧ JR τ) (hk : ∀ τ σ (p0 p1 : Int32), LI τ σ → LI (g_Mborder τ p0 p1 (mR τ)) (g_border σ p0 p1 (aR σ))) : IF_border l LI := by
  intro z τ σ p0 p1 h9
  have j := (hp τ σ h9).1
  have r := (hp τ σ h9).2
  refine ⟨(o_border σ p0 p1 (aR σ)), (g_border σ p0 p1 (aR σ)), (f_Mborder τ p0 p1 (mR τ)), z, (g_Mborder τ p0 p1 (mR τ)), fun h hh => ct_X7_border hl j.hR.1 j.hR.2, fun E e => ?_, fun h hh => ct_X14_border hl hh.bs (fun r h1 _ => hh.no h1) r.hR.1 r.hR.2, hk τ σ p0 p1 h9⟩
  unfold o_border at e
  (repeat' split at e) <;> first | (cases e; done) | (rw [← Sum.inr.inj e]; done) | (rw [← Sum.inr.inj e]; first | exact rfl | exact .inl rfl | exact .inr rfl | exact .inr (.inl rfl) | exact .inr (.inr rfl))
theorem if_bidder {l : Launch} (hl : l.stackTraces = false) {LI : XS9 → XS9 → Prop} (hp : ∀ τ σ, LI τ σ → JC σ ∧ JR τ) (hk : ∀ τ σ (p0 p1 p2 p3 : Int32), LI τ σ → LI (g_Mbidder τ p0 p1 p2 p3 (mB τ)) (g_bidder σ p0 p1 p2 p3 (aB σ))) : IF_bidder l LI := by
  intro z τ σ p0 p1 p2 p3 h9
  have j := (hp τ σ h9).1
  have r := (hp τ σ h9).2
  refine ⟨(o_bidder σ p0 p1 p2 p3 (aB σ)), (g_bidder σ p0 p1 p2 p3 (aB σ)), (f_Mbidder τ p0 p1 p2 p3 (mB τ)), z, (g_Mbidder τ p0 p1 p2 p3 (mB τ)), fun h hh => ct_X7_bidder hl j.hB.1 j.hB.2, fun E e => ?_, fun h hh => ct_X14_bidder hl hh.bs r.hB.1 r.hB.2 (fun r h1 _ => hh.no h1), hk τ σ p0 p1 p2 p3 h9⟩
  unfold o_bidder at e
  (repeat' split at e) <;> first | (cases e; done) | (rw [← Sum.inr.inj e]; done) | (rw [← Sum.inr.inj e]; first | exact rfl | exact .inl rfl | exact .inr rfl | exact .inr (.inl rfl) | exact .inr (.inr rfl))
theorem if_rules {l : Launch} (hl : l.stackTraces = false) {LI : XS9 → XS9 → Prop} (hp : ∀ τ σ, LI τ σ → JC σ ∧ JR τ) (hk : ∀ τ σ (p0 p1 : Int32), LI τ σ → LI (g_Mrules τ p0 p1) (g_rules σ p0 p1)) : IF_rules l LI := by
  intro z τ σ p0 p1 h9 hy
  have j := (hp τ σ h9).1
  have r := (hp τ σ h9).2
  refine ⟨(o_rules σ p0 p1), (g_rules σ p0 p1), (f_Mrules τ p0 p1), z, (g_Mrules τ p0 p1), fun h hh => ct_X7_rules hl hy, fun E e => ?_, fun h hh => ct_X14_rules hl hh.bs hy, hk τ σ p0 p1 h9⟩
  unfold o_rules at e
  (repeat' split at e) <;> first | (cases e; done) | (rw [← Sum.inr.inj e]; done) | (rw [← Sum.inr.inj e]; first | exact rfl | exact .inl rfl | exact .inr rfl | exact .inr (.inl rfl) | exact .inr (.inr rfl))
theorem if_step {l : Launch} (hl : l.stackTraces = false) {LI : XS9 → XS9 → Prop} (hp : ∀ τ σ, LI τ σ → JC σ ∧ JR τ) (hk : ∀ τ σ (p0 : Int32), LI τ σ → LI (g_Mstep τ p0) (g_step σ p0)) : IF_step l LI := by
  intro z τ σ p0 h9
  have j := (hp τ σ h9).1
  have r := (hp τ σ h9).2
  refine ⟨(o_step σ p0), (g_step σ p0), (f_Mstep τ p0), z, (g_Mstep τ p0), fun h hh => ct_X7_step hl , fun E e => ?_, fun h hh => ct_X14_step hl hh.bs, hk τ σ p0 h9⟩
  unfold o_step at e
  (repeat' split at e) <;> first | (cases e; done) | (rw [← Sum.inr.inj e]; done) | (rw [← Sum.inr.inj e]; first | exact rfl | exact .inl rfl | exact .inr rfl | exact .inr (.inl rfl) | exact .inr (.inr rfl))
theorem if_wish {l : Launch} (hl : l.stackTraces = false) {LI : XS9 → XS9 → Prop} (hp : ∀ τ σ, LI τ σ → JC σ ∧ JR τ) (hk : ∀ τ σ (p0 p1 p2 : Int32), LI τ σ → LI (g_Mwish τ p0 p1 p2 (mR τ) (mB τ) (mg τ)) (g_wish σ p0 p1 p2 (aR σ) (aB σ))) : IF_wish l LI := by
  intro z τ σ p0 p1 p2 h9
  have j := (hp τ σ h9).1
  have r := (hp τ σ h9).2
  refine ⟨(o_wish σ p0 p1 p2 (aR σ) (aB σ)), (g_wish σ p0 p1 p2 (aR σ) (aB σ)), (f_Mwish τ p0 p1 p2 (mR τ) (mB τ) (mg τ)), z, (g_Mwish τ p0 p1 p2 (mR τ) (mB τ) (mg τ)), fun h hh => ct_X7_wish hl j.hR.1 j.hR.2 j.hB.1 j.hB.2, fun E e => ?_, fun h hh => ct_X14_wish hl hh.bs r.hR.1 r.hR.2 r.hB.1 r.hB.2 r.hst r.hg.1 r.hg.2 r.hw.1 r.hw.2, hk τ σ p0 p1 p2 h9⟩
  unfold o_wish at e
  (repeat' split at e) <;> first | (cases e; done) | (rw [← Sum.inr.inj e]; done) | (rw [← Sum.inr.inj e]; first | exact rfl | exact .inl rfl | exact .inr rfl | exact .inr (.inl rfl) | exact .inr (.inr rfl))
theorem if_waive {l : Launch} (hl : l.stackTraces = false) {LI : XS9 → XS9 → Prop} (hp : ∀ τ σ, LI τ σ → JC σ ∧ JR τ) (hk : ∀ τ σ (p0 : Int32), LI τ σ → LI (g_Mwaive τ p0 (mB τ) (mg τ) (mw τ)) (g_waive σ p0 (aB σ))) : IF_waive l LI := by
  intro z τ σ p0 h9
  have j := (hp τ σ h9).1
  have r := (hp τ σ h9).2
  refine ⟨(o_waive σ p0 (aB σ)), (g_waive σ p0 (aB σ)), (f_Mwaive τ p0 (mB τ) (mg τ) (mw τ)), z, (g_Mwaive τ p0 (mB τ) (mg τ) (mw τ)), fun h hh => ct_X7_waive hl j.hB.1 j.hB.2, fun E e => ?_, fun h hh => ct_X14_waive hl hh.bs r.hB.1 r.hB.2 r.hst r.hg.1 r.hg.2 r.hw.1 r.hw.2, hk τ σ p0 h9⟩
  unfold o_waive at e
  (repeat' split at e) <;> first | (cases e; done) | (rw [← Sum.inr.inj e]; done) | (rw [← Sum.inr.inj e]; first | exact rfl | exact .inl rfl | exact .inr rfl | exact .inr (.inl rfl) | exact .inr (.inr rfl))
theorem if_close {l : Launch} (hl : l.stackTraces = false) {LI : XS9 → XS9 → Prop} (hp : ∀ τ σ, LI τ σ → JC σ ∧ JR τ) (hI : ∀ τ σ (p0 : Int32), LI τ σ → ∀ m, m < cn p0 → (∀ j, j ≤ m → (itC (u2 τ 5000 0 0) j) 5000 1 = 1) → CIn (itC (u2 τ 5000 0 0) m)) (hk : ∀ τ σ (p0 : Int32), LI τ σ → LI (g_Mclose τ p0) (g_close σ p0 (aR σ) (aB σ) (agr σ))) : IF_close l LI := by
  intro z τ σ p0 h9
  have j := (hp τ σ h9).1
  have r := (hp τ σ h9).2
  refine ⟨(o_close σ p0 (aR σ) (aB σ) (agr σ)), (g_close σ p0 (aR σ) (aB σ) (agr σ)), (f_Mclose τ p0), z, (g_Mclose τ p0), fun h hh => ct_X7_close hl j.hR.1 j.hR.2 j.hB.1 j.hB.2 (gr := agr σ) j.hgr j.hct j.hK, fun E e => ?_, fun h hh => ct_X14_close hl hh.bs (fun r h1 _ => hh.no h1) (hI τ σ p0 h9), hk τ σ p0 h9⟩
  unfold o_close at e
  (repeat' split at e) <;> first | (cases e; done) | (rw [← Sum.inr.inj e]; done) | (rw [← Sum.inr.inj e]; first | exact rfl | exact .inl rfl | exact .inr rfl | exact .inr (.inl rfl) | exact .inr (.inr rfl))
theorem if_offer {l : Launch} (hl : l.stackTraces = false) {LI : XS9 → XS9 → Prop} (hp : ∀ τ σ, LI τ σ → JC σ ∧ JR τ) (hk : ∀ τ σ (p0 p1 p2 : Int32), LI τ σ → LI (g_Moffer τ p0 p1 p2 (mR τ) (mB τ) (mpk τ)) (g_offer σ p0 p1 p2 (aR σ) (aB σ) (agr σ) (acn σ))) : IF_offer l LI := by
  intro z τ σ p0 p1 p2 h9
  have j := (hp τ σ h9).1
  have r := (hp τ σ h9).2
  refine ⟨(o_offer σ p0 p1 p2 (aR σ) (aB σ) (agr σ) (acn σ)), (g_offer σ p0 p1 p2 (aR σ) (aB σ) (agr σ) (acn σ)), (f_Moffer τ p0 p1 p2 (mR τ) (mB τ) (mpk τ)), z, (g_Moffer τ p0 p1 p2 (mR τ) (mB τ) (mpk τ)), fun h hh => ct_X7_offer hl j.hR.1 j.hR.2 j.hB.1 j.hB.2 (gr := agr σ) j.hgr (cnt := acn σ) j.hct, fun E e => ?_, fun h hh => ct_X14_offer hl hh.bs (fun r h1 _ => hh.no h1) r.hR.1 r.hR.2 r.hB.1 r.hB.2 (pk := mpk τ) r.hpk, hk τ σ p0 p1 p2 h9⟩
  unfold o_offer at e
  (repeat' split at e) <;> first | (cases e; done) | (rw [← Sum.inr.inj e]; done) | (rw [← Sum.inr.inj e]; first | exact rfl | exact .inl rfl | exact .inr rfl | exact .inr (.inl rfl) | exact .inr (.inr rfl))
theorem if_station {l : Launch} (hl : l.stackTraces = false) {LI : XS9 → XS9 → Prop} (hp : ∀ τ σ, LI τ σ → JC σ ∧ JR τ) (hk : ∀ τ σ (p0 p1 : Int32), LI τ σ → LI (g_Mstation τ p0 p1 (mR τ) (mC τ)) (g_station σ p0 p1 (aR σ) (aC σ))) : IF_station l LI := by
  intro z τ σ p0 p1 h9
  have j := (hp τ σ h9).1
  have r := (hp τ σ h9).2
  refine ⟨(o_station σ p0 p1 (aR σ) (aC σ)), (g_station σ p0 p1 (aR σ) (aC σ)), (f_Mstation τ p0 p1 (mR τ) (mC τ)), z, (g_Mstation τ p0 p1 (mR τ) (mC τ)), fun h hh => ct_X7_station hl j.hR.1 j.hR.2 j.hC.1 j.hC.2, fun E e => ?_, fun h hh => ct_X14_station hl hh.bs (fun r h1 _ => hh.no h1) r.hR.1 r.hR.2 r.hS.1 r.hS.2, hk τ σ p0 p1 h9⟩
  unfold o_station at e
  (repeat' split at e) <;> first | (cases e; done) | (rw [← Sum.inr.inj e]; done) | (rw [← Sum.inr.inj e]; first | exact rfl | exact .inl rfl | exact .inr rfl | exact .inr (.inl rfl) | exact .inr (.inr rfl))
theorem if_packs {l : Launch} (hl : l.stackTraces = false) {LI : XS9 → XS9 → Prop} (hp : ∀ τ σ, LI τ σ → JC σ ∧ JR τ) (hk : ∀ τ σ (p0 p1 : Int32), LI τ σ → LI (g_Mpacks τ p0 p1 (mR τ) (mC τ) (mrg τ)) (g_packs σ p0 p1 (aC σ) (arg σ))) : IF_packs l LI := by
  intro z τ σ p0 p1 h9
  have j := (hp τ σ h9).1
  have r := (hp τ σ h9).2
  refine ⟨(o_packs σ p0 p1 (aC σ) (arg σ)), (g_packs σ p0 p1 (aC σ) (arg σ)), (f_Mpacks τ p0 p1 (mR τ) (mC τ) (mrg τ)), z, (g_Mpacks τ p0 p1 (mR τ) (mC τ) (mrg τ)), fun h hh => ct_X7_packs hl j.hC.1 j.hC.2 (rg := arg σ) j.hrg, fun E e => ?_, fun h hh => ct_X14_packs hl hh.bs (fun r h1 _ => hh.no h1) r.me r.hR.1 r.hR.2 r.hS.1 r.hS.2 (rg := mrg τ) r.hrg, hk τ σ p0 p1 h9⟩
  unfold o_packs at e
  (repeat' split at e) <;> first | (cases e; done) | (rw [← Sum.inr.inj e]; done) | (rw [← Sum.inr.inj e]; first | exact rfl | exact .inl rfl | exact .inr rfl | exact .inr (.inl rfl) | exact .inr (.inr rfl))
theorem if_clear {l : Launch} (hl : l.stackTraces = false) {LI : XS9 → XS9 → Prop} (hp : ∀ τ σ, LI τ σ → JC σ ∧ JR τ) (hk : ∀ τ σ (p0 : Int32), LI τ σ → LI (g_Mclear τ p0 (mR τ) (mC τ) (mrg τ)) (g_clear σ p0 (aC σ) (arg σ))) : IF_clear l LI := by
  intro z τ σ p0 h9
  have j := (hp τ σ h9).1
  have r := (hp τ σ h9).2
  refine ⟨(o_clear σ p0 (aC σ) (arg σ)), (g_clear σ p0 (aC σ) (arg σ)), (f_Mclear τ p0 (mR τ) (mC τ) (mrg τ)), z, (g_Mclear τ p0 (mR τ) (mC τ) (mrg τ)), fun h hh => ct_X7_clear hl j.hC.1 j.hC.2 (rg := arg σ) j.hrg, fun E e => ?_, fun h hh => ct_X14_clear hl hh.bs (fun r h1 _ => hh.no h1) r.me r.hR.1 r.hR.2 r.hS.1 r.hS.2 (rg := mrg τ) r.hrg, hk τ σ p0 h9⟩
  unfold o_clear at e
  (repeat' split at e) <;> first | (cases e; done) | (rw [← Sum.inr.inj e]; done) | (rw [← Sum.inr.inj e]; first | exact rfl | exact .inl rfl | exact .inr rfl | exact .inr (.inl rfl) | exact .inr (.inr rfl))
theorem if_ofRegion {l : Launch} (hl : l.stackTraces = false) {LI : XS9 → XS9 → Prop} (hp : ∀ τ σ, LI τ σ → JC σ ∧ JR τ) (hk : ∀ τ σ (p0 p1 : Int32), LI τ σ → LI (g_MofRegion τ p0 p1 (mR τ) (mB τ) (mC τ) (mg τ)) σ) : IF_ofRegion l LI := by
  intro z τ σ p0 p1 h9
  have j := (hp τ σ h9).1
  have r := (hp τ σ h9).2
  refine ⟨(o_ofRegion σ p0 p1 (aR σ) (aC σ)), σ, (f_MofRegion τ p0 p1 (mR τ) (mB τ) (mC τ) (mg τ)), z, (g_MofRegion τ p0 p1 (mR τ) (mB τ) (mC τ) (mg τ)), fun h hh => ct_X7_ofRegion hl j.hR.1 j.hR.2 j.hC.1 j.hC.2, fun E e => ?_, fun h hh => ct_X14_ofRegion hl hh.bs r.hR.1 r.hR.2 r.hB.1 r.hB.2 r.hS.1 r.hS.2 r.hfl r.hg.1 r.hg.2 r.hw.1 r.hw.2, hk τ σ p0 p1 h9⟩
  unfold o_ofRegion at e
  (repeat' split at e) <;> first | (cases e; done) | (rw [← Sum.inr.inj e]; done) | (rw [← Sum.inr.inj e]; first | exact rfl | exact .inl rfl | exact .inr rfl | exact .inr (.inl rfl) | exact .inr (.inr rfl))
theorem if_ofBidder {l : Launch} (hl : l.stackTraces = false) {LI : XS9 → XS9 → Prop} (hp : ∀ τ σ, LI τ σ → JC σ ∧ JR τ) (hk : ∀ τ σ (p0 p1 : Int32), LI τ σ → LI (g_MofBidder τ p0 p1 (mR τ) (mB τ) (mpk τ) (mg τ)) σ) : IF_ofBidder l LI := by
  intro z τ σ p0 p1 h9
  have j := (hp τ σ h9).1
  have r := (hp τ σ h9).2
  refine ⟨(o_ofBidder σ p0 p1 (aB σ)), σ, (f_MofBidder τ p0 p1 (mR τ) (mB τ) (mpk τ) (mg τ)), z, (g_MofBidder τ p0 p1 (mR τ) (mB τ) (mpk τ) (mg τ)), fun h hh => ct_X7_ofBidder hl j.hB.1 j.hB.2, fun E e => ?_, fun h hh => ct_X14_ofBidder hl hh.bs r.hR.1 r.hR.2 r.hB.1 r.hB.2 (pk := mpk τ) r.hpk r.hfl r.hg.1 r.hg.2 r.hw.1 r.hw.2, hk τ σ p0 p1 h9⟩
  unfold o_ofBidder at e
  (repeat' split at e) <;> first | (cases e; done) | (rw [← Sum.inr.inj e]; done) | (rw [← Sum.inr.inj e]; first | exact rfl | exact .inl rfl | exact .inr rfl | exact .inr (.inl rfl) | exact .inr (.inr rfl))
theorem if_wants {l : Launch} (hl : l.stackTraces = false) {LI : XS9 → XS9 → Prop} (hp : ∀ τ σ, LI τ σ → JC σ ∧ JR τ) (hk : ∀ τ σ (p0 p1 p2 : Int32), LI τ σ → LI (g_Mwants τ p0 p1 p2 (mR τ) (mB τ) (mg τ)) σ) : IF_wants l LI := by
  intro z τ σ p0 p1 p2 h9 hy
  have j := (hp τ σ h9).1
  have r := (hp τ σ h9).2
  refine ⟨(o_wants σ p0 p1 p2 (aR σ) (aB σ)), σ, (f_Mwants τ p0 p1 p2 (mR τ) (mB τ) (mg τ)), z, (g_Mwants τ p0 p1 p2 (mR τ) (mB τ) (mg τ)), fun h hh => ct_X7_wants hl j.hR.1 j.hR.2 j.hB.1 j.hB.2, fun E e => ?_, fun h hh => ct_X14_wants hl hh.bs r.hR.1 r.hR.2 r.hB.1 r.hB.2 r.hfl r.hg.1 r.hg.2 r.hw.1 r.hw.2, hk τ σ p0 p1 p2 h9⟩
  unfold o_wants at e
  (repeat' split at e) <;> first | (cases e; done) | (rw [← Sum.inr.inj e]; done) | (rw [← Sum.inr.inj e]; first | exact rfl | exact .inl rfl | exact .inr rfl | exact .inr (.inl rfl) | exact .inr (.inr rfl))
theorem if_priceIn {l : Launch} (hl : l.stackTraces = false) {LI : XS9 → XS9 → Prop} (hp : ∀ τ σ, LI τ σ → JC σ ∧ JR τ) (hk : ∀ τ σ (p0 p1 : Int32), LI τ σ → LI (g_MpriceIn τ p0 p1 (mR τ) (mK τ)) σ) : IF_priceIn l LI := by
  intro z τ σ p0 p1 h9
  have j := (hp τ σ h9).1
  have r := (hp τ σ h9).2
  refine ⟨(o_priceIn σ p0 p1 (aR σ) (aK σ)), σ, (f_MpriceIn τ p0 p1 (mR τ) (mK τ)), z, (g_MpriceIn τ p0 p1 (mR τ) (mK τ)), fun h hh => ct_X7_priceIn hl j.hR.1 j.hR.2 j.hK.1 j.hK.2, fun E e => ?_, fun h hh => ct_X14_priceIn hl hh.bs r.hR.1 r.hR.2 r.hK.1 r.hK.2, hk τ σ p0 p1 h9⟩
  unfold o_priceIn at e
  (repeat' split at e) <;> first | (cases e; done) | (rw [← Sum.inr.inj e]; done) | (rw [← Sum.inr.inj e]; first | exact rfl | exact .inl rfl | exact .inr rfl | exact .inr (.inl rfl) | exact .inr (.inr rfl))
theorem if_codeIn {l : Launch} (hl : l.stackTraces = false) {LI : XS9 → XS9 → Prop} (hp : ∀ τ σ, LI τ σ → JC σ ∧ JR τ) (hk : ∀ τ σ (p0 p1 p2 : Int32), LI τ σ → LI (g_McodeIn τ p0 p1 p2 (mB τ) (mK τ)) σ) : IF_codeIn l LI := by
  intro z τ σ p0 p1 p2 h9 hy
  have j := (hp τ σ h9).1
  have r := (hp τ σ h9).2
  refine ⟨(o_codeIn σ p0 p1 p2 (aB σ) (aK σ)), σ, (f_McodeIn τ p0 p1 p2 (mB τ) (mK τ)), z, (g_McodeIn τ p0 p1 p2 (mB τ) (mK τ)), fun h hh => ct_X7_codeIn hl j.hB.1 j.hB.2 j.hK.1 j.hK.2, fun E e => ?_, fun h hh => ct_X14_codeIn hl hh.bs r.hB.1 r.hB.2 r.hK.1 r.hK.2, hk τ σ p0 p1 p2 h9⟩
  unfold o_codeIn at e
  (repeat' split at e) <;> first | (cases e; done) | (rw [← Sum.inr.inj e]; done) | (rw [← Sum.inr.inj e]; first | exact rfl | exact .inl rfl | exact .inr rfl | exact .inr (.inl rfl) | exact .inr (.inr rfl))
theorem if_ofPackage {l : Launch} (hl : l.stackTraces = false) {LI : XS9 → XS9 → Prop} (hp : ∀ τ σ, LI τ σ → JC σ ∧ JR τ) (hk : ∀ τ σ (p0 p1 p2 : Int32), LI τ σ → LI (g_MofPackage τ p0 p1 p2 (mB τ) (mpk τ)) σ) : IF_ofPackage l LI := by
  intro z τ σ p0 p1 p2 h9 hy
  have j := (hp τ σ h9).1
  have r := (hp τ σ h9).2
  refine ⟨(o_ofPackage σ p0 p1 p2 (aB σ) (acn σ)), σ, (f_MofPackage τ p0 p1 p2 (mB τ) (mpk τ)), z, (g_MofPackage τ p0 p1 p2 (mB τ) (mpk τ)), fun h hh => ct_X7_ofPackage hl j.hB.1 j.hB.2 (cnt := acn σ) j.hct, fun E e => ?_, fun h hh => ct_X14_ofPackage hl hh.bs r.hR.1 r.hR.2 r.hB.1 r.hB.2 (pk := mpk τ) r.hpk, hk τ σ p0 p1 p2 h9⟩
  unfold o_ofPackage at e
  (repeat' split at e) <;> first | (cases e; done) | (rw [← Sum.inr.inj e]; done) | (rw [← Sum.inr.inj e]; first | exact rfl | exact .inl rfl | exact .inr rfl | exact .inr (.inl rfl) | exact .inr (.inr rfl))
theorem if_wins {l : Launch} (hl : l.stackTraces = false) {LI : XS9 → XS9 → Prop} (hp : ∀ τ σ, LI τ σ → JC σ ∧ JR τ) (hk : ∀ τ σ (p0 : Int32), LI τ σ → LI (g_Mwins τ p0 (mR τ) (mB τ) (mpk τ) (mgr τ) (mcd τ)) σ) : IF_wins l LI := by
  intro z τ σ p0 h9
  have j := (hp τ σ h9).1
  have r := (hp τ σ h9).2
  refine ⟨(o_wins σ p0 (aB σ)), σ, (f_Mwins τ p0 (mR τ) (mB τ) (mpk τ) (mgr τ) (mcd τ)), z, (g_Mwins τ p0 (mR τ) (mB τ) (mpk τ) (mgr τ) (mcd τ)), fun h hh => ct_X7_wins hl j.hB.1 j.hB.2, fun E e => ?_, fun h hh => ct_X14_wins hl hh.bs (fun r h1 _ => hh.no h1) r.me r.hR.1 r.hR.2 r.hB.1 r.hB.2 (pk := mpk τ) r.hpk (gr := mgr τ) r.hgr (cd := mcd τ) r.hcd, hk τ σ p0 h9⟩
  unfold o_wins at e
  (repeat' split at e) <;> first | (cases e; done) | (rw [← Sum.inr.inj e]; done) | (rw [← Sum.inr.inj e]; first | exact rfl | exact .inl rfl | exact .inr rfl | exact .inr (.inl rfl) | exact .inr (.inr rfl))
theorem if_pays {l : Launch} (hl : l.stackTraces = false) {LI : XS9 → XS9 → Prop} (hp : ∀ τ σ, LI τ σ → JC σ ∧ JR τ) (hk : ∀ τ σ (p0 p1 : Int32), LI τ σ → LI (g_Mpays τ p0 p1 (mB τ)) σ) : IF_pays l LI := by
  intro z τ σ p0 p1 h9 hy
  have j := (hp τ σ h9).1
  have r := (hp τ σ h9).2
  refine ⟨(o_pays σ p0 p1 (aB σ) (aw σ)), σ, (f_Mpays τ p0 p1 (mB τ)), z, (g_Mpays τ p0 p1 (mB τ)), fun h hh => ct_X7_pays hl j.hB.1 j.hB.2 j.hw.1 j.hw.2, fun E e => ?_, fun h hh => ct_X14_pays hl hh.bs r.hB.1 r.hB.2, hk τ σ p0 p1 h9⟩
  unfold o_pays at e
  (repeat' split at e) <;> first | (cases e; done) | (rw [← Sum.inr.inj e]; done) | (rw [← Sum.inr.inj e]; first | exact rfl | exact .inl rfl | exact .inr rfl | exact .inr (.inl rfl) | exact .inr (.inr rfl))
theorem if_holder {l : Launch} (hl : l.stackTraces = false) {LI : XS9 → XS9 → Prop} (hp : ∀ τ σ, LI τ σ → JC σ ∧ JR τ) (hk : ∀ τ σ (p0 p1 : Int32), LI τ σ → LI (g_Mholder τ p0 p1 (mR τ) (mB τ) (mtn τ) (msp τ)) σ) : IF_holder l LI := by
  intro z τ σ p0 p1 h9
  have j := (hp τ σ h9).1
  have r := (hp τ σ h9).2
  refine ⟨(o_holder σ p0 p1 (aR σ) (asp σ)), σ, (f_Mholder τ p0 p1 (mR τ) (mB τ) (mtn τ) (msp τ)), z, (g_Mholder τ p0 p1 (mR τ) (mB τ) (mtn τ) (msp τ)), fun h hh => ct_X7_holder hl j.hR.1 j.hR.2 (sp := asp σ) j.hsp, fun E e => ?_, fun h hh => ct_X14_holder hl hh.bs r.hR.1 r.hR.2 r.hB.1 r.hB.2 (pk := mpk τ) r.hpk r.hkp (tn := mtn τ) r.htn (sp := msp τ) r.hsp, hk τ σ p0 p1 h9⟩
  unfold o_holder at e
  (repeat' split at e) <;> first | (cases e; done) | (rw [← Sum.inr.inj e]; done) | (rw [← Sum.inr.inj e]; first | exact rfl | exact .inl rfl | exact .inr rfl | exact .inr (.inl rfl) | exact .inr (.inr rfl))
theorem if_sale {l : Launch} (hl : l.stackTraces = false) {LI : XS9 → XS9 → Prop} (hp : ∀ τ σ, LI τ σ → JC σ ∧ JR τ) (hk : ∀ τ σ (p0 : Int32), LI τ σ → LI (g_Msale τ p0 (mR τ) (mB τ) (mpk τ) (mgr τ) (mcd τ) (mK τ) (mC τ) (mg τ) (mtn τ) (msp τ)) σ) : IF_sale l LI := by
  intro z τ σ p0 h9
  have j := (hp τ σ h9).1
  have r := (hp τ σ h9).2
  refine ⟨(o_sale σ p0 (aK σ) (aB σ) (aR σ) (aC σ) (aw σ) (acn σ)), σ, (f_Msale τ p0 (mR τ) (mB τ) (mpk τ) (mgr τ) (mcd τ) (mK τ) (mC τ) (mg τ) (mtn τ) (msp τ)), z, (g_Msale τ p0 (mR τ) (mB τ) (mpk τ) (mgr τ) (mcd τ) (mK τ) (mC τ) (mg τ) (mtn τ) (msp τ)), fun h hh => ct_X7_sale hl j.hK.1 j.hK.2 j.hB.1 j.hB.2 j.hR.1 j.hR.2 j.hC.1 j.hC.2 j.hw.1 j.hw.2 (cnt := acn σ) j.hct j.ham, fun E e => ?_, fun h hh => ct_X14_sale hl hh.bs (fun r h1 _ => hh.no h1) r.me r.hR.1 r.hR.2 r.hB.1 r.hB.2 (pk := mpk τ) r.hpk (gr := mgr τ) r.hgr (cd := mcd τ) r.hcd r.hK.1 r.hK.2 r.hS.1 r.hS.2 r.hfl r.hg.1 r.hg.2 r.hw.1 r.hw.2 r.hkp (tn := mtn τ) r.htn (sp := msp τ) r.hsp, hk τ σ p0 h9⟩
  unfold o_sale at e
  (repeat' split at e) <;> first | (cases e; done) | (rw [← Sum.inr.inj e]; done) | (rw [← Sum.inr.inj e]; first | exact rfl | exact .inl rfl | exact .inr rfl | exact .inr (.inl rfl) | exact .inr (.inr rfl))
theorem if_worth {l : Launch} (hl : l.stackTraces = false) {LI : XS9 → XS9 → Prop} (hp : ∀ τ σ, LI τ σ → JC σ ∧ JR τ) (hk : ∀ τ σ (p0 : Int32), LI τ σ → LI (g_Mworth τ p0 (mR τ) (mB τ) (mpk τ) (mgr τ) (mcd τ)) σ) : IF_worth l LI := by
  intro z τ σ p0 h9
  have j := (hp τ σ h9).1
  have r := (hp τ σ h9).2
  refine ⟨(o_worth σ p0 (aB σ)), σ, (f_Mworth τ p0 (mR τ) (mB τ) (mpk τ) (mgr τ) (mcd τ)), z, (g_Mworth τ p0 (mR τ) (mB τ) (mpk τ) (mgr τ) (mcd τ)), fun h hh => ct_X7_worth hl j.hB.1 j.hB.2, fun E e => ?_, fun h hh => ct_X14_worth hl hh.bs (fun r h1 _ => hh.no h1) r.me r.hR.1 r.hR.2 r.hB.1 r.hB.2 (pk := mpk τ) r.hpk (gr := mgr τ) r.hgr (cd := mcd τ) r.hcd, hk τ σ p0 h9⟩
  unfold o_worth at e
  (repeat' split at e) <;> first | (cases e; done) | (rw [← Sum.inr.inj e]; done) | (rw [← Sum.inr.inj e]; first | exact rfl | exact .inl rfl | exact .inr rfl | exact .inr (.inl rfl) | exact .inr (.inr rfl))
theorem if_contradicts {l : Launch} (hl : l.stackTraces = false) {LI : XS9 → XS9 → Prop} (hp : ∀ τ σ, LI τ σ → JC σ ∧ JR τ) (hk : ∀ τ σ (p0 : Int32), LI τ σ → LI (g_Mcontradicts τ p0 (mR τ) (mB τ) (mg τ) (mn τ)) σ) : IF_contradicts l LI := by
  intro z τ σ p0 h9
  have j := (hp τ σ h9).1
  have r := (hp τ σ h9).2
  refine ⟨(o_contradicts σ p0 (aB σ) (aK σ)), σ, (f_Mcontradicts τ p0 (mR τ) (mB τ) (mg τ) (mn τ)), z, (g_Mcontradicts τ p0 (mR τ) (mB τ) (mg τ) (mn τ)), fun h hh => ct_X7_contradicts hl j.hB.1 j.hB.2 j.hK.1 j.hK.2, fun E e => ?_, fun h hh => ct_X14_contradicts hl hh.bs r.hR.1 r.hR.2 r.hB.1 r.hB.2 r.hst r.hg.1 r.hg.2 r.hw.1 r.hw.2 r.hn.1 r.hn.2.1 r.hn.2.2, hk τ σ p0 h9⟩
  unfold o_contradicts at e
  (repeat' split at e) <;> first | (cases e; done) | (rw [← Sum.inr.inj e]; done) | (rw [← Sum.inr.inj e]; first | exact rfl | exact .inl rfl | exact .inr rfl | exact .inr (.inl rfl) | exact .inr (.inr rfl))
end
section
/-! ===== pure facts: what the reference's questions leave ===== -/
section
variable {σ : XS9} {R B C K g w : Nat} {pk gr : Nat → Nat} {cd : Nat → Nat → Nat} {tn sp rg : Nat → Nat}
theorem JR.ofRegion {x y : Int32} (h : JR σ) : JR (g_MofRegion σ x y R B C g) := by
  unfold g_MofRegion
  (repeat' split) <;> first | with_reducible exact h.s0 | with_reducible exact h.s00 | exact h.s0 | exact h.s00
theorem JR.ofBidder {x y : Int32} (h : JR σ) : JR (g_MofBidder σ x y R B pk g) := by
  unfold g_MofBidder
  (repeat' split) <;> first | with_reducible exact h.s0 | with_reducible exact h.s00 | exact h.s0 | exact h.s00
theorem JR.wants {x y v : Int32} (h : JR σ) : JR (g_Mwants σ x y v R B g) := by
  unfold g_Mwants
  (repeat' split) <;> first | with_reducible exact h.s0 | with_reducible exact h.s00 | exact h.s0 | exact h.s00
theorem JR.priceIn {x y : Int32} (h : JR σ) : JR (g_MpriceIn σ x y R K) := by
  unfold g_MpriceIn
  (repeat' split) <;> first | with_reducible exact h.s0 | with_reducible exact h.s00 | exact h.s0 | exact h.s00
theorem JR.codeIn {x y v : Int32} (h : JR σ) : JR (g_McodeIn σ x y v B K) := by
  unfold g_McodeIn
  (repeat' split) <;> first | with_reducible exact h.s0 | with_reducible exact h.s00 | exact h.s0 | exact h.s00
theorem JR.ofPackage {x y v : Int32} (h : JR σ) : JR (g_MofPackage σ x y v B pk) := by
  unfold g_MofPackage
  (repeat' split) <;> first | with_reducible exact h.s0 | with_reducible exact h.s00 | exact h.s0 | exact h.s00
theorem JR.pays {x y : Int32} (h : JR σ) : JR (g_Mpays σ x y B) := by
  unfold g_Mpays
  (repeat' split) <;> first | with_reducible exact h.s0 | with_reducible exact h.s00 | exact h.s0 | exact h.s00
theorem JR.holder {x y : Int32} (h : JR σ) : JR (g_Mholder σ x y R B tn sp) := by
  unfold g_Mholder
  (repeat' split) <;> first | with_reducible exact h.s0 | with_reducible exact h.s00 | exact h.s0 | exact h.s00
theorem JR.most {x y : Int32} (h : JR σ) : JR (g_Mmost σ x y R B g) := by
  unfold g_Mmost
  (repeat' split) <;> first | with_reducible exact h.s0 | with_reducible exact h.s00 | exact h.s0 | exact h.s00
theorem JR.contradicts {x : Int32} {n : Nat} (h : JR σ) : JR (g_Mcontradicts σ x R B g n) := by
  unfold g_Mcontradicts
  (repeat' split) <;> first | with_reducible exact h.s0 | with_reducible exact h.s00 | exact h.s0 | exact h.s00
theorem JR.isSound {v : Int32} (h : JR σ) : JR (g_MisSound σ v) := h.s0
/-- the Choice is made and dropped -/
theorem JR.cinit (h : JR σ) : JR (u2 (g_Cinit σ R B pk gr cd) 9000 20 0) := by
  have e : ∀ q, (q < 9000 ∨ 9005 < q) → u2 (g_Cinit σ R B pk gr cd) 9000 20 0 q = σ q := fun q hq => by rw [u2_ne (by omega), fr_Cinit hq]
  exact h.hi (fun q hq => e q (by omega)) ⟨⟨u2_at, by rw [e _ (by omega)]; exact h.2.1.2⟩, fun q a b => by rw [e q (by omega)]; exact h.2.2 q a b⟩
theorem JR.cpay {y : Nat} (h : JR σ) (hB6 : B ≤ 6) : JR (u2 (u2 (g_Cpay (g_Cinit σ R B pk gr cd) y 20000 B) 9000 20 0) 20000 20 0) := by
  have e : ∀ q, (q < 9000 ∨ 9005 < q) → q ≠ 20000 → u2 (u2 (g_Cpay (g_Cinit σ R B pk gr cd) y 20000 B) 9000 20 0) 20000 20 0 q = σ q := fun q hq h2 => by rw [u2_ne h2, u2_ne (by omega), fr_Cpay ⟨h2, hB6⟩, fr_Cinit hq]
  refine h.hi (fun q hq => e q (by omega) (by omega)) ⟨⟨?_, by rw [e _ (by omega) (by omega)]; exact h.2.1.2⟩, fun q a b => ?_⟩
  · rw [u2_ne (by omega)]
    exact u2_at
  · by_cases e1 : q = 20000
    · rw [e1]
      exact u2_at
    · rw [e q (by omega) e1]
      exact h.2.2 q a b
theorem JR.wins {x : Int32} (h : JR σ) : JR (g_Mwins σ x R B pk gr cd) := by
  unfold g_Mwins
  split
  · exact h.s0.cinit
  · exact h.s00
theorem JR.sale {x : Int32} (h : JR σ) : JR (g_Msale σ x R B pk gr cd K C g tn sp) := by
  unfold g_Msale
  split
  · exact h.s0.cinit
  · exact h.s00
theorem JR.worth {x : Int32} (h : JR σ) : JR (g_Mworth σ x R B pk gr cd) := by
  unfold g_Mworth
  split
  · exact h.s0.cinit
  · exact h.s00
theorem JR.wouldPay {x y : Int32} (h : JR σ) (hB6 : B ≤ 6) : JR (g_MwouldPay σ x y R B pk gr cd) := by
  unfold g_MwouldPay
  split
  · split
    · exact h.s0.cpay hB6
    · exact h.s00
  · exact h.s00
theorem JR.objects {x y : Int32} (h : JR σ) (hB6 : B ≤ 6) : JR (g_Mobjects σ x y R B pk gr cd) := by
  unfold g_Mobjects
  split
  · split
    · exact h.s0.cpay hB6
    · exact h.s00
  · exact h.s00
theorem cn6 {y : Int32} (h : n_bt y 1 6) : cn y ≤ 6 := (bd.bt (m := 6) h (by decide) rfl (by decide)).2
theorem JR.packs {x y : Int32} (h : JR σ) : JR (g_Mpacks σ x y R C rg) := by
  unfold g_Mpacks
  split
  · split
    · rename_i hy
      have hc := cn6 hy
      have e : ∀ q, q ≠ 20000 → u2 (g_Mcp (uR (u2 σ 5000 0 0) 20000 (rowN (cn y))) (nI (cn x)) 0 C rg 20000 (cn y)) 20000 20 0 q = u2 σ 5000 0 0 q := fun q h2 => by rw [u2_ne h2, fr_Mcp ⟨h2, hc⟩, uR_ne h2]
      have f := h.s0 (x := 0)
      refine f.hi (fun q hq => e q (by omega)) ⟨⟨by rw [e _ (by omega)]; exact f.2.1.1, by rw [e _ (by omega)]; exact f.2.1.2⟩, fun q a b => ?_⟩
      by_cases e1 : q = 20000
      · rw [e1]
        exact u2_at
      · rw [e q e1]
        exact f.2.2 q a b
    · exact h.s0
  · exact h.s0
end
/-! more -/
theorem JA.alt8 {σ σ2 : XS9} (h8n : bd 60 (σ2 8000 21) ∧ bd 60 (σ2 8000 22) ∧ bd 199 (σ2 8000 23) ∧ bd 199 (σ2 8000 24)) (h : JA σ) (e : ∀ q i, kr q i → (q ≠ 8000) → σ2 q i = σ q i) : JA σ2 := by
  obtain ⟨h1, h2, h3, h4, h5, h6, h7, h8, h9, h10, h11, h12, h13, h14, h15, h16, h17⟩ := h
  refine ⟨?_, ?_, ?_, ?_, ?_, ?_, ?_, ?_, ?_, ?_, ?_, ?_, ?_, ?_, ?_, ?_, ?_⟩
  · rw [e 5001 900 (by unfold kr; omega) (by omega)]; exact h1
  · rw [e 5002 900 (by unfold kr; omega) (by omega)]; exact h2
  · rw [e 5003 900 (by unfold kr; omega) (by omega)]; exact h3
  · rw [e 5000 1 (by unfold kr; omega) (by omega), e 7000 20 (by unfold kr; omega) (by omega), e 5003 900 (by unfold kr; omega) (by omega)]; exact h4
  · rw [e 7000 25 (by unfold kr; omega) (by omega), e 7000 20 (by unfold kr; omega) (by omega)]; exact h5
  · rw [e 5000 1 (by unfold kr; omega) (by omega), e 7000 25 (by unfold kr; omega) (by omega), e 7000 20 (by unfold kr; omega) (by omega)]; exact h6
  · intro b hb
    rcases hb with rfl | rfl
    · rw [e 7000 21 (by unfold kr; omega) (by omega), e 7000 22 (by unfold kr; omega) (by omega), e 7000 23 (by unfold kr; omega) (by omega), e 7000 24 (by unfold kr; omega) (by omega)]; exact h7 7000 (.inl rfl)
    · exact h8n
  · rw [e 7000 22 (by unfold kr; omega) (by omega), e 7000 21 (by unfold kr; omega) (by omega)]; exact h8
  · intro j hj
    rw [e (5030 + j) 900 (by unfold kr; omega) (by omega)]; exact h9 j hj
  · intro j hj
    rw [e (5020 + j) 3 (by unfold kr; omega) (by omega)]; exact h10 j hj
  · intro j k hj hk
    rw [e (5030 + j) (2 * k) (by unfold kr; omega) (by omega)]; exact h11 j k hj hk
  · rw [e 5004 900 (by unfold kr; omega) (by omega)]; exact h12
  · intro q hq
    rw [e 5004 900 (by unfold kr; omega) (by omega)] at hq
    have hq10 : q < 10 := by have := h12.2; omega
    rw [e 5004 (2 * q) (by unfold kr; omega) (by omega), e 5001 900 (by unfold kr; omega) (by omega)]; exact h13 q hq
  · intro r hr
    rw [e 5007 r (by unfold kr; omega) (by omega)]; exact h14 r hr
  · intro r hr
    rw [e (5010 + r) 0 (by unfold kr; omega) (by omega)]; exact h15 r hr
  · intro hs j hj
    rw [e 5000 1 (by unfold kr; omega) (by omega)] at hs
    rw [e 5002 900 (by unfold kr; omega) (by omega)] at hj
    have hj6 : j < 6 := by have := h2.2; omega
    rw [e 5005 j (by unfold kr; omega) (by omega), e (5030 + j) 900 (by unfold kr; omega) (by omega)]; exact h16 hs j hj
  · rw [e 5000 7 (by unfold kr; omega) (by omega)]; exact h17
section
variable {σ : XS9} {R B C K g w : Nat} {rg : Nat → Nat}
theorem JR.clear {x : Int32} (h : JR σ) : JR (g_Mclear σ x R C rg) := by
  unfold g_Mclear
  split
  · rename_i hy
    have hc := cn6 hy
    have f := h.s0 (x := 0)
    have e : ∀ q, q ≠ 20000 → g_MclearNow (u2 σ 5000 0 0) (cn x) R C rg q = u2 σ 5000 0 0 q := fun q h2 => fr_MclearNow ⟨h2, hc⟩
    refine f.hi (fun q hq => e q (by omega)) ⟨⟨by rw [e _ (by omega)]; exact f.2.1.1, by rw [e _ (by omega)]; exact f.2.1.2⟩, fun q a b => ?_⟩
    by_cases e1 : q = 20000
    · rw [e1]
      unfold g_MclearNow
      exact u2_at
    · rw [e q e1]
      exact f.2.2 q a b
  · exact h.s00
theorem JR.anew8 {t : XS9} {m : Nat} (h : JR σ) (hm : m ≤ 60) (hp : PA9 σ m t) : JR (u2 t 8000 20 0) := by
  obtain ⟨-, p1, p2, p3, p4, pe⟩ := hp
  refine ⟨h.1.alt8 ⟨?_, ?_, ?_, ?_⟩ (fun q i hk hq => ?_), ⟨⟨?_, u2_at⟩, fun q a b => ?_⟩⟩
  · rw [u2_oi (by decide), p1]; exact bd.nat hm (by decide)
  · rw [u2_oi (by decide), p2]; exact bd.nat hm (by decide)
  · rw [u2_oi (by decide), p3]; exact bd.nat (by omega) (by decide)
  · rw [u2_oi (by decide), p4]; exact bd.nat (by omega) (by decide)
  · rw [u2_ne hq, pe q (by unfold kr at hk; omega)]
  · rw [u2_ne (by decide), pe _ (by omega)]; exact h.2.1.1
  · rw [u2_ne (by omega), pe _ (by omega)]; exact h.2.2 q a b
theorem JR.anew {x y v u : Int32} (h : JR σ) (hp : ∃ m, m ≤ 60 ∧ PA9 (u2 σ 5000 0 0) m (g_MrunAnew (u2 σ 5000 0 0) (nI (rn x + 1)) (cn y) (cn v) u R B K)) : JR (g_Manew σ x y v u R B K) := by
  obtain ⟨m, hm, hp⟩ := hp
  unfold g_Manew
  split
  · split
    · split
      · split
        · exact h.s0.anew8 hm hp
        · exact h.s00
      · exact h.s00
    · exact h.s00
  · exact h.s00
end
/-- p2's own: the stage's being 0, the numbers of regions and of bidders are the same on both sides -/
def R2 (τ σ : XS9) : Prop := σ 1001 4 = τ 5001 900 ∧ σ 1001 9 = τ 5002 900 ∧ (σ 1000 7 = 0 ↔ τ 5000 1 = 0)
theorem R2.of {τ σ τ2 σ2 : XS9} (h : R2 τ σ) (c1 : σ2 1001 4 = σ 1001 4) (c2 : σ2 1001 9 = σ 1001 9) (c3 : σ2 1000 7 = 0 ↔ σ 1000 7 = 0) (m1 : τ2 5001 900 = τ 5001 900) (m2 : τ2 5002 900 = τ 5002 900) (m3 : τ2 5000 1 = 0 ↔ τ 5000 1 = 0) : R2 τ2 σ2 :=
  ⟨by rw [c1, m1]; exact h.1, by rw [c2, m2]; exact h.2.1, c3.trans (h.2.2.trans m3.symm)⟩
theorem R2.s0 {τ σ : XS9} (h : R2 τ σ) {x : Int32} : R2 (u2 τ 5000 0 x) σ := h.of rfl rfl Iff.rfl (by rw [u2_ne (by omega)]) (by rw [u2_ne (by omega)]) (by rw [u2_oi (by decide)])
theorem R2.bg {τ τ2 σ σ2 : XS9} (h : R2 τ σ) (c1 : σ2 1001 4 = τ2 5001 900) (c2 : σ2 1001 9 = τ2 5002 900) (c3 : σ2 1000 = σ 1000) (m3 : τ2 5000 1 = τ 5000 1) : R2 τ2 (g_begin σ2 2000) := by
  have e : ∀ q, q < 2000 → g_begin σ2 2000 q = σ2 q := fun q hq => fr_begin (by omega)
  exact ⟨by rw [e _ (by decide)]; exact c1, by rw [e _ (by decide)]; exact c2, by rw [e _ (by decide), c3, m3]; exact h.2.2⟩
theorem R2.region {τ σ : XS9} {x y v : Int32} {R : Nat} (h : R2 τ σ) (hR5 : R ≤ 5) : R2 (g_Mregion τ x y v R) (g_region σ x y v R) := by
  have s00 : ∀ x9, R2 (u2 (u2 τ 5000 0 0) 5000 0 x9) σ := fun x9 => h.s0.s0
  unfold g_Mregion g_region
  by_cases q1 : n_bt x 1 5
  · by_cases q2 : n_bt y 1 9
    · by_cases q3 : n_bt v 1 999
      · by_cases q4 : σ 1000 7 = 0
        · have q5 : τ 5000 1 = 0 := h.2.2.mp q4
          by_cases q6 : R < 5
          · have c6 : nI R < 5 := (nI_ltI (a := R) (b := 5) (by omega) (by omega)).mpr q6
            have d6 : ¬ nI R = 5 := fun e => by
              have := congrArg cn e
              rw [cn_nI (by omega)] at this
              exact absurd this (by show ¬ R = 5; omega)
            rw [if_pos q1, if_pos q2, if_pos q3, if_pos q5, if_neg d6, if_pos q1, if_pos q2, if_pos q3, if_pos q4, if_pos c6]
            refine h.bg ?_ ?_ ?_ ?_
            · unfold g_addRegion
              rw [u2_at, u2_at]
            · unfold g_addRegion
              rw [u2_oi (by decide), u2_ne (by decide), u2_ne (by decide), u2_ne (by decide), u2_ne (by decide), uR_ne (by omega), u2_ne (by decide)]
              exact h.2.1
            · unfold g_addRegion
              rw [u2_ne (by decide), u2_ne (by decide), u2_ne (by decide), u2_ne (by decide)]
            · rw [u2_ne (by decide), uR_ne (by omega), u2_oi (by decide)]
          · obtain rfl : R = 5 := by omega
            rw [if_pos q1, if_pos q2, if_pos q3, if_pos q5, if_pos (show nI 5 = 5 from rfl), if_pos q1, if_pos q2, if_pos q3, if_pos q4, if_neg (by decide)]
            exact s00 2
        · have q5 : ¬ τ 5000 1 = 0 := fun e => q4 (h.2.2.mpr e)
          rw [if_pos q1, if_pos q2, if_pos q3, if_neg q5, if_pos q1, if_pos q2, if_pos q3, if_neg q4]
          exact s00 2
      · rw [if_pos q1, if_pos q2, if_neg q3, if_pos q1, if_pos q2, if_neg q3]
        exact s00 1
    · rw [if_pos q1, if_neg q2, if_pos q1, if_neg q2]
      exact s00 1
  · rw [if_neg q1, if_neg q1]
    exact s00 1
/-- what p2 compares -/
theorem R2.says {τ σ : XS9} {x y v : Int32} {R : Nat} (h : R2 τ σ) (hR5 : R ≤ 5) : g_Mregion τ x y v R 5000 0 = lw_k [eIAE, eISE] (o_region σ x y v R) ∧ ∀ w, o_region σ x y v R = .inl w → w = f_Mregion τ x y v R := by
  have bad1 : ∀ (o : Int32 ⊕ String) (m : Int32), o = .inr eIAE → u2 (u2 τ 5000 0 0) 5000 0 1 5000 0 = lw_k [eIAE, eISE] o ∧ ∀ w, o = .inl w → w = m := fun o m e => by
    rw [e]
    exact ⟨u2_at, fun w z => by cases z⟩
  have bad2 : ∀ (o : Int32 ⊕ String) (m : Int32), o = .inr eISE → u2 (u2 τ 5000 0 0) 5000 0 2 5000 0 = lw_k [eIAE, eISE] o ∧ ∀ w, o = .inl w → w = m := fun o m e => by
    rw [e]
    exact ⟨u2_at, fun w z => by cases z⟩
  unfold g_Mregion
  by_cases q1 : n_bt x 1 5
  · by_cases q2 : n_bt y 1 9
    · by_cases q3 : n_bt v 1 999
      · by_cases q4 : σ 1000 7 = 0
        · have q5 : τ 5000 1 = 0 := h.2.2.mp q4
          by_cases q6 : R < 5
          · have c6 : nI R < 5 := (nI_ltI (a := R) (b := 5) (by omega) (by omega)).mpr q6
            have d6 : ¬ nI R = 5 := fun e => by
              have := congrArg cn e
              rw [cn_nI (by omega)] at this
              exact absurd this (by show ¬ R = 5; omega)
            rw [if_pos q1, if_pos q2, if_pos q3, if_pos q5, if_neg d6]
            unfold o_region f_Mregion
            rw [if_pos q1, if_pos q2, if_pos q3, if_pos q4, if_pos c6, if_pos q1, if_pos q2, if_pos q3, if_pos q5, if_neg d6]
            refine ⟨?_, fun w e => (Sum.inl.inj e).symm⟩
            rw [u2_ne (by decide), uR_ne (by omega), u2_at]
            rfl
          · obtain rfl : R = 5 := by omega
            rw [if_pos q1, if_pos q2, if_pos q3, if_pos q5, if_pos (show nI 5 = 5 from rfl)]
            refine bad2 _ _ ?_
            unfold o_region
            rw [if_pos q1, if_pos q2, if_pos q3, if_pos q4, if_neg (by decide)]
        · have q5 : ¬ τ 5000 1 = 0 := fun e => q4 (h.2.2.mpr e)
          rw [if_pos q1, if_pos q2, if_pos q3, if_neg q5]
          refine bad2 _ _ ?_
          unfold o_region
          rw [if_pos q1, if_pos q2, if_pos q3, if_neg q4]
      · rw [if_pos q1, if_pos q2, if_neg q3]
        refine bad1 _ _ ?_
        unfold o_region
        rw [if_pos q1, if_pos q2, if_neg q3]
    · rw [if_pos q1, if_neg q2]
      refine bad1 _ _ ?_
      unfold o_region
      rw [if_pos q1, if_neg q2]
  · rw [if_neg q1]
    refine bad1 _ _ ?_
    unfold o_region
    rw [if_neg q1]
end
section
/-! ===== pure facts: what keeps the relation ===== -/
/-- on the class's side -/
def VC (σ σ2 : XS9) : Prop := σ2 1001 4 = σ 1001 4 ∧ σ2 1001 9 = σ 1001 9 ∧ (σ2 1000 7 = 0 ↔ σ 1000 7 = 0)
/-- on the reference's -/
def VM (τ τ2 : XS9) : Prop := τ2 5001 900 = τ 5001 900 ∧ τ2 5002 900 = τ 5002 900 ∧ (τ2 5000 1 = 0 ↔ τ 5000 1 = 0)
theorem R2.kept {τ τ2 σ σ2 : XS9} (h : R2 τ σ) (m : VM τ τ2) (c : VC σ σ2) : R2 τ2 σ2 := h.of c.1 c.2.1 c.2.2 m.1 m.2.1 m.2.2
theorem VC.rfl' {σ : XS9} : VC σ σ := ⟨rfl, rfl, Iff.rfl⟩
theorem VM.rfl' {τ : XS9} : VM τ τ := ⟨rfl, rfl, Iff.rfl⟩
theorem VC.trans {σ σ2 σ3 : XS9} (a : VC σ σ2) (b : VC σ2 σ3) : VC σ σ3 := ⟨b.1.trans a.1, b.2.1.trans a.2.1, b.2.2.trans a.2.2⟩
theorem VM.trans {τ τ2 τ3 : XS9} (a : VM τ τ2) (b : VM τ2 τ3) : VM τ τ3 := ⟨b.1.trans a.1, b.2.1.trans a.2.1, b.2.2.trans a.2.2⟩
theorem VC.rows {σ σ2 : XS9} (h0 : σ2 1000 = σ 1000) (h1 : σ2 1001 = σ 1001) : VC σ σ2 := ⟨by rw [h1], by rw [h1], by rw [h0]⟩
theorem VM.rows {τ τ2 : XS9} (h0 : τ2 5000 = τ 5000) (h1 : τ2 5001 = τ 5001) (h2 : τ2 5002 = τ 5002) : VM τ τ2 := ⟨by rw [h1], by rw [h2], by rw [h0]⟩
theorem VC.set {σ : XS9} {q i : Nat} {x : Int32} (hq : ¬ ((q = 1001 ∧ (i = 4 ∨ i = 9)) ∨ (q = 1000 ∧ i = 7))) : VC σ (u2 σ q i x) :=
  ⟨u2_o (fun a b => by omega), u2_o (fun a b => by omega), by rw [u2_o (fun a b => by omega)]⟩
theorem VM.set {τ : XS9} {q i : Nat} {x : Int32} (hq : ¬ ((q = 5001 ∧ i = 900) ∨ (q = 5002 ∧ i = 900) ∨ (q = 5000 ∧ i = 1))) : VM τ (u2 τ q i x) :=
  ⟨u2_o (fun a b => by omega), u2_o (fun a b => by omega), by rw [u2_o (fun a b => by omega)]⟩
theorem VM.s0 {τ : XS9} {x : Int32} : VM τ (u2 τ 5000 0 x) := VM.set (by decide)
theorem VM.s00 {τ : XS9} {x : Int32} : VM τ (u2 (u2 τ 5000 0 0) 5000 0 x) := VM.s0.trans VM.s0
section
variable {σ τ : XS9} {R B C K g w : Nat} {gr cnt sp pk tn rg : Nat → Nat} {cd : Nat → Nat → Nat}
theorem VC.border {x y : Int32} : VC σ (g_border σ x y R) := by
  unfold g_border
  (repeat' split) <;> first | with_reducible exact VC.rfl' | (unfold g_addBorder; exact (VC.set (q := 1013) (by omega)).trans (VC.set (q := 1013) (by omega))) | exact VC.rfl'
theorem VC.rules {x y : Int32} : VC σ (g_rules σ x y) := by
  unfold g_rules
  (repeat' split) <;> first | with_reducible exact VC.rfl' | exact (VC.set (by decide)).trans (VC.set (by decide)) | exact VC.rfl'
theorem VC.step {x : Int32} : VC σ (g_step σ x) := by
  unfold g_step
  (repeat' split) <;> first | with_reducible exact VC.rfl' | exact VC.set (by decide) | exact VC.rfl'
theorem VC.wish {x y z : Int32} : VC σ (g_wish σ x y z R B) := by
  unfold g_wish
  (repeat' split) <;> first | with_reducible exact VC.rfl' | exact VC.set (q := 2003) (by omega) | exact VC.rfl'
theorem VC.waive {x : Int32} : VC σ (g_waive σ x B) := by
  unfold g_waive
  (repeat' split) <;> first | with_reducible exact VC.rfl' | (unfold g_useWaiver; exact (VC.set (q := 2005) (by omega)).trans (VC.set (q := 2000) (by omega))) | exact VC.rfl'
theorem VC.station {x y : Int32} : VC σ (g_station σ x y R C) := by
  unfold g_station
  (repeat' split) <;> first | with_reducible exact VC.rfl' | (unfold g_add; exact ((VC.set (q := 1151) (by omega)).trans (VC.set (q := 1150) (by omega))).trans (VC.set (q := 1006) (by omega))) | exact VC.rfl'
theorem VC.ask {x y : Int32} : VC σ (g_ask σ x y C) := by
  unfold g_ask
  (repeat' split) <;> first | with_reducible exact VC.rfl' | exact VC.set (q := 1150) (by omega) | exact VC.rfl'
theorem VC.packs {x y : Int32} : VC σ (g_packs σ x y C rg) := by
  unfold g_packs
  (repeat' split) <;> first | with_reducible exact VC.rfl' | exact VC.rows (fr_packM (by omega)) (fr_packM (by omega)) | exact VC.rfl'
theorem VC.channel {x y z : Int32} : VC σ (g_channel σ x y z C rg) := by
  unfold g_channel
  (repeat' split) <;> first | with_reducible exact VC.rfl' | exact VC.rows (fr_packM (by omega)) (fr_packM (by omega)) | exact VC.rfl'
theorem VC.clear {x : Int32} : VC σ (g_clear σ x C rg) := by
  unfold g_clear
  (repeat' split) <;> first | with_reducible exact VC.rfl' | exact VC.rows (fr_cheapest (by omega)) (fr_cheapest (by omega)) | exact VC.rfl'
theorem VC.anew {x y z v : Int32} (hK60 : K ≤ 60) : VC σ (g_anew σ x y z v R B K) := by
  unfold g_anew
  (repeat' split) <;> first | with_reducible exact VC.rfl' | exact VC.rows (fr_runLog hK60 (by omega)) (fr_runLog hK60 (by omega)) | exact VC.rfl'
theorem VC.isSound (hK60 : K ≤ 60) : VC σ (g_isSound σ R B w K) := VC.rows (fr_runLog hK60 (by omega)) (fr_runLog hK60 (by omega))
theorem VC.digest (hK60 : K ≤ 60) : VC σ (g_digest σ K B R C w rg) := by
  unfold g_digest g_dgS
  split
  · exact ((VC.rows (fr_cheapest (by omega)) (fr_cheapest (by omega))).trans (VC.rows (fr_cheapest (by omega)) (fr_cheapest (by omega)))).trans (VC.isSound hK60)
  · exact VC.isSound hK60
theorem VC.knock : VC σ (g_knock σ) := VC.set (by decide)
theorem VC.find : VC σ (g_find σ) := VC.rows (fr_find (by omega)) (fr_find (by omega))
theorem VC.addM {i : Nat} {x y : Int32} (hi : i < 6) (hg : ∀ i, i < 6 → gr i < 4) (hc : cnt i ≤ 6) : VC σ (g_addM σ i x y R B gr cnt) := VC.rows (fr_addM ⟨hi, by omega, hg⟩ hc) (fr_addM ⟨hi, by omega, hg⟩ hc)
theorem VC.offer {x y z : Int32} (hB6 : B ≤ 6) (hg : ∀ i, i < 6 → gr i < 4) (hc : ∀ i, i < 6 → cnt i ≤ 6) : VC σ (g_offer σ x y z R B gr cnt) := by
  unfold g_offer
  split
  · rename_i hx
    have hx6 : cn x < 6 := by have := hx.2; omega
    split
    · exact VC.rfl'
    · split
      · split
        · split
          · exact VC.rfl'
          · split
            · exact VC.rfl'
            · exact (VC.addM hx6 hg (hc _ hx6)).trans VC.find
        · exact VC.rfl'
      · exact VC.rfl'
  · exact VC.rfl'
theorem VC.give (hR5 : R ≤ 5) : VC σ (g_give σ R sp) := VC.rows (fr_give hR5 ⟨by omega, by omega⟩) (fr_give hR5 ⟨by omega, by omega⟩)
theorem VC.settle {x : Int32} (hR5 : R ≤ 5) : VC σ (g_settle σ x R sp) := by
  unfold g_settle
  split
  · split
    · rename_i h2
      refine VC.trans (σ2 := u2 (u2 σ 1000 9 x) 1000 7 3) ⟨by rw [u2_ne (by decide), u2_ne (by decide)], by rw [u2_ne (by decide), u2_ne (by decide)], ?_⟩ (VC.give hR5)
      rw [u2_at, h2]
      exact ⟨fun e => absurd e (by decide), fun e => absurd e (by decide)⟩
    · exact VC.rfl'
  · exact VC.rfl'
theorem VC.leaveOut {i : Nat} : VC σ (g_leaveOut σ i) := VC.rows (fr_leaveOut (by omega)) (fr_leaveOut (by omega))
theorem VC.fail {x : Int32} (hR5 : R ≤ 5) : VC σ (g_fail σ x R B sp) := by
  unfold g_fail
  (repeat' split) <;> first | with_reducible exact VC.rfl' | exact (((VC.set (by decide)).trans VC.leaveOut).trans VC.find).trans (VC.give hR5) | exact VC.rfl'
/-! the reference's -/
theorem VM.border {x y : Int32} (hR5 : R ≤ 5) : VM τ (g_Mborder τ x y R) := by
  unfold g_Mborder
  split
  · rename_i hx
    have hx2 := hx.2
    split
    · rename_i hy
      have hy2 := hy.2
      (repeat' split) <;> first | with_reducible exact VM.s00 | exact (VM.s0.trans (VM.set (by omega))).trans (VM.set (by omega)) | exact VM.s00
    · exact VM.s00
  · exact VM.s00
theorem VM.rules {x y : Int32} : VM τ (g_Mrules τ x y) := by
  unfold g_Mrules
  (repeat' split) <;> first | with_reducible exact VM.s00 | exact (VM.s0.trans (VM.set (by decide))).trans (VM.set (by decide)) | exact VM.s00
theorem VM.step {x : Int32} : VM τ (g_Mstep τ x) := by
  unfold g_Mstep
  (repeat' split) <;> first | with_reducible exact VM.s00 | exact VM.s0.trans (VM.set (by decide)) | exact VM.s00
theorem VM.wish {x y v : Int32} : VM τ (g_Mwish τ x y v R B g) := by
  unfold g_Mwish
  (repeat' split) <;> first | with_reducible exact VM.s00 | exact VM.s0.trans (VM.set (by omega)) | exact VM.s00
theorem VM.waive {x : Int32} : VM τ (g_Mwaive τ x B g w) := by
  unfold g_Mwaive
  (repeat' split) <;> first | with_reducible exact VM.s00 | exact (VM.s0.trans (VM.set (by omega))).trans (VM.set (by omega)) | exact VM.s00
theorem VM.knock : VM τ (g_Mknock τ) := VM.s0.trans (VM.set (by decide))
theorem VM.station {x y : Int32} : VM τ (g_Mstation τ x y R C) := by
  unfold g_Mstation
  (repeat' split) <;> first | with_reducible exact VM.s00 | (unfold g_addI; exact (((VM.s0.trans (VM.set (by omega))).trans (VM.set (by omega))).trans (VM.set (by omega))).trans (VM.set (by omega))) | exact VM.s00
theorem VM.ask {x y : Int32} : VM τ (g_Mask τ x y C) := by
  unfold g_Mask
  (repeat' split) <;> first | with_reducible exact VM.s00 | (unfold g_setS; exact (VM.s0.trans (VM.set (by omega))).trans (VM.set (by omega))) | exact VM.s00
theorem VM.offer {x y v : Int32} : VM τ (g_Moffer τ x y v R B pk) := by
  unfold g_Moffer
  (repeat' split) <;> first | with_reducible exact VM.s00 | (unfold g_Madd g_addI; exact (((VM.s0.trans (VM.set (by omega))).trans (VM.set (by omega))).trans (VM.set (by omega))).trans (VM.set (by omega))) | exact VM.s00
theorem VM.hi {τ2 : XS9} (e : ∀ q, q ≤ 8000 → τ2 q = τ q) : VM τ τ2 := VM.rows (e _ (by omega)) (e _ (by omega)) (e _ (by omega))
theorem VM.cinit {R B : Nat} {pk gr : Nat → Nat} {cd : Nat → Nat → Nat} : VM τ (u2 (g_Cinit τ R B pk gr cd) 9000 20 0) := VM.hi fun q hq => by rw [u2_ne (by omega), fr_Cinit (by omega)]
theorem VM.wins {x : Int32} : VM τ (g_Mwins τ x R B pk gr cd) := by
  unfold g_Mwins
  (repeat' split) <;> first | with_reducible exact VM.s00 | exact VM.s0.trans VM.cinit | exact VM.s00
theorem VM.sale {x : Int32} : VM τ (g_Msale τ x R B pk gr cd K C g tn sp) := by
  unfold g_Msale
  (repeat' split) <;> first | with_reducible exact VM.s00 | exact VM.s0.trans VM.cinit | exact VM.s00
theorem VM.worth {x : Int32} : VM τ (g_Mworth τ x R B pk gr cd) := by
  unfold g_Mworth
  (repeat' split) <;> first | with_reducible exact VM.s00 | exact VM.s0.trans VM.cinit | exact VM.s00
theorem VM.packs {x y : Int32} : VM τ (g_Mpacks τ x y R C rg) := by
  unfold g_Mpacks
  split
  · split
    · rename_i hy
      have hc := cn6 hy
      exact VM.s0.trans (VM.hi fun q hq => by rw [u2_ne (by omega), fr_Mcp ⟨by omega, hc⟩, uR_ne (by omega)])
    · exact VM.s0
  · exact VM.s0
theorem VM.clear {x : Int32} : VM τ (g_Mclear τ x R C rg) := by
  unfold g_Mclear
  split
  · rename_i hy
    exact VM.s0.trans (VM.hi fun q hq => fr_MclearNow ⟨by omega, cn6 hy⟩)
  · exact VM.s00
end
end
section
/-! ===== pure facts: the relation through bidder and the clock's beginning ===== -/
section
variable {σ τ : XS9} {R B C K g w : Nat} {gr cnt sp pk tn rg : Nat → Nat} {cd : Nat → Nat → Nat}
theorem R2.bidder {x y v u : Int32} (h : R2 τ σ) (hB6 : B ≤ 6) : R2 (g_Mbidder τ x y v u B) (g_bidder σ x y v u B) := by
  have s00 : ∀ x9, R2 (u2 (u2 τ 5000 0 0) 5000 0 x9) σ := fun x9 => h.s0.s0
  unfold g_Mbidder g_bidder
  by_cases q1 : n_bt x 0 99999
  · by_cases q2 : n_bt y 1 200
    · by_cases q3 : n_bt v 0 30
      · by_cases q7 : n_bt u 0 3
        · by_cases q4 : σ 1000 7 = 0
          · have q5 : τ 5000 1 = 0 := h.2.2.mp q4
            by_cases q6 : B < 6
            · have c6 : nI B < 6 := (nI_ltI (a := B) (b := 6) (by omega) (by omega)).mpr q6
              have d6 : ¬ nI B = 6 := fun e => by
                have := congrArg cn e
                rw [cn_nI (by omega)] at this
                exact absurd this (by show ¬ B = 6; omega)
              rw [if_pos q1, if_pos q2, if_pos q3, if_pos q7, if_pos q5, if_neg d6, if_pos q1, if_pos q2, if_pos q3, if_pos q7, if_pos q4, if_pos c6]
              refine h.bg ?_ ?_ ?_ ?_
              · unfold g_addBidder
                rw [u2_oi (by decide), u2_ne (by decide), u2_ne (by decide), u2_ne (by decide), u2_ne (by decide), u2_ne (by decide), u2_ne (by omega), uR_ne (by omega), u2_ne (by decide)]
                exact h.1
              · unfold g_addBidder
                rw [u2_at, u2_at]
              · unfold g_addBidder
                rw [u2_ne (by decide), u2_ne (by decide), u2_ne (by decide), u2_ne (by decide), u2_ne (by decide)]
              · rw [u2_ne (by decide), u2_ne (by omega), uR_ne (by omega), u2_oi (by decide)]
            · obtain rfl : B = 6 := by omega
              rw [if_pos q1, if_pos q2, if_pos q3, if_pos q7, if_pos q5, if_pos (show nI 6 = 6 from rfl), if_pos q1, if_pos q2, if_pos q3, if_pos q7, if_pos q4, if_neg (by decide)]
              exact s00 2
          · have q5 : ¬ τ 5000 1 = 0 := fun e => q4 (h.2.2.mpr e)
            rw [if_pos q1, if_pos q2, if_pos q3, if_pos q7, if_neg q5, if_pos q1, if_pos q2, if_pos q3, if_pos q7, if_neg q4]
            exact s00 2
        · rw [if_pos q1, if_pos q2, if_pos q3, if_neg q7, if_pos q1, if_pos q2, if_pos q3, if_neg q7]
          exact s00 1
      · rw [if_pos q1, if_pos q2, if_neg q3, if_pos q1, if_pos q2, if_neg q3]
        exact s00 1
    · rw [if_pos q1, if_neg q2, if_pos q1, if_neg q2]
      exact s00 1
  · rw [if_neg q1, if_neg q1]
    exact s00 1
theorem R2.opn (h : R2 τ σ) (hR5 : R ≤ 5) (hB6 : B ≤ 6) : R2 (g_Mopen τ R B) (g_open σ R B) := by
  have s00 : ∀ x9, R2 (u2 (u2 τ 5000 0 0) 5000 0 x9) σ := fun x9 => h.s0.s0
  unfold g_Mopen g_open
  by_cases q4 : σ 1000 7 = 0
  · have q5 : τ 5000 1 = 0 := h.2.2.mp q4
    rw [if_pos q5, if_pos q4]
    by_cases r0 : R = 0
    · rw [if_pos r0, if_pos (by rw [r0]; rfl)]
      exact s00 1
    · rw [if_neg r0, if_neg (fun e => r0 (nI_zero (by omega) e))]
      by_cases b0 : B = 0
      · rw [if_pos b0, if_pos (by rw [b0]; rfl)]
        exact s00 1
      · rw [if_neg b0, if_neg (fun e => b0 (nI_zero (by omega) e))]
        have k : ∀ q, q < 7000 → u2 (g_Kinit (u2 (u2 τ 5000 0 0) 5000 1 1) 7000 R B) 7000 25 1 q = u2 (u2 τ 5000 0 0) 5000 1 1 q := fun q hq => by rw [u2_ne (by omega), fr_Kinit (by omega)]
        refine ⟨?_, ?_, ?_⟩
        · rw [k _ (by omega), u2_ne (by decide), u2_ne (by decide), u2_ne (by decide)]
          exact h.1
        · rw [k _ (by omega), u2_ne (by decide), u2_ne (by decide), u2_ne (by decide)]
          exact h.2.1
        · rw [k _ (by omega), u2_at, u2_at]
  · have q5 : ¬ τ 5000 1 = 0 := fun e => q4 (h.2.2.mpr e)
    rw [if_neg q5, if_neg q4]
    exact s00 1
theorem VM.ofRegion {x y : Int32} : VM τ (g_MofRegion τ x y R B C g) := by
  unfold g_MofRegion
  (repeat' split) <;> first | with_reducible exact VM.s00 | with_reducible exact VM.s0 | exact VM.s00 | exact VM.s0
theorem VM.ofBidder {x y : Int32} : VM τ (g_MofBidder τ x y R B pk g) := by
  unfold g_MofBidder
  (repeat' split) <;> first | with_reducible exact VM.s00 | with_reducible exact VM.s0 | exact VM.s00 | exact VM.s0
theorem VM.wants {x y v : Int32} : VM τ (g_Mwants τ x y v R B g) := by
  unfold g_Mwants
  (repeat' split) <;> first | with_reducible exact VM.s00 | with_reducible exact VM.s0 | exact VM.s00 | exact VM.s0
theorem VM.priceIn {x y : Int32} : VM τ (g_MpriceIn τ x y R K) := by
  unfold g_MpriceIn
  (repeat' split) <;> first | with_reducible exact VM.s00 | with_reducible exact VM.s0 | exact VM.s00 | exact VM.s0
theorem VM.codeIn {x y v : Int32} : VM τ (g_McodeIn τ x y v B K) := by
  unfold g_McodeIn
  (repeat' split) <;> first | with_reducible exact VM.s00 | with_reducible exact VM.s0 | exact VM.s00 | exact VM.s0
theorem VM.ofPackage {x y v : Int32} : VM τ (g_MofPackage τ x y v B pk) := by
  unfold g_MofPackage
  (repeat' split) <;> first | with_reducible exact VM.s00 | with_reducible exact VM.s0 | exact VM.s00 | exact VM.s0
theorem VM.pays {x y : Int32} : VM τ (g_Mpays τ x y B) := by
  unfold g_Mpays
  (repeat' split) <;> first | with_reducible exact VM.s00 | with_reducible exact VM.s0 | exact VM.s00 | exact VM.s0
theorem VM.holder {x y : Int32} : VM τ (g_Mholder τ x y R B tn sp) := by
  unfold g_Mholder
  (repeat' split) <;> first | with_reducible exact VM.s00 | with_reducible exact VM.s0 | exact VM.s00 | exact VM.s0
theorem VM.most {x y : Int32} : VM τ (g_Mmost τ x y R B g) := by
  unfold g_Mmost
  (repeat' split) <;> first | with_reducible exact VM.s00 | with_reducible exact VM.s0 | exact VM.s00 | exact VM.s0
theorem VM.contradicts {x : Int32} {n : Nat} : VM τ (g_Mcontradicts τ x R B g n) := by
  unfold g_Mcontradicts
  (repeat' split) <;> first | with_reducible exact VM.s00 | with_reducible exact VM.s0 | exact VM.s00 | exact VM.s0
theorem VM.cpay {y : Nat} (hB6 : B ≤ 6) : VM τ (u2 (u2 (g_Cpay (g_Cinit τ R B pk gr cd) y 20000 B) 9000 20 0) 20000 20 0) := VM.hi fun q hq => by rw [u2_ne (by omega), u2_ne (by omega), fr_Cpay ⟨by omega, hB6⟩, fr_Cinit (by omega)]
theorem VM.wouldPay {x y : Int32} (hB6 : B ≤ 6) : VM τ (g_MwouldPay τ x y R B pk gr cd) := by
  unfold g_MwouldPay
  (repeat' split) <;> first | with_reducible exact VM.s00 | exact VM.s0.trans (VM.cpay hB6) | exact VM.s00
theorem VM.objects {x y : Int32} (hB6 : B ≤ 6) : VM τ (g_Mobjects τ x y R B pk gr cd) := by
  unfold g_Mobjects
  (repeat' split) <;> first | with_reducible exact VM.s00 | exact VM.s0.trans (VM.cpay hB6) | exact VM.s00
theorem VM.anew {x y v u : Int32} (hp : ∃ m, m ≤ 60 ∧ PA9 (u2 τ 5000 0 0) m (g_MrunAnew (u2 τ 5000 0 0) (nI (rn x + 1)) (cn y) (cn v) u R B K)) : VM τ (g_Manew τ x y v u R B K) := by
  obtain ⟨m, hm, -, -, -, -, -, pe⟩ := hp
  unfold g_Manew
  (repeat' split) <;> first | with_reducible exact VM.s00 | exact VM.s0.trans (VM.rows (by rw [u2_ne (by decide), pe _ (by omega)]) (by rw [u2_ne (by decide), pe _ (by omega)]) (by rw [u2_ne (by decide), pe _ (by omega)])) | exact VM.s00
theorem VM.keep {wy : Nat} (hB6 : B ≤ 6) : VM τ (g_Mkeep τ R B pk gr cd wy sp) := VM.rows (fr_Mkeep ⟨by omega, by omega, by omega, hB6⟩) (fr_Mkeep ⟨by omega, by omega, by omega, hB6⟩) (fr_Mkeep ⟨by omega, by omega, by omega, hB6⟩)
theorem VM.settle {x : Int32} (hB6 : B ≤ 6) : VM τ (g_Msettle τ x R B pk gr cd sp) := by
  unfold g_Msettle
  split
  · split
    · rename_i h2
      refine VM.trans (τ2 := u2 (u2 (u2 τ 5000 0 0) 5000 1 3) 5000 7 (nI (cn x))) ⟨by rw [u2_ne (by decide), u2_ne (by decide), u2_ne (by decide)], by rw [u2_ne (by decide), u2_ne (by decide), u2_ne (by decide)], ?_⟩ (VM.keep hB6)
      rw [u2_oi (by decide), u2_at, h2]
      exact ⟨fun e => absurd e (by decide), fun e => absurd e (by decide)⟩
    · exact VM.s00
  · exact VM.s00
theorem VM.fail {x : Int32} {wy : Nat} (hB6 : B ≤ 6) : VM τ (g_Mfail τ x R B pk gr cd wy sp) := by
  unfold g_Mfail
  split
  · rename_i hx
    have hx2 := hx.2
    split
    · split
      · exact VM.s00
      · exact ((VM.s0.trans (VM.set (by decide))).trans (VM.set (by omega))).trans (VM.keep hB6)
    · exact VM.s00
  · exact VM.s00
end
end
section
/-! ===== pure facts: the reference's clock begins ===== -/
theorem JA.clockOn {σ σ2 : XS9} (n1 : σ2 5000 1 = 1) (n20 : σ2 7000 20 = 1) (n25 : σ2 7000 25 = 1) (nz : σ2 7000 21 = 0 ∧ σ2 7000 22 = 0 ∧ σ2 7000 23 = 0 ∧ σ2 7000 24 = 0) (h : JA σ) (e : ∀ q i, kr q i → (¬ (q = 5000 ∧ i = 1) ∧ q ≠ 7000) → σ2 q i = σ q i) : JA σ2 := by
  obtain ⟨h1, h2, h3, h4, h5, h6, h7, h8, h9, h10, h11, h12, h13, h14, h15, h16, h17⟩ := h
  refine ⟨?_, ?_, ?_, ?_, ?_, ?_, ?_, ?_, ?_, ?_, ?_, ?_, ?_, ?_, ?_, ?_, ?_⟩
  · rw [e 5001 900 (by unfold kr; omega) (by omega)]; exact h1
  · rw [e 5002 900 (by unfold kr; omega) (by omega)]; exact h2
  · rw [e 5003 900 (by unfold kr; omega) (by omega)]; exact h3
  · intro hs
    rw [n1] at hs
    exact absurd hs (by decide)
  · exact .inr ⟨n25, n20⟩
  · exact fun _ => ⟨n25, n20⟩
  · intro b hb
    rcases hb with rfl | rfl
    · rw [nz.1, nz.2.1, nz.2.2.1, nz.2.2.2]; exact ⟨bd.zero, bd.zero, bd.zero, bd.zero⟩
    · rw [e 8000 21 (by unfold kr; omega) (by omega), e 8000 22 (by unfold kr; omega) (by omega), e 8000 23 (by unfold kr; omega) (by omega), e 8000 24 (by unfold kr; omega) (by omega)]; exact h7 8000 (.inr rfl)
  · rw [nz.1, nz.2.1]
  · intro j hj
    rw [e (5030 + j) 900 (by unfold kr; omega) (by omega)]; exact h9 j hj
  · intro j hj
    rw [e (5020 + j) 3 (by unfold kr; omega) (by omega)]; exact h10 j hj
  · intro j k hj hk
    rw [e (5030 + j) (2 * k) (by unfold kr; omega) (by omega)]; exact h11 j k hj hk
  · rw [e 5004 900 (by unfold kr; omega) (by omega)]; exact h12
  · intro q hq
    rw [e 5004 900 (by unfold kr; omega) (by omega)] at hq
    have hq10 : q < 10 := by have := h12.2; omega
    rw [e 5004 (2 * q) (by unfold kr; omega) (by omega), e 5001 900 (by unfold kr; omega) (by omega)]; exact h13 q hq
  · intro r hr
    rw [e 5007 r (by unfold kr; omega) (by omega)]; exact h14 r hr
  · intro r hr
    rw [e (5010 + r) 0 (by unfold kr; omega) (by omega)]; exact h15 r hr
  · intro hs
    rw [n1] at hs
    exact absurd hs (by decide)
  · rw [e 5000 7 (by unfold kr; omega) (by omega)]; exact h17
theorem Kinit_row {σ : XS9} {b R B : Nat} : g_Kinit σ b R B b = g_clk0 σ b b := by
  unfold g_Kinit x_Kinit_132
  refine (xit_keep (fun s : XS9 => s b) (fun i s => ?_) B 0 _).trans ?_
  · (try dsimp only)
    rw [u2_ne (by omega), u2_ne (by omega)]
  · unfold x_Kinit_95
    refine (xit_keep (fun s : XS9 => s b) (fun i s => ?_) R 0 _).trans rfl
    (try dsimp only)
    rw [u2_ne (by omega)]
theorem clk0_at {σ : XS9} {b i : Nat} (h1 : i ≠ 20) (h2 : i ≠ 25) : g_clk0 σ b b i = 0 := by
  unfold g_clk0
  rw [if_pos rfl]
  show (if i = 20 then (1 : Int32) else if i = 25 then σ b 25 else 0) = 0
  rw [if_neg h1, if_neg h2]
theorem JR.opn {τ : XS9} {R B : Nat} (h : JR τ) : JR (g_Mopen τ R B) := by
  unfold g_Mopen
  split
  · split
    · exact h.s00
    · split
      · exact h.s00
      · have k : ∀ q, (q < 7000 ∨ 8000 ≤ q) → u2 (g_Kinit (u2 (u2 τ 5000 0 0) 5000 1 1) 7000 R B) 7000 25 1 q = u2 (u2 τ 5000 0 0) 5000 1 1 q := fun q hq => by rw [u2_ne (by omega), fr_Kinit (by omega)]
        have z : ∀ i, i ≠ 20 → i ≠ 25 → u2 (g_Kinit (u2 (u2 τ 5000 0 0) 5000 1 1) 7000 R B) 7000 25 1 7000 i = 0 := fun i h1 h2 => by rw [u2_oi h2, Kinit_row, clk0_at h1 h2]
        refine ⟨h.1.clockOn (by rw [k _ (by omega), u2_at]) ?_ u2_at ⟨z _ (by decide) (by decide), z _ (by decide) (by decide), z _ (by decide) (by decide), z _ (by decide) (by decide)⟩ (fun q i hk hn => ?_), ?_⟩
        · rw [u2_oi (by decide), Kinit_row]
          rfl
        · rw [k q (by unfold kr at hk; omega), u2_o (fun a b => hn.1 ⟨a, b⟩), u2_o (fun a b => by unfold kr at hk; omega)]
        · exact (h.2.set (q := 5000) (i := 0) (x := 0) (.inl (.inl (by decide)))).rows fun q hq => by rw [k q (by omega), u2_ne (by omega)]
  · exact h.s00
theorem if_open {l : Launch} (hl : l.stackTraces = false) {LI : XS9 → XS9 → Prop} (hp : ∀ τ σ, LI τ σ → JC σ ∧ JR τ) (hk : ∀ τ σ, LI τ σ → LI (g_Mopen τ (mR τ) (mB τ)) (g_open σ (aR σ) (aB σ))) : IF_open l LI := by
  intro z τ σ h9
  have j := (hp τ σ h9).1
  have r := (hp τ σ h9).2
  refine ⟨o_open σ (aR σ) (aB σ), g_open σ (aR σ) (aB σ), f_Mopen τ (mR τ) (mB τ), z, g_Mopen τ (mR τ) (mB τ), fun h hh => ct_X7_open hl j.hR.1 j.hR.2 j.hB.1 j.hB.2, fun E e => ?_, fun h hh => ct_X14_open hl hh.bs (fun r h1 _ => hh.no h1) r.hR.1 r.hR.2 r.hB.1 r.hB.2 (fun q => (r.hp0 q).1), hk τ σ h9⟩
  unfold o_open at e
  (repeat' split at e) <;> first | (cases e; done) | (rw [← Sum.inr.inj e]; done)
end
section
/-! ===== the interfaces that want deeper facts ===== -/
theorem if_knock {l : Launch} (hl : l.stackTraces = false) {LI : XS9 → XS9 → Prop} (hk : ∀ τ σ, LI τ σ → LI (g_Mknock τ) (g_knock σ)) : IF_knock l LI :=
  fun z τ σ h9 => ⟨f_knock σ, g_knock σ, f_Mknock τ, z, g_Mknock τ, fun h hh => ct_X7_knock hl, fun h hh => ct_X14_knock hl hh.bs, hk τ σ h9⟩
theorem if_settle {l : Launch} (hl : l.stackTraces = false) {LI : XS9 → XS9 → Prop} (hp : ∀ τ σ, LI τ σ → JC σ ∧ JR τ) (x_hpi : ∀ τ σ (p0 : Int32), LI τ σ → (∀ j, j < (mB τ) → g_Cinit (u2 (u2 (u2 τ 5000 0 0) 5000 1 3) 5000 7 (nI (cn p0))) (mR τ) (mB τ) (mpk τ) (mgr τ) (mcd τ) 9001 j = -1 ∨ ∃ n9, n9 < (mpk τ) j ∧ g_Cinit (u2 (u2 (u2 τ 5000 0 0) 5000 1 3) 5000 7 (nI (cn p0))) (mR τ) (mB τ) (mpk τ) (mgr τ) (mcd τ) 9001 j = nI n9)) (x_hterm : ∀ τ σ (p0 : Int32), LI τ σ → (∃ r, xitR (p2_step 20000 (mB τ)) 20000000 0 (g_Cpay20 (uR (g_Cinit (u2 (u2 (u2 τ 5000 0 0) 5000 1 3) 5000 7 (nI (cn p0))) (mR τ) (mB τ) (mpk τ) (mgr τ) (mcd τ)) 5005 (va_cpy (g_Cinit (u2 (u2 (u2 τ 5000 0 0) 5000 1 3) 5000 7 (nI (cn p0))) (mR τ) (mB τ) (mpk τ) (mgr τ) (mcd τ) 9001) ((u2 (u2 (u2 τ 5000 0 0) 5000 1 3) 5000 7 (nI (cn p0))) 5005) 0 0 6)) 20000 (mB τ)) = .inr r)) (hk : ∀ τ σ (p0 : Int32), LI τ σ → LI (g_Msettle τ p0 (mR τ) (mB τ) (mpk τ) (mgr τ) (mcd τ) (msp τ)) (g_settle σ p0 (aR σ) (asp σ))) : IF_settle l LI := by
  intro z τ σ p0 h9
  have j := (hp τ σ h9).1
  have r := (hp τ σ h9).2
  refine ⟨(o_settle σ p0 (aR σ) (asp σ)), (g_settle σ p0 (aR σ) (asp σ)), (f_Msettle τ p0 (mR τ) (mB τ) (mpk τ) (mgr τ) (mcd τ) (msp τ)), z, (g_Msettle τ p0 (mR τ) (mB τ) (mpk τ) (mgr τ) (mcd τ) (msp τ)), fun h hh => ct_X7_settle hl j.hR.1 j.hR.2 (sp := asp σ) j.hsp j.hcd, fun E e => ?_, fun h hh => ct_X14_settle hl hh.bs (fun r h1 _ => hh.no h1) r.me r.hR.1 r.hR.2 r.hB.1 r.hB.2 (pk := mpk τ) r.hpk (gr := mgr τ) r.hgr (cd := mcd τ) r.hcd (x_hpi τ σ p0 h9) (x_hterm τ σ p0 h9) r.htn (sp := msp τ) r.hsp, hk τ σ p0 h9⟩
  unfold o_settle at e
  (repeat' split at e) <;> first | (cases e; done) | (rw [← Sum.inr.inj e]; done) | (rw [← Sum.inr.inj e]; first | exact rfl | exact .inl rfl | exact .inr rfl | exact .inr (.inl rfl) | exact .inr (.inr rfl))
theorem if_fail {l : Launch} (hl : l.stackTraces = false) {LI : XS9 → XS9 → Prop} (hp : ∀ τ σ, LI τ σ → JC σ ∧ JR τ) (x_hpi : ∀ τ σ (p0 : Int32), LI τ σ → (∀ j, j < (mB τ) → g_Cinit (u2 (u2 (u2 τ 5000 0 0) 5000 5 ((τ 5000 5) + ((f_Bamount (u2 τ 5000 0 0) (cn p0) (cn (τ 5005 (cn p0)))) / 10))) (5020 + cn p0) 4 1) (mR τ) (mB τ) (mpk τ) (mgr τ) (mcd τ) 9001 j = -1 ∨ ∃ n9, n9 < (mpk τ) j ∧ g_Cinit (u2 (u2 (u2 τ 5000 0 0) 5000 5 ((τ 5000 5) + ((f_Bamount (u2 τ 5000 0 0) (cn p0) (cn (τ 5005 (cn p0)))) / 10))) (5020 + cn p0) 4 1) (mR τ) (mB τ) (mpk τ) (mgr τ) (mcd τ) 9001 j = nI n9)) (x_hterm : ∀ τ σ (p0 : Int32), LI τ σ → (∃ r, xitR (p2_step 20000 (mB τ)) 20000000 0 (g_Cpay20 (uR (g_Cinit (u2 (u2 (u2 τ 5000 0 0) 5000 5 ((τ 5000 5) + ((f_Bamount (u2 τ 5000 0 0) (cn p0) (cn (τ 5005 (cn p0)))) / 10))) (5020 + cn p0) 4 1) (mR τ) (mB τ) (mpk τ) (mgr τ) (mcd τ)) 5005 (va_cpy (g_Cinit (u2 (u2 (u2 τ 5000 0 0) 5000 5 ((τ 5000 5) + ((f_Bamount (u2 τ 5000 0 0) (cn p0) (cn (τ 5005 (cn p0)))) / 10))) (5020 + cn p0) 4 1) (mR τ) (mB τ) (mpk τ) (mgr τ) (mcd τ) 9001) ((u2 (u2 (u2 τ 5000 0 0) 5000 5 ((τ 5000 5) + ((f_Bamount (u2 τ 5000 0 0) (cn p0) (cn (τ 5005 (cn p0)))) / 10))) (5020 + cn p0) 4 1) 5005) 0 0 6)) 20000 (mB τ)) = .inr r)) (hk : ∀ τ σ (p0 : Int32), LI τ σ → LI (g_Mfail τ p0 (mR τ) (mB τ) (mpk τ) (mgr τ) (mcd τ) (mwy τ) (msp τ)) (g_fail σ p0 (aR σ) (aB σ) (asp σ))) : IF_fail l LI := by
  intro z τ σ p0 h9
  have j := (hp τ σ h9).1
  have r := (hp τ σ h9).2
  refine ⟨(o_fail σ p0 (aR σ) (aB σ) (asp σ)), (g_fail σ p0 (aR σ) (aB σ) (asp σ)), (f_Mfail τ p0 (mR τ) (mB τ) (mpk τ) (mgr τ) (mcd τ) (mwy τ) (msp τ)), z, (g_Mfail τ p0 (mR τ) (mB τ) (mpk τ) (mgr τ) (mcd τ) (mwy τ) (msp τ)), fun h hh => ct_X7_fail hl j.hR.1 j.hR.2 j.hB.1 j.hB.2 (sp := asp σ) j.hsp j.hcd, fun E e => ?_, fun h hh => ct_X14_fail hl hh.bs (fun r h1 _ => hh.no h1) r.me r.hR.1 r.hR.2 r.hB.1 r.hB.2 (pk := mpk τ) r.hpk (gr := mgr τ) r.hgr (cd := mcd τ) r.hcd (x_hpi τ σ p0 h9) (x_hterm τ σ p0 h9) r.hwy.1 r.hwy.2 r.htn (sp := msp τ) r.hsp r.hkp, hk τ σ p0 h9⟩
  unfold o_fail at e
  (repeat' split at e) <;> first | (cases e; done) | (rw [← Sum.inr.inj e]; done) | (rw [← Sum.inr.inj e]; first | exact rfl | exact .inl rfl | exact .inr rfl | exact .inr (.inl rfl) | exact .inr (.inr rfl))
theorem if_wouldPay {l : Launch} (hl : l.stackTraces = false) {LI : XS9 → XS9 → Prop} (hp : ∀ τ σ, LI τ σ → JC σ ∧ JR τ) (x_hpi : ∀ τ σ (p0 p1 : Int32), LI τ σ → (∀ j, j < (mB τ) → g_Cinit (u2 τ 5000 0 0) (mR τ) (mB τ) (mpk τ) (mgr τ) (mcd τ) 9001 j = -1 ∨ ∃ n9, n9 < (mpk τ) j ∧ g_Cinit (u2 τ 5000 0 0) (mR τ) (mB τ) (mpk τ) (mgr τ) (mcd τ) 9001 j = nI n9)) (x_hterm : ∀ τ σ (p0 p1 : Int32), LI τ σ → (∃ r, xitR (p2_step 20000 (mB τ)) 20000000 0 (g_Cpay20 (g_Cinit (u2 τ 5000 0 0) (mR τ) (mB τ) (mpk τ) (mgr τ) (mcd τ)) 20000 (mB τ)) = .inr r)) (hk : ∀ τ σ (p0 p1 : Int32), LI τ σ → LI (g_MwouldPay τ p0 p1 (mR τ) (mB τ) (mpk τ) (mgr τ) (mcd τ)) σ) : IF_wouldPay l LI := by
  intro z τ σ p0 p1 h9
  have j := (hp τ σ h9).1
  have r := (hp τ σ h9).2
  refine ⟨(o_wouldPay σ p0 p1 (aB σ)), σ, (f_MwouldPay τ p0 p1 (mR τ) (mB τ) (mpk τ) (mgr τ) (mcd τ)), z, (g_MwouldPay τ p0 p1 (mR τ) (mB τ) (mpk τ) (mgr τ) (mcd τ)), fun h hh => ct_X7_wouldPay hl j.hB.1 j.hB.2, fun E e => ?_, fun h hh => ct_X14_wouldPay hl hh.bs (fun r h1 _ => hh.no h1) r.me r.hR.1 r.hR.2 r.hB.1 r.hB.2 (pk := mpk τ) r.hpk (gr := mgr τ) r.hgr (cd := mcd τ) r.hcd (x_hpi τ σ p0 p1 h9) (x_hterm τ σ p0 p1 h9), hk τ σ p0 p1 h9⟩
  unfold o_wouldPay at e
  (repeat' split at e) <;> first | (cases e; done) | (rw [← Sum.inr.inj e]; done) | (rw [← Sum.inr.inj e]; first | exact rfl | exact .inl rfl | exact .inr rfl | exact .inr (.inl rfl) | exact .inr (.inr rfl))
theorem if_objects {l : Launch} (hl : l.stackTraces = false) {LI : XS9 → XS9 → Prop} (hp : ∀ τ σ, LI τ σ → JC σ ∧ JR τ) (x_hpi : ∀ τ σ (p0 p1 : Int32), LI τ σ → (∀ j, j < (mB τ) → g_Cinit (u2 τ 5000 0 0) (mR τ) (mB τ) (mpk τ) (mgr τ) (mcd τ) 9001 j = -1 ∨ ∃ n9, n9 < (mpk τ) j ∧ g_Cinit (u2 τ 5000 0 0) (mR τ) (mB τ) (mpk τ) (mgr τ) (mcd τ) 9001 j = nI n9)) (x_hterm : ∀ τ σ (p0 p1 : Int32), LI τ σ → (∃ r, xitR (p2_step 20000 (mB τ)) 20000000 0 (g_Cpay20 (g_Cinit (u2 τ 5000 0 0) (mR τ) (mB τ) (mpk τ) (mgr τ) (mcd τ)) 20000 (mB τ)) = .inr r)) (hk : ∀ τ σ (p0 p1 : Int32), LI τ σ → LI (g_Mobjects τ p0 p1 (mR τ) (mB τ) (mpk τ) (mgr τ) (mcd τ)) σ) : IF_objects l LI := by
  intro z τ σ p0 p1 h9
  have j := (hp τ σ h9).1
  have r := (hp τ σ h9).2
  refine ⟨(o_objects σ p0 p1 (aB σ)), σ, (f_Mobjects τ p0 p1 (mR τ) (mB τ) (mpk τ) (mgr τ) (mcd τ)), z, (g_Mobjects τ p0 p1 (mR τ) (mB τ) (mpk τ) (mgr τ) (mcd τ)), fun h hh => ct_X7_objects hl j.hB.1 j.hB.2, fun E e => ?_, fun h hh => ct_X14_objects hl hh.bs (fun r h1 _ => hh.no h1) r.me r.hR.1 r.hR.2 r.hB.1 r.hB.2 (pk := mpk τ) r.hpk (gr := mgr τ) r.hgr (cd := mcd τ) r.hcd (x_hpi τ σ p0 p1 h9) (x_hterm τ σ p0 p1 h9), hk τ σ p0 p1 h9⟩
  unfold o_objects at e
  (repeat' split at e) <;> first | (cases e; done) | (rw [← Sum.inr.inj e]; done) | (rw [← Sum.inr.inj e]; first | exact rfl | exact .inl rfl | exact .inr rfl | exact .inr (.inl rfl) | exact .inr (.inr rfl))
theorem if_most {l : Launch} (hl : l.stackTraces = false) {LI : XS9 → XS9 → Prop} (hp : ∀ τ σ, LI τ σ → JC σ ∧ JR τ) (x_hm0 : ∀ τ σ (p0 p1 : Int32), LI τ σ → (n_lt p0 (mB τ) → n_lt p1 (mR τ) → τ 5000 1 = 1 → ¬ f_McanWish (u2 τ 5000 0 0) (cn p0) (cn p1) (nI 0) (mR τ) (mB τ) (mg τ) = 0)) (hk : ∀ τ σ (p0 p1 : Int32), LI τ σ → LI (g_Mmost τ p0 p1 (mR τ) (mB τ) (mg τ)) σ) : IF_most l LI := by
  intro z τ σ p0 p1 h9
  have j := (hp τ σ h9).1
  have r := (hp τ σ h9).2
  refine ⟨(o_most σ p0 p1 (aR σ) (aB σ)), σ, (f_Mmost τ p0 p1 (mR τ) (mB τ) (mg τ)), z, (g_Mmost τ p0 p1 (mR τ) (mB τ) (mg τ)), fun h hh => ct_X7_most hl j.hR.1 j.hR.2 j.hB.1 j.hB.2, fun E e => ?_, fun h hh => ct_X14_most hl hh.bs r.hR.1 r.hR.2 r.hB.1 r.hB.2 r.hst r.hg.1 r.hg.2 r.hw.1 r.hw.2 (x_hm0 τ σ p0 p1 h9), hk τ σ p0 p1 h9⟩
  unfold o_most at e
  (repeat' split at e) <;> first | (cases e; done) | (rw [← Sum.inr.inj e]; done) | (rw [← Sum.inr.inj e]; first | exact rfl | exact .inl rfl | exact .inr rfl | exact .inr (.inl rfl) | exact .inr (.inr rfl))
end
section
/-! ===== pure facts: codes on the reference's side ===== -/
theorem power_eq {r : Nat} (hr : r < 5) : f_power r = nI (6 ^ r) := by
  match r, hr with
  | 0, _ => rfl
  | 1, _ => rfl
  | 2, _ => rfl
  | 3, _ => rfl
  | 4, _ => rfl
theorem pow6r {r : Nat} (hr : r < 5) : 0 < 6 ^ r ∧ 6 ^ r ≤ 1296 := by
  match r, hr with
  | 0, _ => exact ⟨by decide, by decide⟩
  | 1, _ => exact ⟨by decide, by decide⟩
  | 2, _ => exact ⟨by decide, by decide⟩
  | 3, _ => exact ⟨by decide, by decide⟩
  | 4, _ => exact ⟨by decide, by decide⟩
theorem of_eq {n r : Nat} (hn : n ≤ 7775) (hr : r < 5) : f_of (nI n) r = nI (n / 6 ^ r % 6) := by
  obtain ⟨h0, h1⟩ := pow6r hr
  have h2 : n / 6 ^ r ≤ n := Nat.div_le_self _ _
  unfold f_of
  rw [power_eq hr, nI_div (by omega) h0 (by omega), mod6x (by omega)]
theorem bd.ofd {c : Int32} (h : bd 7775 c) {r : Nat} (hr : r < 5) : bd 5 (f_of c r) := by
  rw [h.1, of_eq h.2 hr]
  exact bd.nat (by omega) (by decide)
theorem bd.withd {c m : Int32} (h : bd 7775 c) {r : Nat} (hr : r < 5) (hm : bd 5 m) : bd 7775 (f_with c r m) := by
  unfold f_with
  have h2 := h.2
  have m2 := hm.2
  rw [h.1, of_eq h2 hr, hm.1, power_eq hr]
  generalize cn c = n at h2
  generalize cn m = k at m2
  match r, hr with
  | 0, _ =>
    rw [rep_eq (by show n / 1 % 6 * 1 ≤ n; omega)]
    exact bd.nat (by show n - n / 1 % 6 * 1 + k * 1 ≤ 7775; omega) (by decide)
  | 1, _ =>
    rw [rep_eq (by show n / 6 % 6 * 6 ≤ n; omega)]
    exact bd.nat (by show n - n / 6 % 6 * 6 + k * 6 ≤ 7775; omega) (by decide)
  | 2, _ =>
    rw [rep_eq (by show n / 36 % 6 * 36 ≤ n; omega)]
    exact bd.nat (by show n - n / 36 % 6 * 36 + k * 36 ≤ 7775; omega) (by decide)
  | 3, _ =>
    rw [rep_eq (by show n / 216 % 6 * 216 ≤ n; omega)]
    exact bd.nat (by show n - n / 216 % 6 * 216 + k * 216 ≤ 7775; omega) (by decide)
  | 4, _ =>
    rw [rep_eq (by show n / 1296 % 6 * 1296 ≤ n; omega)]
    exact bd.nat (by show n - n / 1296 % 6 * 1296 + k * 1296 ≤ 7775; omega) (by decide)
theorem bd.toI {m : Nat} {v : Int32} (h : bd m v) (hm : m < 2147483648) : 0 ≤ v.toInt := by
  have := Int32.le_iff_toInt_le.mp (h.ge0 hm)
  simpa using this
/-- the codes of a block of the clock: held, and wished in the generation g -/
def KW (b g : Nat) (s : XS9) : Prop := (∀ i, i < 6 → bd 7775 (s (b + 2) i)) ∧ ∀ i, i < 6 → bd 7775 (s (b + 500 + g) i)
theorem KW.clo2 {σ : XS9} {b R B g w n : Nat} (h : KW b g σ) (hB6 : B ≤ 6) (hg : g < 200) : KW b g (x_Kclose_2 σ b R B g w n σ) := by
  unfold x_Kclose_2
  refine xit_inv (KW b g) (N := B) (fun i s hi hP => ?_) B 0 _ (Nat.zero_add _) h
  (try dsimp only)
  split
  · exact hP
  · split
    · exact hP
    · refine ⟨fun k hk => ?_, fun k hk => ?_⟩
      · rw [u2_ne (by omega), u2_ne (by omega)]
        exact hP.1 k hk
      · rw [u2_ne (by omega)]
        by_cases e : k = i
        · rw [e, u2_at]
          exact h.1 i (by omega)
        · rw [u2_oi e]
          exact hP.2 k hk
theorem KW.hw0 {σ : XS9} {b R B g w n : Nat} (h : KW b g σ) (hR5 : R ≤ 5) (hB6 : B ≤ 6) (hg : g < 200) : ∀ i r, i < B → r < R → 0 ≤ (f_of (x_Kclose_2 σ b R B g w n σ (b + 500 + g) i) r).toInt := fun i r hi hr =>
  (((h.clo2 (R := R) (w := w) (n := n) hB6 hg).2 i (by omega)).ofd (by omega)).toI (by decide)
/-- one may always wish nothing more than one wishes -/
theorem KW.hm0 {τ : XS9} {i r R B g : Nat} (h : KW 7000 g τ) (hi : i < 6) (hr : r < 5) : ¬ f_McanWish (u2 τ 5000 0 0) i r (nI 0) R B g = 0 := by
  have e : bd 5 (f_of (u2 τ 5000 0 0 (7000 + 500 + g) i) r) := by
    rw [u2_ne (by omega)]
    exact (h.2 i hi).ofd hr
  have ne : ¬ f_of (u2 τ 5000 0 0 (7000 + 500 + g) i) r < nI 0 := fun q => absurd q (Int32.not_lt.mpr (e.ge0 (by decide)))
  unfold f_McanWish
  rw [if_neg ne]
  decide
end
section
/-! ===== pure facts: the reference's clock while it runs, and its log ===== -/
def zo (v : Int32) : Prop := v = 0 ∨ v = 1
def JS (τ : XS9) : Prop := (τ 5000 1 = 1 → KW 7000 (mg τ) τ ∧ (∀ j, j < 6 → zo (τ (7000 + 700 + mw τ) j)) ∧ mg τ = mn τ ∧ mw τ = mn τ ∧ mK τ = mn τ ∧ mn τ < 60) ∧ ((τ 5000 1 = 0 ∨ τ 5000 1 = 1) → ∀ j, j < 6 → mpk τ j = 0) ∧ ∀ i j, i < mK τ → j < 6 → zo (τ (6300 + i) j) ∧ bd 7775 (τ (6100 + i) j)
/-- the places that JS speaks of -/
def ks (q i : Nat) : Prop := (q = 5000 ∧ i = 1) ∨ (q = 5003 ∧ i = 900) ∨ (5030 ≤ q ∧ q ≤ 5035 ∧ i = 900) ∨ (q = 7000 ∧ 21 ≤ i ∧ i ≤ 24) ∨ q = 7002 ∨ (7500 ≤ q ∧ q ≤ 7999) ∨ (6100 ≤ q ∧ q < 6400)
theorem JS.of {τ τ2 : XS9} (h : JS τ) (h60 : mK τ ≤ 60) (hgw : mg τ < 200 ∧ mw τ < 200) (e : ∀ q i, ks q i → τ2 q i = τ q i) : JS τ2 := by
  have e1 : τ2 5000 1 = τ 5000 1 := e _ _ (by unfold ks; omega)
  have eK : mK τ2 = mK τ := congrArg cn (e 5003 900 (by unfold ks; omega))
  have en : mn τ2 = mn τ := congrArg cn (e 7000 21 (by unfold ks; omega))
  have eg : mg τ2 = mg τ := congrArg cn (e 7000 23 (by unfold ks; omega))
  have ew : mw τ2 = mw τ := congrArg cn (e 7000 24 (by unfold ks; omega))
  refine ⟨fun hs => ?_, fun hs j hj => ?_, fun i j hi hj => ?_⟩
  · rw [e1] at hs
    obtain ⟨a, b, c, d, f, g⟩ := h.1 hs
    rw [eg, ew, en, eK]
    refine ⟨⟨fun i hi => ?_, fun i hi => ?_⟩, fun j hj => ?_, c, d, f, g⟩
    · rw [e _ _ (by unfold ks; omega)]
      exact a.1 i hi
    · rw [e _ _ (by unfold ks; omega)]
      exact a.2 i hi
    · rw [e _ _ (by unfold ks; omega)]
      exact b j hj
  · rw [e1] at hs
    have := h.2.1 hs j hj
    show cn (τ2 (5030 + j) 900) / 2 = 0
    rw [e _ _ (by unfold ks; omega)]
    exact this
  · rw [eK] at hi
    rw [e _ _ (by unfold ks; omega), e _ _ (by unfold ks; omega)]
    exact h.2.2 i j hi hj
theorem JS.set {τ : XS9} (h : JS τ) (h60 : mK τ ≤ 60) (hgw : mg τ < 200 ∧ mw τ < 200) {q i : Nat} {x : Int32} (hq : ¬ ks q i) : JS (u2 τ q i x) := h.of h60 hgw fun q9 i9 hk => u2_o (fun a b => hq (by rw [← a, ← b]; exact hk))
theorem ks50 {i : Nat} (hi : i ≠ 1) : ¬ ks 5000 i := fun k => by unfold ks at k; omega
section
variable {τ : XS9} {R B C K g w : Nat}
theorem JS.s0 (h : JS τ) (r : JR τ) {x : Int32} : JS (u2 τ 5000 0 x) := h.set r.hK.2 ⟨r.hg.2, r.hw.2⟩ (ks50 (by decide))
theorem JS.s00 (h : JS τ) (r : JR τ) {x : Int32} : JS (u2 (u2 τ 5000 0 0) 5000 0 x) := (h.s0 r).s0 r.s0
theorem JS.wish {x y v : Int32} (h : JS τ) (r : JR τ) : JS (g_Mwish τ x y v (mR τ) (mB τ) (mg τ)) := by
  have hg2 := r.hg.2
  unfold g_Mwish
  split
  · rename_i hx
    have hx6 : cn x < 6 := by have := hx.2; have := r.hB.2; omega
    split
    · rename_i hy
      have hy5 : cn y < 5 := by have := hy.2; have := r.hR.2; omega
      split
      · rename_i hv
        split
        · rename_i hs
          split
          · exact h.s00 r
          · obtain ⟨a, b, c, d, f, g9⟩ := h.1 hs
            have e : ∀ q, q ≠ 7000 + 500 + mg τ → u2 (u2 τ 5000 0 0) (7000 + 500 + mg τ) (cn x) (f_with (τ (7000 + 500 + mg τ) (cn x)) (cn y) v) q = u2 τ 5000 0 0 q := fun q hq => u2_ne hq
            have s9 := h.s0 r (x := 0)
            refine ⟨fun _ => ?_, fun hs9 j hj => ?_, fun i j hi hj => ?_⟩
            · refine ⟨⟨fun i hi => ?_, fun i hi => ?_⟩, fun j hj => ?_, ?_⟩
              · show bd 7775 (u2 (u2 τ 5000 0 0) (7000 + 500 + mg τ) (cn x) _ (7000 + 2) i)
                rw [u2_ne (by omega), u2_ne (by omega)]
                exact a.1 i hi
              · have eg : mg (u2 (u2 τ 5000 0 0) (7000 + 500 + mg τ) (cn x) (f_with (τ (7000 + 500 + mg τ) (cn x)) (cn y) v)) = mg τ := congrArg cn (by rw [u2_ne (by omega), u2_ne (by omega)])
                rw [eg]
                by_cases e1 : i = cn x
                · rw [e1, u2_at]
                  exact (a.2 (cn x) hx6).withd hy5 (bd.bt hv (by decide) rfl (by decide))
                · rw [u2_oi e1, u2_ne (by omega)]
                  exact a.2 i hi
              · have ew : mw (u2 (u2 τ 5000 0 0) (7000 + 500 + mg τ) (cn x) (f_with (τ (7000 + 500 + mg τ) (cn x)) (cn y) v)) = mw τ := congrArg cn (by rw [u2_ne (by omega), u2_ne (by omega)])
                rw [ew, u2_ne (by omega), u2_ne (by omega)]
                exact b j hj
              · have k : ∀ q, q ≤ 7000 → q ≠ 5000 → u2 (u2 τ 5000 0 0) (7000 + 500 + mg τ) (cn x) (f_with (τ (7000 + 500 + mg τ) (cn x)) (cn y) v) q = τ q := fun q h1 h2 => by rw [u2_ne (by omega), u2_ne h2]
                unfold mg mw mK mn
                rw [k 7000 (by omega) (by omega), k 5003 (by omega) (by omega)]
                exact ⟨c, d, f, g9⟩
            · show cn (u2 (u2 τ 5000 0 0) (7000 + 500 + mg τ) (cn x) _ (5030 + j) 900) / 2 = 0
              rw [u2_ne (by omega), u2_ne (by omega)]
              exact h.2.1 (.inr hs) j hj
            · have eK : mK (u2 (u2 τ 5000 0 0) (7000 + 500 + mg τ) (cn x) (f_with (τ (7000 + 500 + mg τ) (cn x)) (cn y) v)) = mK τ := congrArg cn (by rw [u2_ne (by omega), u2_ne (by omega)])
              rw [eK] at hi
              have := r.hK.2
              rw [u2_ne (by omega), u2_ne (by omega), u2_ne (by omega), u2_ne (by omega)]
              exact h.2.2 i j hi hj
        · exact h.s00 r
      · exact h.s00 r
    · exact h.s00 r
  · exact h.s00 r
end
end
section
/-! ===== pure facts: the reference's clock through the small methods ===== -/
section
variable {τ : XS9} {R B C K g w : Nat} {pk gr tn sp rg : Nat → Nat} {cd : Nat → Nat → Nat}
theorem JS.hi {τ2 : XS9} (h : JS τ) (r : JR τ) (e : ∀ q, q < 8000 → τ2 q = τ q) : JS τ2 := h.of r.hK.2 ⟨r.hg.2, r.hw.2⟩ fun q i hk => by rw [e q (by unfold ks at hk; omega)]
theorem JS.put {q i : Nat} {x : Int32} (h : JS τ) (r : JR τ) (hq : ¬ ks q i) : JS (u2 τ q i x) := h.set r.hK.2 ⟨r.hg.2, r.hw.2⟩ hq
theorem JS.border {x y : Int32} (h : JS τ) (r : JR τ) (hR5 : R ≤ 5) : JS (g_Mborder τ x y R) := by
  have k1 : ∀ c, c < R → ¬ ks (5010 + c) 3 := fun c hc k => by unfold ks at k; omega
  have k2 : ∀ c, c < R → ¬ kr (5010 + c) 3 := fun c hc k => by unfold kr at k; omega
  unfold g_Mborder
  split
  · rename_i hx
    split
    · rename_i hy
      split
      · exact h.s00 r
      · split
        · exact ((h.s0 r).put r.s0 (k1 _ hx.2)).put (r.s0.set (k2 _ hx.2) (.inl (by decide))) (k1 _ hy.2)
        · exact h.s00 r
    · exact h.s00 r
  · exact h.s00 r
theorem JS.rules {x y : Int32} (h : JS τ) (r : JR τ) : JS (g_Mrules τ x y) := by
  unfold g_Mrules
  split
  · split
    · exact ((h.s0 r).put r.s0 (ks50 (by decide))).put (r.s0.set (kr50 (by decide)) (.inl (by decide))) (ks50 (by decide))
    · exact h.s00 r
  · exact h.s00 r
theorem JS.step {x : Int32} (h : JS τ) (r : JR τ) : JS (g_Mstep τ x) := by
  unfold g_Mstep
  split
  · split
    · exact (h.s0 r).put r.s0 (ks50 (by decide))
    · exact h.s00 r
  · exact h.s00 r
theorem JS.knock (h : JS τ) (r : JR τ) : JS (g_Mknock τ) := (h.s0 r).put r.s0 (ks50 (by decide))
theorem JS.rest {τ2 : XS9} (h : JS τ) (r : JR τ) (e : ∀ q i, ks q i → τ2 q i = τ q i) : JS τ2 := h.of r.hK.2 ⟨r.hg.2, r.hw.2⟩ e
theorem JS.station {x y : Int32} (h : JS τ) (r : JR τ) : JS (g_Mstation τ x y R C) := by
  unfold g_Mstation
  split
  · split
    · split
      · exact h.s00 r
      · unfold g_addI
        exact (h.s0 r).rest r.s0 fun q i hk => by rw [u2_ne (by unfold ks at hk; omega), u2_ne (by unfold ks at hk; omega), u2_ne (by unfold ks at hk; omega), u2_ne (by unfold ks at hk; omega)]
    · exact h.s00 r
  · exact h.s00 r
theorem JS.ask {x y : Int32} (h : JS τ) (r : JR τ) : JS (g_Mask τ x y C) := by
  unfold g_Mask
  split
  · split
    · unfold g_setS
      exact (h.s0 r).rest r.s0 fun q i hk => by rw [u2_ne (by unfold ks at hk; omega), u2_ne (by unfold ks at hk; omega)]
    · exact h.s00 r
  · exact h.s00 r
theorem JS.region {x y v : Int32} (h : JS τ) (r : JR τ) (hR5 : R ≤ 5) : JS (g_Mregion τ x y v R) := by
  unfold g_Mregion
  split
  · split
    · split
      · split
        · split
          · exact h.s00 r
          · exact (h.s0 r).rest r.s0 fun q i hk => by rw [u2_ne (by unfold ks at hk; omega), uR_ne (by unfold ks at hk; omega)]
        · exact h.s00 r
      · exact h.s00 r
    · exact h.s00 r
  · exact h.s00 r
theorem JS.offer {x y v : Int32} (h : JS τ) (r : JR τ) (hB6 : B ≤ 6) : JS (g_Moffer τ x y v R B pk) := by
  unfold g_Moffer
  split
  · rename_i hx
    have hx2 := hx.2
    split
    · exact h.s00 r
    · split
      · exact h.s00 r
      · split
        · split
          · rename_i hs2
            split
            · exact h.s00 r
            · split
              · exact h.s00 r
              · split
                · exact h.s00 r
                · split
                  · exact h.s00 r
                  · split
                    · unfold g_Madd g_addI
                      have e : ∀ q, q ≠ 5030 + cn x → u2 (u2 (u2 (u2 (u2 τ 5000 0 0) (5030 + cn x) (2 * pk (cn x)) y) (5030 + cn x) 900 (nI (2 * pk (cn x) + 1))) (5030 + cn x) (2 * pk (cn x) + 1) v) (5030 + cn x) 900 (nI (2 * pk (cn x) + 1 + 1)) q = u2 τ 5000 0 0 q := fun q hq => by rw [u2_ne hq, u2_ne hq, u2_ne hq, u2_ne hq]
                      generalize u2 (u2 (u2 (u2 (u2 τ 5000 0 0) (5030 + cn x) (2 * pk (cn x)) y) (5030 + cn x) 900 (nI (2 * pk (cn x) + 1))) (5030 + cn x) (2 * pk (cn x) + 1) v) (5030 + cn x) 900 (nI (2 * pk (cn x) + 1 + 1)) = t at e
                      have s1 : t 5000 1 = 2 := by rw [e _ (by omega), u2_oi (by decide)]; exact hs2
                      refine ⟨fun hs => ?_, fun hs => ?_, fun i j hi hj => ?_⟩
                      · rw [s1] at hs
                        exact absurd hs (by decide)
                      · rw [s1] at hs
                        exact absurd hs (by decide)
                      · have eK : mK t = mK τ := congrArg cn (by rw [e _ (by omega), u2_ne (by omega)])
                        rw [eK] at hi
                        have := r.hK.2
                        rw [e _ (by omega), e _ (by omega), u2_ne (by omega), u2_ne (by omega)]
                        exact h.2.2 i j hi hj
                    · exact h.s00 r
          · exact h.s00 r
        · exact h.s00 r
  · exact h.s00 r
theorem JS.init : JS s0M := by
  refine ⟨fun hs => absurd hs (by decide), fun _ j hj => ?_, fun i j hi hj => absurd hi (Nat.not_lt_zero i)⟩
  show cn (s0M (5030 + j) 900) / 2 = 0
  unfold s0M
  rw [if_neg (by omega)]
  rfl
theorem JA.init : JA s0M := by
  have z : ∀ q i, q ≠ 5000 → s0M q i = 0 := fun q i hq => by unfold s0M; rw [if_neg hq]
  refine ⟨by rw [z _ _ (by decide)]; exact bd.zero, by rw [z _ _ (by decide)]; exact bd.zero, by rw [z _ _ (by decide)]; exact bd.zero, fun _ => ⟨z _ _ (by decide), z _ _ (by decide)⟩, .inl (z _ _ (by decide)), fun hs => absurd hs (by decide), fun b hb => ?_, by rw [z _ _ (by decide), z _ _ (by decide)], fun j hj => ?_, fun j hj => ?_, fun j k hj hk => ?_, by rw [z _ _ (by decide)]; exact ev.zero, fun q hq => ?_, fun q hq => ?_, fun q hq => ?_, fun hs => absurd hs (by decide), ⟨by decide, by decide⟩⟩
  · rw [z _ _ (by omega), z _ _ (by omega), z _ _ (by omega), z _ _ (by omega)]
    exact ⟨bd.zero, bd.zero, bd.zero, bd.zero⟩
  · rw [z _ _ (by omega)]; exact ev.zero
  · rw [z _ _ (by omega)]; exact bd.zero
  · rw [z _ _ (by omega)]; exact bd.zero
  · rw [z _ _ (by omega)] at hq
    exact absurd hq (Nat.not_lt_zero q)
  · rw [z _ _ (by omega)]; exact bd.zero
  · rw [z _ _ (by omega)]; exact bd.zero
theorem JR.init : JR s0M := ⟨JA.init, ⟨⟨rfl, rfl⟩, fun q a b => by unfold s0M; rw [if_neg (by omega)]⟩⟩
theorem R2.init : R2 s0M s0C := ⟨by decide, by decide, by decide⟩
end
end
section
/-! ===== pure facts: bidder, waive, the clock's beginning ===== -/
section
variable {τ : XS9} {R B : Nat}
theorem JS.bidder {x y v u : Int32} (h : JS τ) (r : JR τ) (hB6 : B ≤ 6) : JS (g_Mbidder τ x y v u B) := by
  unfold g_Mbidder
  split
  · split
    · split
      · split
        · split
          · rename_i hs0
            split
            · exact h.s00 r
            · have e : ∀ q, q ≠ 5002 → q ≠ 5020 + B → q ≠ 5030 + B → u2 (u2 (uR (u2 τ 5000 0 0) (5020 + B) (fun k => match k with | 0 => x | 1 => y | 2 => v | 3 => u | _ => 0)) (5030 + B) 900 0) 5002 900 (nI (B + 1)) q = u2 τ 5000 0 0 q := fun q a b c => by rw [u2_ne a, u2_ne c, uR_ne b]
              have ep : ∀ j, j ≠ B → u2 (u2 (uR (u2 τ 5000 0 0) (5020 + B) (fun k => match k with | 0 => x | 1 => y | 2 => v | 3 => u | _ => 0)) (5030 + B) 900 0) 5002 900 (nI (B + 1)) (5030 + j) 900 = τ (5030 + j) 900 := fun j hj => by rw [u2_ne (by omega), u2_ne (by omega), uR_ne (by omega), u2_ne (by omega)]
              have ep0 : u2 (u2 (uR (u2 τ 5000 0 0) (5020 + B) (fun k => match k with | 0 => x | 1 => y | 2 => v | 3 => u | _ => 0)) (5030 + B) 900 0) 5002 900 (nI (B + 1)) (5030 + B) 900 = 0 := by rw [u2_ne (by omega), u2_at]
              generalize u2 (u2 (uR (u2 τ 5000 0 0) (5020 + B) (fun k => match k with | 0 => x | 1 => y | 2 => v | 3 => u | _ => 0)) (5030 + B) 900 0) 5002 900 (nI (B + 1)) = t at e ep ep0
              have s1 : t 5000 1 = 0 := by rw [e _ (by omega) (by omega) (by omega), u2_oi (by decide)]; exact hs0
              refine ⟨fun hs => ?_, fun hs j hj => ?_, fun i j hi hj => ?_⟩
              · rw [s1] at hs
                exact absurd hs (by decide)
              · show cn (t (5030 + j) 900) / 2 = 0
                by_cases ej : j = B
                · rw [ej, ep0]
                  rfl
                · rw [ep j ej]
                  exact h.2.1 (.inl hs0) j hj
              · have eK : mK t = mK τ := congrArg cn (by rw [e _ (by omega) (by omega) (by omega), u2_ne (by omega)])
                rw [eK] at hi
                have := r.hK.2
                rw [e _ (by omega) (by omega) (by omega), e _ (by omega) (by omega) (by omega), u2_ne (by omega), u2_ne (by omega)]
                exact h.2.2 i j hi hj
          · exact h.s00 r
        · exact h.s00 r
      · exact h.s00 r
    · exact h.s00 r
  · exact h.s00 r
theorem JS.waive {x : Int32} (h : JS τ) (r : JR τ) : JS (g_Mwaive τ x (mB τ) (mg τ) (mw τ)) := by
  have hg2 := r.hg.2
  have hw2 := r.hw.2
  unfold g_Mwaive
  split
  · split
    · rename_i hs
      split
      · exact h.s00 r
      · split
        · obtain ⟨a, b, c, d, f, g9⟩ := h.1 hs
          have e : ∀ q, q ≠ 5000 → q ≠ 7004 → q ≠ 7000 + 700 + mw τ → u2 (u2 (u2 τ 5000 0 0) (7000 + 4) (cn x) ((τ (7000 + 4) (cn x)) - 1)) (7000 + 700 + mw τ) (cn x) 1 q = τ q := fun q h1 h2 h3 => by rw [u2_ne h3, u2_ne (by omega), u2_ne h1]
          have ew7 : ∀ j, u2 (u2 (u2 τ 5000 0 0) (7000 + 4) (cn x) ((τ (7000 + 4) (cn x)) - 1)) (7000 + 700 + mw τ) (cn x) 1 (7000 + 700 + mw τ) j = 1 ∨ u2 (u2 (u2 τ 5000 0 0) (7000 + 4) (cn x) ((τ (7000 + 4) (cn x)) - 1)) (7000 + 700 + mw τ) (cn x) 1 (7000 + 700 + mw τ) j = τ (7000 + 700 + mw τ) j := fun j => by
            by_cases ej : j = cn x
            · left
              rw [ej, u2_at]
            · right
              rw [u2_oi ej, u2_ne (by omega), u2_ne (by omega)]
          have s1 : u2 (u2 (u2 τ 5000 0 0) (7000 + 4) (cn x) ((τ (7000 + 4) (cn x)) - 1)) (7000 + 700 + mw τ) (cn x) 1 5000 1 = τ 5000 1 := by rw [u2_ne (by omega), u2_ne (by omega), u2_oi (by decide)]
          generalize u2 (u2 (u2 τ 5000 0 0) (7000 + 4) (cn x) ((τ (7000 + 4) (cn x)) - 1)) (7000 + 700 + mw τ) (cn x) 1 = t at e ew7 s1
          have eg : mg t = mg τ := congrArg cn (by rw [e _ (by omega) (by omega) (by omega)])
          have ew : mw t = mw τ := congrArg cn (by rw [e _ (by omega) (by omega) (by omega)])
          have en : mn t = mn τ := congrArg cn (by rw [e _ (by omega) (by omega) (by omega)])
          have eK : mK t = mK τ := congrArg cn (by rw [e _ (by omega) (by omega) (by omega)])
          refine ⟨fun _ => ?_, fun hs9 j hj => ?_, fun i j hi hj => ?_⟩
          · rw [eg, ew, en, eK]
            refine ⟨⟨fun i hi => ?_, fun i hi => ?_⟩, fun j hj => ?_, c, d, f, g9⟩
            · rw [e _ (by omega) (by omega) (by omega)]
              exact a.1 i hi
            · rw [e _ (by omega) (by omega) (by omega)]
              exact a.2 i hi
            · rcases ew7 j with q | q
              · exact .inr q
              · unfold zo
                rw [q]
                exact b j hj
          · rw [s1] at hs9
            show cn (t (5030 + j) 900) / 2 = 0
            rw [e _ (by omega) (by omega) (by omega)]
            exact h.2.1 hs9 j hj
          · rw [eK] at hi
            have := r.hK.2
            rw [e _ (by omega) (by omega) (by omega), e _ (by omega) (by omega) (by omega)]
            exact h.2.2 i j hi hj
        · exact h.s00 r
    · exact h.s00 r
  · exact h.s00 r
end
end
