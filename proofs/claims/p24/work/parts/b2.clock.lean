/-! ===== pure facts: the class's clock ===== -/
theorem many_eq {n r : Nat} (hn : n ≤ 7775) (hr : r < 5) : f_many (nI n) r = nI (n / 6 ^ r % 6) := by
  have d : ∀ a, a ≤ 7775 → nI a / 6 = nI (a / 6) := fun a ha => div6 (by omega)
  have e : ∀ a, a ≤ 7775 → nI a - nI a / 6 * 6 = nI (a % 6) := fun a ha => mod6x (by omega)
  match r, hr with
  | 0, _ =>
    show nI n - nI n / 6 * 6 = _
    rw [e n hn, Nat.pow_zero, Nat.div_one]
  | 1, _ =>
    show nI n / 6 - nI n / 6 / 6 * 6 = _
    rw [d n hn, e _ (by omega), Nat.pow_one]
  | 2, _ =>
    show nI n / 6 / 6 - nI n / 6 / 6 / 6 * 6 = _
    rw [d n hn, d _ (by omega), e _ (by omega), Nat.div_div_eq_div_mul]
  | 3, _ =>
    show nI n / 6 / 6 / 6 - nI n / 6 / 6 / 6 / 6 * 6 = _
    rw [d n hn, d _ (by omega), d _ (by omega), e _ (by omega), Nat.div_div_eq_div_mul, Nat.div_div_eq_div_mul]
  | 4, _ =>
    show nI n / 6 / 6 / 6 / 6 - nI n / 6 / 6 / 6 / 6 / 6 * 6 = _
    rw [d n hn, d _ (by omega), d _ (by omega), d _ (by omega), e _ (by omega), Nat.div_div_eq_div_mul, Nat.div_div_eq_div_mul, Nat.div_div_eq_div_mul]
theorem rep_eq {n k p d : Nat} (hd : d * p ≤ n) : nI n + (nI k - nI d) * nI p = nI (n - d * p + k * p) := by
  rw [Int32.sub_mul, nI_mul, nI_mul, ← nI_plus, ← nI_minus hd, Int32.sub_eq_add_neg, Int32.sub_eq_add_neg, Int32.add_assoc, Int32.add_comm (nI (k * p))]
theorem bd.many {c : Int32} (h : bd 7775 c) {r : Nat} (hr : r < 5) : bd 5 (f_many c r) := by
  rw [h.1, many_eq h.2 hr]
  exact bd.nat (by omega) (by decide)
theorem bd.replaced {c m : Int32} (h : bd 7775 c) {r : Nat} (hr : r < 5) (hm : bd 5 m) : bd 7775 (f_replaced c r m) := by
  unfold f_replaced
  have h2 := h.2
  have m2 := hm.2
  rw [h.1, many_eq h2 hr, hm.1]
  generalize cn c = n at h2
  generalize cn m = k at m2
  match r, hr with
  | 0, _ =>
    rw [show x_replaced_5 (nI n) 0 (nI k) 1 = nI 1 from rfl, rep_eq (by simp only [Nat.pow_zero]; omega)]
    exact bd.nat (by simp only [Nat.pow_zero]; omega) (by decide)
  | 1, _ =>
    rw [show x_replaced_5 (nI n) 1 (nI k) 1 = nI 6 from rfl, rep_eq (by simp only [Nat.pow_one]; omega)]
    exact bd.nat (by simp only [Nat.pow_one]; omega) (by decide)
  | 2, _ =>
    rw [show x_replaced_5 (nI n) 2 (nI k) 1 = nI 36 from rfl, rep_eq (by show n / 36 % 6 * 36 ≤ n; omega)]
    exact bd.nat (by show n - n / 36 % 6 * 36 + k * 36 ≤ 7775; omega) (by decide)
  | 3, _ =>
    rw [show x_replaced_5 (nI n) 3 (nI k) 1 = nI 216 from rfl, rep_eq (by show n / 216 % 6 * 216 ≤ n; omega)]
    exact bd.nat (by show n - n / 216 % 6 * 216 + k * 216 ≤ 7775; omega) (by decide)
  | 4, _ =>
    rw [show x_replaced_5 (nI n) 4 (nI k) 1 = nI 1296 from rfl, rep_eq (by show n / 1296 % 6 * 1296 ≤ n; omega)]
    exact bd.nat (by show n - n / 1296 % 6 * 1296 + k * 1296 ≤ 7775; omega) (by decide)
theorem tot_step {c a p : Int32} {m : Nat} (hc : bd 7775 c) (ha : bd m a) (hp : bd 9999 p) (hm : m ≤ 1000000) : bd 7775 (c / 6) ∧ bd (m + 49995) (a + (c - c / 6 * 6) * p) := by
  have c2 := hc.2
  have a2 := ha.2
  have p2 := hp.2
  rw [hc.1, ha.1, hp.1]
  generalize cn c = n at c2
  generalize cn a = k at a2
  generalize cn p = q at p2
  rw [mod6x (by omega), div6 (by omega), nI_mul, nI_plus]
  have h6 : n % 6 ≤ 5 := by omega
  have hmul : n % 6 * q ≤ 5 * 9999 := Nat.mul_le_mul h6 p2
  exact ⟨bd.nat (by omega) (by decide), bd.nat (by omega) (by omega)⟩
theorem bd.total {c : Int32} (h : bd 7775 c) {f : Nat → Int32} (hf : ∀ r, r < 5 → bd 9999 (f r)) : bd 249975 (f_total c 5 f) := by
  have s0 := tot_step h (bd.zero (m := 0)) (hf 0 (by decide)) (by decide)
  have s1 := tot_step s0.1 s0.2 (hf 1 (by decide)) (by decide)
  have s2 := tot_step s1.1 s1.2 (hf 2 (by decide)) (by decide)
  have s3 := tot_step s2.1 s2.2 (hf 3 (by decide)) (by decide)
  have s4 := tot_step s3.1 s3.2 (hf 4 (by decide)) (by decide)
  exact s4.2
/-- the clock's numbers: codes that are held and wished, prices now and in the log; first prices and the step -/
def KB (σ : XS9) : Prop := (∀ i, i < 6 → bd 7775 (σ 2002 i)) ∧ (∀ i, i < 6 → bd 7775 (σ 2003 i)) ∧ (∀ r, r < 5 → bd 9999 (σ 2001 r)) ∧ (∀ k r, k < 60 → r < 5 → bd 9999 (σ (2101 + k) r)) ∧ (∀ r, r < 5 → bd 999 (σ 1012 r)) ∧ bd 20 (σ 1000 8)
theorem KB.of {σ σ' : XS9} (h : KB σ) (e : ∀ q, (q = 2001 ∨ q = 2002 ∨ q = 2003 ∨ (2101 ≤ q ∧ q ≤ 2160) ∨ q = 1012) → σ' q = σ q) (e8 : σ' 1000 8 = σ 1000 8) : KB σ' := by
  obtain ⟨h1, h2, h3, h4, h5, h6⟩ := h
  refine ⟨fun i hi => ?_, fun i hi => ?_, fun i hi => ?_, fun k r hk hr => ?_, fun r hr => ?_, by rw [e8]; exact h6⟩
  · rw [e _ (by omega)]; exact h1 i hi
  · rw [e _ (by omega)]; exact h2 i hi
  · rw [e _ (by omega)]; exact h3 i hi
  · rw [e _ (by omega)]; exact h4 k r hk hr
  · rw [e _ (by omega)]; exact h5 r hr
theorem KB.rows {σ σ' : XS9} (h : KB σ) (e : ∀ q, (q = 2001 ∨ q = 2002 ∨ q = 2003 ∨ (2101 ≤ q ∧ q ≤ 2160) ∨ q = 1012 ∨ q = 1000) → σ' q = σ q) : KB σ' := h.of (fun q hq => e q (by omega)) (by rw [e _ (by omega)])
theorem KB.set {σ : XS9} (h : KB σ) {q i : Nat} {x : Int32} (hq : ¬ (q = 2001 ∨ q = 2002 ∨ q = 2003 ∨ (2101 ≤ q ∧ q ≤ 2160) ∨ q = 1012 ∨ (q = 1000 ∧ i = 8))) : KB (u2 σ q i x) := by
  refine h.of (fun q9 h9 => u2_ne (by omega)) ?_
  by_cases e : q = 1000
  · subst e
    exact u2_oi (by omega)
  · rw [u2_ne (by omega)]
theorem KB.put {σ : XS9} {q i : Nat} {x : Int32} (h : KB σ) (hx : ((q = 2002 ∨ q = 2003) ∧ bd 7775 x) ∨ ((q = 2001 ∨ (2101 ≤ q ∧ q ≤ 2160)) ∧ bd 9999 x) ∨ (q = 1012 ∧ bd 999 x) ∨ (q = 1000 ∧ i = 8 ∧ bd 20 x)) : KB (u2 σ q i x) := by
  have g : ∀ (P : Int32 → Prop) q9 i9, P (σ q9 i9) → (q9 = q → i9 = i → P x) → P (u2 σ q i x q9 i9) := fun P q9 i9 h1 h2 => by
    by_cases e1 : q9 = q
    · by_cases e2 : i9 = i
      · subst e1
        subst e2
        rw [u2_at]
        exact h2 rfl rfl
      · rw [show u2 σ q i x q9 i9 = σ q9 i9 from by subst e1; exact u2_oi e2]
        exact h1
    · rw [u2_ne e1]
      exact h1
  obtain ⟨h1, h2, h3, h4, h5, h6⟩ := h
  refine ⟨fun i hi => g _ _ _ (h1 i hi) (fun a b => ?_), fun i hi => g _ _ _ (h2 i hi) (fun a b => ?_), fun i hi => g _ _ _ (h3 i hi) (fun a b => ?_), fun k r hk hr => g _ _ _ (h4 k r hk hr) (fun a b => ?_), fun r hr => g _ _ _ (h5 r hr) (fun a b => ?_), g _ _ _ h6 (fun a b => ?_)⟩ <;> (rcases hx with ⟨z1, z⟩ | ⟨z1, z⟩ | ⟨z1, z⟩ | ⟨z1, z2, z⟩ <;> first | exact z | (exfalso; omega))
theorem KB.row {σ : XS9} {q : Nat} {f : Nat → Int32} (h : KB σ) (hx : ¬ (q = 2001 ∨ q = 2002 ∨ q = 2003 ∨ (2101 ≤ q ∧ q ≤ 2160) ∨ q = 1012 ∨ q = 1000) ∨ ((q = 2002 ∨ q = 2003) ∧ ∀ i, i < 6 → bd 7775 (f i)) ∨ ((q = 2001 ∨ (2101 ≤ q ∧ q ≤ 2160)) ∧ ∀ i, i < 5 → bd 9999 (f i))) : KB (uR σ q f) := by
  have g : ∀ (P : Int32 → Prop) q9 i9, P (σ q9 i9) → (q9 = q → P (f i9)) → P (uR σ q f q9 i9) := fun P q9 i9 h1 h2 => by
    by_cases e1 : q9 = q
    · subst e1
      rw [uR_eq]
      exact h2 rfl
    · rw [uR_ne e1]
      exact h1
  obtain ⟨h1, h2, h3, h4, h5, h6⟩ := h
  refine ⟨fun i hi => g _ _ _ (h1 i hi) (fun a => ?_), fun i hi => g _ _ _ (h2 i hi) (fun a => ?_), fun i hi => g _ _ _ (h3 i hi) (fun a => ?_), fun k r hk hr => g _ _ _ (h4 k r hk hr) (fun a => ?_), fun r hr => g _ _ _ (h5 r hr) (fun a => ?_), g _ _ _ h6 (fun a => ?_)⟩ <;> (rcases hx with z | ⟨z1, z⟩ | ⟨z1, z⟩ <;> first | exact z _ ‹_› | (exfalso; omega))
theorem cpy_lo {f g : Nat → Int32} {n j : Nat} (h : j < n) : va_cpy f g 0 0 n j = f j := by
  unfold va_cpy
  rw [if_pos (by omega), Nat.zero_add, Nat.sub_zero]
theorem KB.fill {s : XS9} (h : KB s) {a n : Nat} {x : Int32} (ha : ((a = 2002 ∨ a = 2003) ∧ bd 7775 x) ∨ ¬ (a = 2001 ∨ a = 2002 ∨ a = 2003 ∨ (2101 ≤ a ∧ a ≤ 2160) ∨ a = 1012 ∨ a = 1000)) : KB (g_fill s a n x) := by
  unfold g_fill x_fill_5
  refine xit_inv KB (N := n) (fun i3 s3 _ hP3 => ?_) n 0 _ (Nat.zero_add _) h
  rcases ha with ha | ha
  · exact hP3.put (.inl ha)
  · exact hP3.set (by omega)
theorem KB.begin {s : XS9} (h : KB s) : KB (g_begin s 2000) := by
  have z : bd 7775 0 := bd.zero
  unfold g_begin
  refine KB.set (q := 2000) (KB.set (q := 2000) (KB.fill (KB.fill (KB.fill (KB.fill (KB.row (KB.row h (q := 2001) ?_) (q := 2004) (.inl (by decide))) (.inl ⟨.inl rfl, z⟩)) (.inl ⟨.inr rfl, z⟩)) (.inr (by decide))) (.inr (by decide))) (by decide)) (by decide)
  exact .inr (.inr ⟨.inl rfl, fun i hi => by rw [cpy_lo hi]; exact (h.2.2.2.2.1 i hi).le (by decide)⟩)
theorem KB.undo {s : XS9} (h : KB s) {B K : Nat} (hB6 : B ≤ 6) : KB (g_undoContradictions s 2000 B K) := by
  unfold g_undoContradictions x_undoContradictions_2
  refine xit_inv KB (N := B) (fun i s2 hi hP => ?_) B 0 _ (Nat.zero_add _) h
  (try dsimp only)
  split
  · exact hP
  · exact (hP.set (q := 2006) (by omega)).put (.inl ⟨.inr rfl, hP.1 i (by omega)⟩)
theorem KB.lower {s : XS9} (h : KB s) {B : Nat} : KB (g_lowerEligible s 2000 B) := h.rows fun q hq => fr_lowerEligible (by omega)
theorem KB.held2 {s s0 : XS9} (h : KB s0) {r B : Nat} (hr : r < 5) (hB6 : B ≤ 6) : KB (x_moveHeld_2 s 2000 r B s0) := by
  unfold x_moveHeld_2
  refine xit_inv KB (N := B) (fun i s2 hi hP => ?_) B 0 _ (Nat.zero_add _) h
  (try dsimp only)
  split
  · exact hP
  · exact hP.put (.inl ⟨.inl rfl, (hP.1 i (by omega)).replaced hr ((hP.2.1 i (by omega)).many hr)⟩)
theorem held_amt {h w o : Int32} (hh : bd 5 h) (hw : bd 5 w) (ho : ¬ o ≤ 0) : bd 5 (h - (if (h - w) < o then (h - w) else o)) := by
  have h2 := hh.2
  have w2 := hw.2
  have o0 : 0 ≤ o := Int32.le_of_lt (Int32.not_le.mp ho)
  obtain ⟨e1, e2⟩ := cn_of o0
  rw [hh.1, hw.1]
  generalize cn h = a at h2
  generalize cn w = b at w2
  by_cases hab : b ≤ a
  · rw [nI_minus hab]
    split
    · rw [nI_minus (by omega)]
      exact bd.nat (by omega) (by decide)
    · rename_i q
      have q2 : o ≤ nI (a - b) := Int32.not_lt.mp q
      have q3 := Int32.le_iff_toInt_le.mp q2
      rw [toI_nI (by omega)] at q3
      rw [e1, nI_minus (by omega)]
      exact bd.nat (by omega) (by decide)
  · have e : nI a - nI b = - nI (b - a) := by
      rw [← nI_minus (by omega : a ≤ b), Int32.neg_sub]
    have lt : nI a - nI b < o := by
      rw [e]
      have hb : -nI (b - a) ≤ 0 := by
        have : ∀ k : Fin 6, -nI k.1 ≤ 0 := by decide
        exact this ⟨b - a, by omega⟩
      exact Int32.lt_of_le_of_lt hb (Int32.not_le.mp ho)
    rw [if_pos lt, e, Int32.sub_neg, nI_plus]
    exact bd.nat (by omega) (by decide)
theorem KB.held80 {s : XS9} {s0 : XS9 × Int32} (h : KB s0.1) {r B : Nat} (hr : r < 5) (hB6 : B ≤ 6) : KB (x_moveHeld_80 s 2000 r B s0).1 := by
  unfold x_moveHeld_80
  refine xitB_inv (fun s : XS9 × Int32 => KB s.1) (N := B) (fun i s2 hi hP => ⟨fun s' e => ?_, fun s' e => ?_⟩) B 0 _ (Nat.zero_add _) h
  · (try dsimp only at e)
    split at e
    · cases e
    · rename_i q
      rw [← Sum.inl.inj e]
      exact hP.put (.inl ⟨.inl rfl, (hP.1 i (by omega)).replaced hr (held_amt ((hP.1 i (by omega)).many hr) ((hP.2.1 i (by omega)).many hr) q)⟩)
  · (try dsimp only at e)
    split at e
    · rw [← Sum.inr.inj e]
      exact hP
    · cases e
theorem KB.held {s : XS9} (h : KB s) {r B : Nat} (hr : r < 5) (hB6 : B ≤ 6) : KB (g_moveHeld s 2000 r B) := by
  unfold g_moveHeld
  exact KB.held80 (KB.held2 (s := s) h hr hB6) hr hB6
theorem raise_amt {p x : Int32} (hp : bd 9999 p) (hx : bd 20 x) : bd 9999 (if (p + (if 1 < ((p * x) / 100) then ((p * x) / 100) else 1)) < 9999 then (p + (if 1 < ((p * x) / 100) then ((p * x) / 100) else 1)) else 9999) := by
  have p2 := hp.2
  have x2 := hx.2
  rw [hp.1, hx.1]
  generalize cn p = a at p2
  generalize cn x = b at x2
  have hab : a * b ≤ 9999 * 20 := Nat.mul_le_mul p2 x2
  rw [nI_mul, show (100 : Int32) = nI 100 from rfl, nI_div (by omega) (by decide) (by decide)]
  have hv : ∃ v, v ≤ 2000 ∧ (if 1 < nI (a * b / 100) then nI (a * b / 100) else 1) = nI v := by
    split
    · exact ⟨a * b / 100, by omega, rfl⟩
    · exact ⟨1, by decide, rfl⟩
  obtain ⟨v, hv1, hv2⟩ := hv
  rw [hv2, nI_plus]
  split
  · rename_i q
    exact bd.nat (Nat.le_of_lt ((nI_ltI (a := a + v) (b := 9999) (by omega) (by omega)).mp q)) (by decide)
  · exact bd.nat (n := 9999) (Nat.le_refl _) (by decide)
theorem KB.raise {s : XS9} (h : KB s) {x : Int32} {R : Nat} (hx : bd 20 x) (hR5 : R ≤ 5) : KB (g_raisePrices s 2000 x R) := by
  unfold g_raisePrices x_raisePrices_5
  refine xit_inv (fun s : XS9 × Int32 => KB s.1) (N := R) (fun i s2 hi hP => ?_) R 0 _ (Nat.zero_add _) h
  (try dsimp only)
  split
  · exact hP
  · exact hP.put (.inr (.inl ⟨.inl rfl, raise_amt (hP.2.2.1 i (by omega)) hx⟩))
theorem KB.held92 {s s0 : XS9} (h : KB s0) {x : Int32} {B R K : Nat} (hR5 : R ≤ 5) (hB6 : B ≤ 6) : KB (x_closeRound_92 s 2000 x B R K s0) := by
  unfold x_closeRound_92
  exact xit_inv KB (N := R) (fun i s2 hi hP => hP.held (by omega) hB6) R 0 _ (Nat.zero_add _) h
theorem KB.closeRound {s : XS9} (h : KB s) {x : Int32} {B R K : Nat} (hx : bd 20 x) (hR5 : R ≤ 5) (hB6 : B ≤ 6) (hK60 : K ≤ 60) : KB (g_closeRound s 2000 x B R K) := by
  unfold g_closeRound
  split
  · rename_i hK
    have A : K < 60 → KB (uR (uR (u2 (u2 s (2000 + 7) K x) (2000 + 8) K (s 2000 12)) (2000 + 101 + K) (va_cpy (s (2000 + 1)) (s (2000 + 101 + K)) 0 0 5)) (2000 + 201 + K) (va_cpy (s (2000 + 3)) (s (2000 + 201 + K)) 0 0 6)) := fun hk =>
      KB.row (KB.row (KB.set (q := 2008) (KB.set (q := 2007) h (by omega)) (by omega)) (.inr (.inr ⟨.inr (by omega), fun i hi => by rw [cpy_lo hi]; exact h.2.2.1 i hi⟩))) (.inl (by omega))
    have hk : K < 60 := (nI_ltI (a := K) (b := 60) (by omega) (by omega)).mp hK
    have A := A hk
    generalize uR (uR (u2 (u2 s (2000 + 7) K x) (2000 + 8) K (s 2000 12)) (2000 + 101 + K) (va_cpy (s (2000 + 1)) (s (2000 + 101 + K)) 0 0 5)) (2000 + 201 + K) (va_cpy (s (2000 + 3)) (s (2000 + 201 + K)) 0 0 6) = t at A ⊢
    have fin : ∀ u, KB u → KB (u2 (u2 (uR (uR (g_raisePrices u 2000 x R) (2000 + 301 + K) (va_cpy (u (2000 + 2)) (u (2000 + 301 + K)) 0 0 6)) (2000 + 3) (va_cpy (u (2000 + 2)) (u (2000 + 3)) 0 0 6)) 2000 12 0) 2000 9 (nI (K + 1))) := fun u hu =>
      KB.set (KB.set (KB.row (KB.row (hu.raise hx hR5) (.inl (by omega))) (.inr (.inl ⟨.inr rfl, fun i hi => by rw [cpy_lo hi]; exact hu.1 i hi⟩))) (by decide)) (by decide)
    split
    · exact fin _ (KB.held92 A.lower hR5 hB6)
    · exact fin _ (KB.held92 (A.undo hB6).lower hR5 hB6)
  · exact h
theorem bd.ge0 {m : Nat} {v : Int32} (h : bd m v) (hm : m < 2147483648) : 0 ≤ v := by
  rw [h.1]
  exact xx_ge0 _ (by have := h.2; omega)
theorem JC.closeRound {s : XS9} (h : JC s) {x : Int32} {B R : Nat} : JC (g_closeRound s 2000 x B R (cn (s 2000 9))) := by
  have h60 := h.2.2.1.2
  have e : ∀ q, q ≠ 2000 → q < 2001 → g_closeRound s 2000 x B R (cn (s 2000 9)) q = s q := fun q a b => fr_closeRound (by omega)
  obtain ⟨h1, h2, h3, h4, h5, h6, h7, h8, h9, h10, h11, h12⟩ := h
  refine ⟨by rw [e _ (by omega) (by omega)]; exact h1, by rw [e _ (by omega) (by omega)]; exact h2, by rw [rounds_closeRound' h60 h3.1]; exact bd.nat (by omega) (by decide), by rw [e _ (by omega) (by omega)]; exact h4, by rw [e _ (by omega) (by omega)]; exact h5, fun i hi => ?_, fun i hi => ?_, fun i hi => ?_, fun i k hi hk => ?_, fun i hi => ?_, fun i k hi hk => ?_, fun r k hr hk => ?_⟩
  · rw [e _ (by omega) (by omega)]; exact h6 i hi
  · rw [e _ (by omega) (by omega)]; exact h7 i hi
  · rw [e _ (by omega) (by omega)]; exact h8 i hi
  · rw [e _ (by omega) (by omega)]; exact h9 i k hi hk
  · rw [e _ (by omega) (by omega)]; exact h10 i hi
  · rw [e _ (by omega) (by omega)]; exact h11 i k hi hk
  · rw [e _ (by omega) (by omega)]; exact h12 r k hr hk
theorem KB.addM {s : XS9} (h : KB s) {i : Nat} {x y : Int32} {R B : Nat} {gr cnt : Nat → Nat} (hi : i < 6) (hg : ∀ i, i < 6 → gr i < 4) (hc : cnt i ≤ 6) : KB (g_addM s i x y R B gr cnt) := h.rows fun q hq => fr_addM ⟨hi, by omega, hg⟩ hc
theorem KB.find {s : XS9} (h : KB s) : KB (g_find s) := h.rows fun q hq => fr_find (by omega)
theorem JK.endClock {s : XS9} (hJ : JC s) (hK : KB s) {R B K : Nat} {gr : Nat → Nat} (hB6 : B ≤ 6) (hK60 : K < 60) (hg : ∀ i, i < 6 → gr i < 4) : JC (g_endClock s R B K gr) ∧ KB (g_endClock s R B K gr) := by
  unfold g_endClock
  have e : JC (x_endClock_7 s R B K gr (u2 s 1000 7 2)) ∧ KB (x_endClock_7 s R B K gr (u2 s 1000 7 2)) := by
    unfold x_endClock_7
    refine xit_inv (fun s => JC s ∧ KB s) (N := B) (fun i s7 hi hP => ?_) B 0 _ (Nat.zero_add _) ⟨hJ.set (ky1000 (by decide)), hK.set (by decide)⟩
    (try dsimp only)
    split
    · exact hP
    · have hi6 : i < 6 := by omega
      have h2 := hP.2.1 i hi6
      have hc := (hP.1.2.2.2.2.2.2.1 i hi6).2
      refine ⟨hP.1.addM hi6 hg hc (h2.ge0 (by decide)) (bd.ge0 (m := 249975) ?_ (by decide)), hP.2.addM hi6 hg hc⟩
      unfold f_lastValue
      exact h2.total (fun r hr => hP.2.2.2.2.1 K r hK60 hr)
  exact ⟨e.1.find, e.2.find⟩
theorem JK.close {σ : XS9} (hJ : JC σ) (hK : KB σ) {x : Int32} {R B : Nat} {gr : Nat → Nat} (hR5 : R ≤ 5) (hB6 : B ≤ 6) (hg : ∀ i, i < 6 → gr i < 4) : JC (g_close σ x R B gr) ∧ KB (g_close σ x R B gr) := by
  unfold g_close
  split
  · split
    · unfold x_close_14
      refine xitB_inv (fun s => JC s ∧ KB s) (N := cn x) (fun i s hi hP => ?_) (cn x) 0 _ (Nat.zero_add _) ⟨hJ, hK⟩
      have C1 : JC (g_closeRound s 2000 (s 1000 8) B R (cn (s 2000 9))) ∧ KB (g_closeRound s 2000 (s 1000 8) B R (cn (s 2000 9))) := ⟨hP.1.closeRound, hP.2.closeRound hP.2.2.2.2.2.2 hR5 hB6 hP.1.2.2.1.2⟩
      refine ⟨fun s' e => ?_, fun s' e => ?_⟩
      · by_cases c1 : s 1000 7 = 1
        · rw [if_pos c1] at e
          by_cases c2 : f_closeRound s 2000 (s 1000 8) B R (cn (s 2000 9)) = 0
          · rw [if_pos c2] at e
            rw [← Sum.inl.inj e]
            exact C1
          · rw [if_neg c2] at e
            rw [← Sum.inl.inj e]
            exact JK.endClock C1.1 C1.2 hB6 (by omega) hg
        · rw [if_neg c1] at e
          exact absurd e (by intro e; cases e)
      · by_cases c1 : s 1000 7 = 1
        · rw [if_pos c1] at e
          by_cases c2 : f_closeRound s 2000 (s 1000 8) B R (cn (s 2000 9)) = 0
          · rw [if_pos c2] at e
            exact absurd e (by intro e; cases e)
          · rw [if_neg c2] at e
            exact absurd e (by intro e; cases e)
        · rw [if_neg c1] at e
          rw [← Sum.inr.inj e]
          exact hP
    · exact ⟨hJ, hK⟩
  · exact ⟨hJ, hK⟩
theorem KB.init : KB s0C := by
  have z : ∀ q, q ≠ 1001 → q ≠ 1042 → ¬ ((1051 ≤ q ∧ q ≤ 1114) ∨ q = 1043 ∨ q = 1040 ∨ (1141 ≤ q ∧ q ≤ 1145)) → q ≠ 1000 → ∀ i m, bd m (s0C q i) := fun q a b c d i m => by
    rw [s0C_z a b c d]
    exact bd.zero
  refine ⟨fun i _ => z _ (by omega) (by omega) (by omega) (by omega) _ _, fun i _ => z _ (by omega) (by omega) (by omega) (by omega) _ _, fun i _ => z _ (by omega) (by omega) (by omega) (by omega) _ _, fun k r _ _ => z _ (by omega) (by omega) (by omega) (by omega) _ _, fun i _ => z _ (by omega) (by omega) (by omega) (by omega) _ _, ?_⟩
  exact ⟨by decide, by decide⟩
section
variable {σ : XS9} {R B C K w : Nat}
theorem KB.region {x y z : Int32} (h : KB σ) : KB (g_region σ x y z R) := by
  unfold g_region
  split
  · split
    · split
      · rename_i hz
        split
        · split
          · refine KB.begin ?_
            unfold g_addRegion
            exact KB.set (q := 1001) (KB.put (KB.set (q := 1011) (KB.set (q := 1010) h (by omega)) (by omega)) (.inr (.inr (.inl ⟨rfl, bd.bt hz (by decide) rfl (by decide)⟩)))) (by omega)
          · exact h
        · exact h
      · exact h
    · exact h
  · exact h
theorem KB.bidder {x y z v : Int32} (h : KB σ) : KB (g_bidder σ x y z v B) := by
  unfold g_bidder
  split
  · split
    · split
      · split
        · split
          · split
            · refine KB.begin ?_
              unfold g_addBidder
              exact KB.set (q := 1001) (KB.set (q := 1017) (KB.set (q := 1016) (KB.set (q := 1015) (KB.set (q := 1014) h (by omega)) (by omega)) (by omega)) (by omega)) (by omega)
            · exact h
          · exact h
        · exact h
      · exact h
    · exact h
  · exact h
theorem KB.border {x y : Int32} (h : KB σ) : KB (g_border σ x y R) := by
  unfold g_border
  split
  · split
    · split
      · exact h
      · split
        · unfold g_addBorder
          exact KB.set (q := 1013) (KB.set (q := 1013) h (by omega)) (by omega)
        · exact h
    · exact h
  · exact h
theorem KB.rules {x y : Int32} (h : KB σ) : KB (g_rules σ x y) := by
  unfold g_rules
  split
  · split
    · exact KB.set (q := 1001) (KB.set (q := 1001) h (by omega)) (by omega)
    · exact h
  · exact h
theorem KB.step {x : Int32} (h : KB σ) : KB (g_step σ x) := by
  unfold g_step
  split
  · rename_i hx
    have p : KB (u2 σ 1000 8 x) := h.put (.inr (.inr (.inr ⟨rfl, rfl, bd.bt hx (by decide) rfl (by decide)⟩)))
    split
    · exact p
    · split
      · exact p
      · exact h
  · exact h
theorem KB.opn (h : KB σ) : KB (g_open σ R B) := by
  unfold g_open
  split
  · split
    · exact h
    · split
      · exact h
      · exact KB.set (q := 1000) h (by omega)
  · exact h
theorem KB.wish {x y z : Int32} (h : KB σ) (hR5 : R ≤ 5) (hB6 : B ≤ 6) : KB (g_wish σ x y z R B) := by
  unfold g_wish
  split
  · rename_i hx
    split
    · rename_i hy
      split
      · rename_i hz
        have z1 : bd 5 (nI (cn z)) := by
          have b := bd.bt hz (by decide) (m := 5) rfl (by decide)
          rw [← b.1]
          exact b
        split
        · split
          · exact h
          · have hx2 := hx.2
            have hy2 := hy.2
            exact h.put (.inl ⟨.inr rfl, (h.2.1 (cn x) (by omega)).replaced (by omega) z1⟩)
        · exact h
      · exact h
    · exact h
  · exact h
theorem KB.waive {x : Int32} (h : KB σ) : KB (g_waive σ x B) := by
  unfold g_waive
  split
  · split
    · split
      · exact h
      · split
        · unfold g_useWaiver
          exact KB.set (q := 2000) (KB.set (q := 2005) h (by omega)) (by omega)
        · exact h
    · exact h
  · exact h
theorem KB.station {x y : Int32} (h : KB σ) : KB (g_station σ x y R C) := by
  unfold g_station
  split
  · split
    · split
      · unfold g_add
        exact KB.set (q := 1006) (KB.set (q := 1150) (KB.set (q := 1151) h (by omega)) (by omega)) (by omega)
      · exact h
    · exact h
  · exact h
theorem KB.ask {x y : Int32} (h : KB σ) : KB (g_ask σ x y C) := by
  unfold g_ask
  split
  · split
    · exact KB.set (q := 1150) h (by omega)
    · exact h
  · exact h
theorem KB.pack {x : Int32} {ch : Nat} {rg : Nat → Nat} (h : KB σ) : KB (g_pack σ x ch C rg) := h.rows fun q hq => fr_packM (by omega)
theorem KB.cheapest {ch : Nat} {rg : Nat → Nat} (h : KB σ) : KB (g_cheapest σ ch C rg) := h.rows fun q hq => fr_cheapest (by omega)
theorem KB.packs {x y : Int32} {rg : Nat → Nat} (h : KB σ) : KB (g_packs σ x y C rg) := by
  unfold g_packs
  split
  · split
    · exact h.pack
    · exact h
  · exact h
theorem KB.channel {x y z : Int32} {rg : Nat → Nat} (h : KB σ) : KB (g_channel σ x y z C rg) := by
  unfold g_channel
  split
  · split
    · split
      · exact h.pack
      · exact h
    · exact h
  · exact h
theorem KB.clear {x : Int32} {rg : Nat → Nat} (h : KB σ) : KB (g_clear σ x C rg) := by
  unfold g_clear
  split
  · exact h.cheapest
  · exact h
theorem KB.runLog {x y : Int32} {j r : Nat} (h : KB σ) (hK60 : K ≤ 60) : KB (g_runLog σ 3000 2000 x j r y B R K) := h.rows fun q hq => fr_runLog hK60 (by omega)
theorem KB.anew {x y z v : Int32} (h : KB σ) (hK60 : K ≤ 60) : KB (g_anew σ x y z v R B K) := by
  unfold g_anew
  split
  · split
    · split
      · split
        · exact h.runLog hK60
        · exact h
      · exact h
    · exact h
  · exact h
theorem KB.isSound (h : KB σ) (hK60 : K ≤ 60) : KB (g_isSound σ R B w K) := h.runLog hK60
theorem KB.digest {rg : Nat → Nat} (h : KB σ) (hK60 : K ≤ 60) : KB (g_digest σ K B R C w rg) := by
  unfold g_digest g_dgS
  split
  · exact KB.isSound h.cheapest.cheapest hK60
  · exact KB.isSound h hK60
theorem KB.knock (h : KB σ) : KB (g_knock σ) := KB.set (q := 1000) h (by omega)
theorem KB.offer {x y z : Int32} {gr cnt : Nat → Nat} (h : KB σ) (hB6 : B ≤ 6) (hg : ∀ i, i < 6 → gr i < 4) (hc : ∀ i, i < 6 → cnt i ≤ 6) : KB (g_offer σ x y z R B gr cnt) := by
  unfold g_offer
  split
  · rename_i hx
    have hx6 : cn x < 6 := by have := hx.2; omega
    split
    · exact h
    · split
      · split
        · split
          · exact h
          · split
            · exact h
            · exact (h.addM hx6 hg (hc _ hx6)).find
        · exact h
      · exact h
  · exact h
theorem KB.give {sp : Nat → Nat} (h : KB σ) (hR5 : R ≤ 5) : KB (g_give σ R sp) := h.rows fun q hq => fr_give hR5 ⟨by omega, by omega⟩
theorem KB.settle {x : Int32} {sp : Nat → Nat} (h : KB σ) (hR5 : R ≤ 5) : KB (g_settle σ x R sp) := by
  unfold g_settle
  split
  · split
    · exact KB.give (KB.set (q := 1000) (KB.set (q := 1000) h (by omega)) (by omega)) hR5
    · exact h
  · exact h
theorem KB.leaveOut {i : Nat} (h : KB σ) : KB (g_leaveOut σ i) := h.rows fun q hq => fr_leaveOut (by omega)
theorem KB.fail {x : Int32} {sp : Nat → Nat} (h : KB σ) (hR5 : R ≤ 5) : KB (g_fail σ x R B sp) := by
  unfold g_fail
  split
  · split
    · split
      · exact h
      · exact KB.give (KB.set (q := 1000) h (by omega)).leaveOut.find hR5
    · exact h
  · exact h
end
