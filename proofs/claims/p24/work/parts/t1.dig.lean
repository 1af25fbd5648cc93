/-! ===== digits of codes, alike on both sides ===== -/
def dgt (c : Int32) (r : Nat) : Nat := cn c / 6 ^ r % 6
theorem dgt_le {c : Int32} {r : Nat} : dgt c r ≤ 5 := by
  have := Nat.mod_lt (cn c / 6 ^ r) (show 0 < 6 by decide)
  unfold dgt
  omega
theorem dgt_bd {c : Int32} {r : Nat} : bd 5 (nI (dgt c r)) := bd.nat dgt_le (by decide)
section
variable {c m : Int32} {r j : Nat}
theorem of_d (h : bd 7775 c) (hr : r < 5) : f_of c r = nI (dgt c r) := by
  have := of_eq h.2 hr
  rw [← h.1] at this
  exact this
theorem many_d (h : bd 7775 c) (hr : r < 5) : f_many c r = nI (dgt c r) := by
  have := many_eq h.2 hr
  rw [← h.1] at this
  exact this
theorem many_of (h : bd 7775 c) (hr : r < 5) : f_many c r = f_of c r := by rw [many_d h hr, of_d h hr]
theorem rep_with (h : bd 7775 c) (hr : r < 5) : f_replaced c r m = f_with c r m := by
  unfold f_replaced f_with
  rw [many_of h hr]
  rfl
theorem with_val (h : bd 7775 c) (hr : r < 5) (hm : bd 5 m) : f_with c r m = nI (cn c - dgt c r * 6 ^ r + cn m * 6 ^ r) := by
  have q : cn c / 6 ^ r % 6 * 6 ^ r ≤ cn c := Nat.le_trans (Nat.mul_le_mul_right _ (Nat.mod_le _ _)) (Nat.div_mul_le_self _ _)
  have e := rep_eq (k := cn m) q
  rw [← h.1, ← hm.1] at e
  unfold f_with
  rw [of_d h hr, power_eq hr]
  exact e
theorem with_n {n k r j : Nat} (hn : n ≤ 7775) (hk : k ≤ 5) (hr : r < 5) (hj : j < 5) : (n - n / 6 ^ r % 6 * 6 ^ r + k * 6 ^ r) / 6 ^ j % 6 = if j = r then k else n / 6 ^ j % 6 := by
  have a : r = 0 ∨ r = 1 ∨ r = 2 ∨ r = 3 ∨ r = 4 := by omega
  have b : j = 0 ∨ j = 1 ∨ j = 2 ∨ j = 3 ∨ j = 4 := by omega
  rcases a with rfl | rfl | rfl | rfl | rfl <;> rcases b with rfl | rfl | rfl | rfl | rfl <;> split <;> simp only [Nat.reducePow] <;> omega
theorem with_nat (h : bd 7775 c) (hr : r < 5) (hm : bd 5 m) : cn (f_with c r m) = cn c - dgt c r * 6 ^ r + cn m * 6 ^ r := by
  have p := pow6r hr
  have q : cn m * 6 ^ r ≤ 5 * 1296 := Nat.mul_le_mul hm.2 p.2
  have c2 := h.2
  rw [with_val h hr hm, cn_nI (by omega)]
theorem with_d (h : bd 7775 c) (hr : r < 5) (hm : bd 5 m) (hj : j < 5) : dgt (f_with c r m) j = if j = r then cn m else dgt c j := by
  unfold dgt
  rw [with_nat h hr hm]
  exact with_n h.2 hm.2 hr hj
theorem with_at (h : bd 7775 c) (hr : r < 5) (hm : bd 5 m) : dgt (f_with c r m) r = cn m := (with_d h hr hm hr).trans (if_pos rfl)
theorem with_ne (h : bd 7775 c) (hr : r < 5) (hm : bd 5 m) (hj : j < 5) (e : j ≠ r) : dgt (f_with c r m) j = dgt c j := (with_d h hr hm hj).trans (if_neg e)
theorem with_self : f_with c r (f_of c r) = c := by
  unfold f_with
  rw [Int32.sub_self, Int32.zero_mul, Int32.add_zero]
theorem with_dgt (h : bd 7775 c) (hr : r < 5) : f_with c r (nI (dgt c r)) = c := by
  rw [← of_d h hr]
  exact with_self
theorem with_with {m2 : Int32} (h : bd 7775 c) (hr : r < 5) (hm : bd 5 m) (hm2 : bd 5 m2) : f_with (f_with c r m) r m2 = f_with c r m2 := by
  rw [with_val (h.withd hr hm) hr hm2, with_val h hr hm2, with_at h hr hm, with_nat h hr hm, Nat.add_sub_cancel]
theorem pred_neg {d : Nat} (h : 1 ≤ d) (h5 : d ≤ 5) : nI (d - 1) - nI d = -1 := by
  have : ∀ d : Fin 6, 1 ≤ d.1 → nI (d.1 - 1) - nI d.1 = -1 := by decide +kernel
  exact this ⟨d, by omega⟩ h
theorem sub_power (h : bd 7775 c) (hr : r < 5) (h1 : 1 ≤ dgt c r) : c - f_power r = f_with c r (nI (dgt c r - 1)) := by
  unfold f_with
  rw [of_d h hr, pred_neg h1 dgt_le, Int32.neg_mul, Int32.one_mul, Int32.sub_eq_add_neg]
end
/-! sums -/
theorem xit_app {S : Type} {step : Nat → S → S} : ∀ (a b i : Nat) (s : S), xit step (a + b) i s = xit step b (i + a) (xit step a i s)
  | 0, b, i, s => by
    rw [Nat.zero_add]
    rfl
  | a + 1, b, i, s => by
    rw [show a + 1 + b = (a + b) + 1 by omega]
    show xit step (a + b) (i + 1) (step i s) = xit step b (i + (a + 1)) (xit step a (i + 1) (step i s))
    rw [xit_app a b (i + 1) (step i s), show i + 1 + a = i + (a + 1) by omega]
theorem xit_last {S : Type} {step : Nat → S → S} {a : Nat} {s : S} : xit step (a + 1) 0 s = step a (xit step a 0 s) := by
  rw [xit_app a 1 0 s, Nat.zero_add]
  rfl
/-- a sum -/
def xsum (t : Nat → Int32) (N : Nat) : Int32 := xit (fun i s => s + t i) N 0 0
def nsum (d : Nat → Nat) : Nat → Nat
  | 0 => 0
  | n + 1 => nsum d n + d n
section
variable {t t2 : Nat → Int32} {d d2 : Nat → Nat} {N M : Nat}
theorem xsum_s : xsum t (N + 1) = xsum t N + t N := xit_last
theorem xsum_cg (h : ∀ i, i < N → t i = t2 i) : xsum t N = xsum t2 N := xit_cg (fun i s hi => by
  show s + t i = s + t2 i
  rw [h i hi]) N 0 0 (Nat.zero_add _)
theorem xsum_cut (h : ∀ j, N ≤ j → j < M → t j = 0) (hN : N ≤ M) : xsum t M = xsum t N := by
  obtain ⟨k, rfl⟩ : ∃ k, M = N + k := ⟨M - N, by omega⟩
  induction k with
  | zero => rfl
  | succ k ih =>
    rw [← Nat.add_assoc, xsum_s, h (N + k) (by omega) (by omega), Int32.add_zero]
    exact ih (fun j a b => h j a (by omega)) (by omega)
theorem xsum_n (h : ∀ i, i < N → t i = nI (d i)) : xsum t N = nI (nsum d N) := by
  induction N with
  | zero => rfl
  | succ n ih =>
    rw [xsum_s, ih (fun i hi => h i (by omega)), h n (by omega), nI_plus]
    rfl
theorem nsum_cg (h : ∀ i, i < N → d i = d2 i) : nsum d N = nsum d2 N := by
  induction N with
  | zero => rfl
  | succ n ih =>
    show nsum d n + d n = nsum d2 n + d2 n
    rw [ih (fun i hi => h i (by omega)), h n (by omega)]
theorem nsum_le {k : Nat} (h : ∀ i, i < N → d i ≤ k) : nsum d N ≤ k * N := by
  induction N with
  | zero => exact Nat.zero_le _
  | succ n ih =>
    have a := ih (fun i hi => h i (by omega))
    have b := h n (by omega)
    show nsum d n + d n ≤ k * (n + 1)
    rw [Nat.mul_succ]
    omega
theorem nsum_set {i : Nat} (hi : i < N) (h : ∀ j, j < N → j ≠ i → d2 j = d j) : nsum d2 N + d i = nsum d N + d2 i := by
  induction N with
  | zero => omega
  | succ n ih =>
    show nsum d2 n + d2 n + d i = nsum d n + d n + d2 i
    by_cases e : i = n
    · subst e
      rw [nsum_cg (d := d2) (d2 := d) (fun j hj => h j (by omega) (by omega))]
      omega
    · have := ih (by omega) (fun j a b => h j (by omega) b)
      rw [h n (by omega) (fun q => e q.symm)]
      omega
theorem nsum_ge {i : Nat} (hi : i < N) : d i ≤ nsum d N := by
  induction N with
  | zero => omega
  | succ n ih =>
    show d i ≤ nsum d n + d n
    by_cases e : i = n
    · subst e
      omega
    · have := ih (by omega)
      omega
end
section
variable {c : Int32} {R B r : Nat}
theorem many0 (hr : r < 5) : f_many 0 r = 0 := by
  rw [many_d bd.zero hr]
  exact congrArg nI (show 0 / 6 ^ r % 6 = 0 by simp)
theorem total_x {f : Nat → Int32} : f_total c 5 f = xsum (fun i => f_many c i * f i) 5 := rfl
theorem dearer_x {d : Int32} {f g : Nat → Int32} : f_dearer c d 5 f g = xsum (fun i => (f i - g i) * (f_many c i - f_many d i)) 5 := rfl
theorem points_x {σ : XS9} : f_Mpoints σ c R = xsum (fun i => f_of c i * σ (5010 + i) 1) R := rfl
theorem held_x {σ : XS9} {b g : Nat} : f_KheldIn σ b r B g = xsum (fun i => f_of (σ (b + 2) i) r) B := rfl
theorem together_x {f : Nat → Int32} : f_together 6 f r = xsum (fun i => f_many (f i) r) 6 := rfl
theorem contra_x {σ : XS9} {b i g n i2 : Nat} : x_Kcontradicts_18 σ b i R g n i2 0 = xsum (fun k => (σ (b + 1) k - σ (b + 100 + i2) k) * (f_of (σ (b + 500 + g) i) k - f_of (σ (b + 200 + i2) i) k)) R := rfl
/-- the points of a code -/
theorem points_eq {σ : XS9} {w : Nat → Int32} (h : bd 7775 c) (hR5 : R ≤ 5) (hw : ∀ j, j < 5 → w j = σ (5010 + j) 1) (hz : ∀ j, R ≤ j → j < 5 → σ (5010 + j) 1 = 0) : f_total c 5 w = f_Mpoints σ c R := by
  rw [total_x, points_x, xsum_cut (N := R) (M := 5) (fun j a b => by
    (try dsimp only)
    rw [hw j b, hz j a b, Int32.mul_zero]) hR5]
  exact xsum_cg fun i hi => by
    (try dsimp only)
    rw [many_of h (by omega), hw i (by omega)]
theorem dearer_eq {σ : XS9} {b i g n i2 : Nat} {d : Int32} {f f2 : Nat → Int32} (hc : bd 7775 c) (hd : bd 7775 d) (hR5 : R ≤ 5) (e1 : σ (b + 500 + g) i = c) (e2 : σ (b + 200 + i2) i = d) (h1 : ∀ j, j < R → f j = σ (b + 1) j) (h2 : ∀ j, j < R → f2 j = σ (b + 100 + i2) j) (hz : ∀ j, R ≤ j → j < 5 → f j = 0 ∧ f2 j = 0) : f_dearer c d 5 f f2 = x_Kcontradicts_18 σ b i R g n i2 0 := by
  rw [dearer_x, contra_x, xsum_cut (N := R) (M := 5) (fun j a b => by
    (try dsimp only)
    rw [(hz j a b).1, (hz j a b).2, Int32.sub_self, Int32.zero_mul]) hR5]
  exact xsum_cg fun k hk => by
    (try dsimp only)
    rw [many_of hc (by omega), many_of hd (by omega), h1 k hk, h2 k hk, e1, e2]
theorem held_n {σ : XS9} {b g : Nat} (hr : r < 5) (h : ∀ i, i < B → bd 7775 (σ (b + 2) i)) : f_KheldIn σ b r B g = nI (nsum (fun i => dgt (σ (b + 2) i) r) B) := by
  rw [held_x]
  exact xsum_n fun i hi => of_d (h i hi) hr
theorem together_n {f : Nat → Int32} (hr : r < 5) (hB6 : B ≤ 6) (h : ∀ i, i < B → bd 7775 (f i)) (hz : ∀ i, B ≤ i → i < 6 → f i = 0) : f_together 6 f r = nI (nsum (fun i => dgt (f i) r) B) := by
  rw [together_x, xsum_cut (N := B) (M := 6) (fun j a b => by
    (try dsimp only)
    rw [hz j a b, many0 hr]) hB6]
  exact xsum_n fun i hi => many_d (h i hi) hr
end
