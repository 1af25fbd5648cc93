/-! ===== pure facts: codes on the reference's side ===== -/
theorem power_eq {r : Nat} (hr : r < 5) : f_power r = nI (6 ^ r) := by
  match r, hr with
  | 0, _ => rfl
  | 1, _ => rfl
  | 2, _ => rfl
  | 3, _ => rfl
  | 4, _ => rfl
theorem pow6r {r : Nat} (hr : r < 5) : 0 < 6 ^ r ∧ 6 ^ r ≤ 1296 := by
  match r, hr with
  | 0, _ => exact ⟨by decide, by decide⟩
  | 1, _ => exact ⟨by decide, by decide⟩
  | 2, _ => exact ⟨by decide, by decide⟩
  | 3, _ => exact ⟨by decide, by decide⟩
  | 4, _ => exact ⟨by decide, by decide⟩
theorem of_eq {n r : Nat} (hn : n ≤ 7775) (hr : r < 5) : f_of (nI n) r = nI (n / 6 ^ r % 6) := by
  obtain ⟨h0, h1⟩ := pow6r hr
  have h2 : n / 6 ^ r ≤ n := Nat.div_le_self _ _
  unfold f_of
  rw [power_eq hr, nI_div (by omega) h0 (by omega), mod6x (by omega)]
theorem bd.ofd {c : Int32} (h : bd 7775 c) {r : Nat} (hr : r < 5) : bd 5 (f_of c r) := by
  rw [h.1, of_eq h.2 hr]
  exact bd.nat (by omega) (by decide)
theorem bd.withd {c m : Int32} (h : bd 7775 c) {r : Nat} (hr : r < 5) (hm : bd 5 m) : bd 7775 (f_with c r m) := by
  unfold f_with
  have h2 := h.2
  have m2 := hm.2
  rw [h.1, of_eq h2 hr, hm.1, power_eq hr]
  generalize cn c = n at h2
  generalize cn m = k at m2
  match r, hr with
  | 0, _ =>
    rw [rep_eq (by show n / 1 % 6 * 1 ≤ n; omega)]
    exact bd.nat (by show n - n / 1 % 6 * 1 + k * 1 ≤ 7775; omega) (by decide)
  | 1, _ =>
    rw [rep_eq (by show n / 6 % 6 * 6 ≤ n; omega)]
    exact bd.nat (by show n - n / 6 % 6 * 6 + k * 6 ≤ 7775; omega) (by decide)
  | 2, _ =>
    rw [rep_eq (by show n / 36 % 6 * 36 ≤ n; omega)]
    exact bd.nat (by show n - n / 36 % 6 * 36 + k * 36 ≤ 7775; omega) (by decide)
  | 3, _ =>
    rw [rep_eq (by show n / 216 % 6 * 216 ≤ n; omega)]
    exact bd.nat (by show n - n / 216 % 6 * 216 + k * 216 ≤ 7775; omega) (by decide)
  | 4, _ =>
    rw [rep_eq (by show n / 1296 % 6 * 1296 ≤ n; omega)]
    exact bd.nat (by show n - n / 1296 % 6 * 1296 + k * 1296 ≤ 7775; omega) (by decide)
theorem bd.toI {m : Nat} {v : Int32} (h : bd m v) (hm : m < 2147483648) : 0 ≤ v.toInt := by
  have := Int32.le_iff_toInt_le.mp (h.ge0 hm)
  simpa using this
/-- the codes of a block of the clock: held, and wished in the generation g -/
def KW (b g : Nat) (s : XS9) : Prop := (∀ i, i < 6 → bd 7775 (s (b + 2) i)) ∧ ∀ i, i < 6 → bd 7775 (s (b + 500 + g) i)
theorem KW.clo2 {σ : XS9} {b R B g w n : Nat} (h : KW b g σ) (hB6 : B ≤ 6) (hg : g < 200) : KW b g (x_Kclose_2 σ b R B g w n σ) := by
  unfold x_Kclose_2
  refine xit_inv (KW b g) (N := B) (fun i s hi hP => ?_) B 0 _ (Nat.zero_add _) h
  (try dsimp only)
  split
  · exact hP
  · split
    · exact hP
    · refine ⟨fun k hk => ?_, fun k hk => ?_⟩
      · rw [u2_ne (by omega), u2_ne (by omega)]
        exact hP.1 k hk
      · rw [u2_ne (by omega)]
        by_cases e : k = i
        · rw [e, u2_at]
          exact h.1 i (by omega)
        · rw [u2_oi e]
          exact hP.2 k hk
theorem KW.hw0 {σ : XS9} {b R B g w n : Nat} (h : KW b g σ) (hR5 : R ≤ 5) (hB6 : B ≤ 6) (hg : g < 200) : ∀ i r, i < B → r < R → 0 ≤ (f_of (x_Kclose_2 σ b R B g w n σ (b + 500 + g) i) r).toInt := fun i r hi hr =>
  (((h.clo2 (R := R) (w := w) (n := n) hB6 hg).2 i (by omega)).ofd (by omega)).toI (by decide)
/-- one may always wish nothing more than one wishes -/
theorem KW.hm0 {τ : XS9} {i r R B g : Nat} (h : KW 7000 g τ) (hi : i < 6) (hr : r < 5) : ¬ f_McanWish (u2 τ 5000 0 0) i r (nI 0) R B g = 0 := by
  have e : bd 5 (f_of (u2 τ 5000 0 0 (7000 + 500 + g) i) r) := by
    rw [u2_ne (by omega)]
    exact (h.2 i hi).ofd hr
  have ne : ¬ f_of (u2 τ 5000 0 0 (7000 + 500 + g) i) r < nI 0 := fun q => absurd q (Int32.not_lt.mpr (e.ge0 (by decide)))
  unfold f_McanWish
  rw [if_neg ne]
  decide
