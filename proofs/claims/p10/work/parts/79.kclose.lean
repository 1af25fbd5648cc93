/-! ===== the reference: digits, and the close of a clock ===== -/
theorem i32_tdiv6 {a : Int32} : (a / 6).toInt = a.toInt.tdiv 6 := Int32.toInt_div_of_ne_right _ _ (by decide)
theorem i32_tdivp {a p : Int32} (h : p ≠ -1) : (a / p).toInt = a.toInt.tdiv p.toInt := Int32.toInt_div_of_ne_right _ _ h
theorem tdiv_b {a : Int} {p : Int} (hp : 0 < p) : (0 ≤ a → a.tdiv p = a / p) ∧ (a < 0 → a.tdiv p = -(-a / p)) := by
  refine ⟨fun h => Int.tdiv_eq_ediv_of_nonneg h, fun h => ?_⟩
  have e : a.tdiv p = -((-a).tdiv p) := by rw [Int.neg_tdiv, Int.neg_neg]
  rw [e, Int.tdiv_eq_ediv_of_nonneg (by omega)]
theorem of_int {c : Int32} {r : Nat} (hr : r < 5) : ∃ p : Int, (p = 1 ∨ p = 6 ∨ p = 36 ∨ p = 216 ∨ p = 1296) ∧ (f_power r).toInt = p ∧ (f_of c r).toInt = c.toInt.tdiv p - (c.toInt.tdiv p).tdiv 6 * 6 := by
  have hp : ((f_power r).toInt = 1 ∨ (f_power r).toInt = 6 ∨ (f_power r).toInt = 36 ∨ (f_power r).toInt = 216 ∨ (f_power r).toInt = 1296) ∧ f_power r ≠ -1 := by
    match r, hr with
    | 0, _ => decide
    | 1, _ => decide
    | 2, _ => decide
    | 3, _ => decide
    | 4, _ => decide
  refine ⟨(f_power r).toInt, hp.1, rfl, ?_⟩
  have e1 : (c / f_power r).toInt = c.toInt.tdiv (f_power r).toInt := i32_tdivp hp.2
  have hb1 := Int32.toInt_lt (c / f_power r)
  have hb2 := Int32.le_toInt (c / f_power r)
  unfold f_of
  have hq := tdiv_b (a := (c / f_power r).toInt) (p := 6) (by omega)
  have hm : ((c / f_power r) / 6 * 6).toInt = (c / f_power r).toInt.tdiv 6 * 6 := by
    rw [Int32.toInt_mul, i32_tdiv6]
    have : (6 : Int32).toInt = 6 := rfl
    rw [this]
    apply Int.bmod_eq_of_le
    · by_cases h : 0 ≤ (c / f_power r).toInt
      · rw [hq.1 h]; omega
      · rw [hq.2 (by omega)]; omega
    · by_cases h : 0 ≤ (c / f_power r).toInt
      · rw [hq.1 h]; omega
      · rw [hq.2 (by omega)]; omega
  rw [Int32.toInt_sub, hm, ← e1]
  apply Int.bmod_eq_of_le
  · by_cases h : 0 ≤ (c / f_power r).toInt
    · rw [hq.1 h]; omega
    · rw [hq.2 (by omega)]; omega
  · by_cases h : 0 ≤ (c / f_power r).toInt
    · rw [hq.1 h]; omega
    · rw [hq.2 (by omega)]; omega
def dg (c : Int32) (r i : Nat) : Prop := (f_of c r).toInt ≤ 5 - (i : Int)
theorem dg_0 {c : Int32} {r : Nat} (hr : r < 5) : dg c r 0 := by
  obtain ⟨p, hp, -, e⟩ := of_int (c := c) hr
  unfold dg
  rw [e]
  have hq := tdiv_b (a := c.toInt.tdiv p) (p := 6) (by omega)
  by_cases h : 0 ≤ c.toInt.tdiv p
  · rw [hq.1 h]; omega
  · rw [hq.2 (by omega)]; omega
theorem dg_end {c w : Int32} {r : Nat} (h : dg c r 5) (hw : 0 ≤ w.toInt) : f_of c r ≤ w := by
  unfold dg at h
  rw [Int32.le_iff_toInt_le]
  omega
theorem dg_step {c w : Int32} {r i : Nat} (hr : r < 5) (h : dg c r i) (hg : ¬ f_of c r ≤ w) (hw : 0 ≤ w.toInt) : dg (c - f_power r) r (i + 1) := by
  have hg' : w.toInt < (f_of c r).toInt := by
    rw [Int32.le_iff_toInt_le] at hg
    omega
  obtain ⟨p, hp, ep, e⟩ := of_int (c := c) hr
  obtain ⟨p', hp', ep', e'⟩ := of_int (c := c - f_power r) hr
  have epp : p' = p := by rw [← ep, ← ep']
  subst epp
  unfold dg at h ⊢
  rw [e'] 
  rw [e] at h hg'
  have hb1 := Int32.toInt_lt c
  have hb2 := Int32.le_toInt c
  have hq := tdiv_b (a := c.toInt) (p := p') (by omega)
  have hc : 0 ≤ c.toInt := by
    rcases Int.lt_or_le c.toInt 0 with hc | hc
    · have h1 := hq.2 hc
      have h2 : 0 ≤ -c.toInt / p' := Int.ediv_nonneg (by omega) (by omega)
      have h3 := tdiv_b (a := c.toInt.tdiv p') (p := 6) (by omega)
      rcases Int.lt_or_le (c.toInt.tdiv p') 0 with h4 | h4
      · rw [h3.2 h4] at hg'; omega
      · rw [h3.1 h4] at hg'; omega
    · exact hc
  have h2 : 0 ≤ c.toInt / p' := Int.ediv_nonneg hc (by omega)
  rw [hq.1 hc, Int.tdiv_eq_ediv_of_nonneg h2] at h hg'
  have hge : p' ≤ c.toInt := by
    rcases hp with rfl | rfl | rfl | rfl | rfl <;> omega
  have es : (c - f_power r).toInt = c.toInt - p' := by
    rw [Int32.toInt_sub, ep]
    apply Int.bmod_eq_of_le <;> omega
  have ed : (c.toInt - p') / p' = c.toInt / p' - 1 := by
    rcases hp with rfl | rfl | rfl | rfl | rfl <;> omega
  have h5 : 0 ≤ c.toInt / p' - 1 := by rw [← ed]; exact Int.ediv_nonneg (by omega) (by omega)
  rw [es, Int.tdiv_eq_ediv_of_nonneg (by omega : 0 ≤ c.toInt - p'), ed, Int.tdiv_eq_ediv_of_nonneg h5]
  omega
theorem no_oldP {z : Int64} {σ : XS9} {h : XH} {b : Nat} (hb : b = 7000 ∨ b = 8000) (hf : σ b 20 = nI 1) (hfr : ∀ r, 7000 ≤ r → r < 9000 → h r = none) {n : Nat} (hn : σ b 21 = nI n) (hn9 : n < 60) : setM z σ h (b + 100 + n) = none := by
  obtain ⟨i, e⟩ : ∃ i, b + 100 + n = b + i := ⟨b + 100 + n - b, by omega⟩
  have k9 : cn (ctl σ b 21) = n := by rw [ct_b hb (by omega), hn, cn_nI (by omega)]
  refine (setM_no ?_).trans (hfr _ (by omega) (by omega))
  rw [e, lq_B hb (fl1 hf) (by omega)]
  unfold lyB
  rw [k9, if_neg (by omega)]
  rw [if_pos (by omega), if_neg (by omega)]
theorem no_oldH {z : Int64} {σ : XS9} {h : XH} {b : Nat} (hb : b = 7000 ∨ b = 8000) (hf : σ b 20 = nI 1) (hfr : ∀ r, 7000 ≤ r → r < 9000 → h r = none) {n : Nat} (hn : σ b 22 = nI n) (hn9 : n < 60) : setM z σ h (b + 200 + n) = none := by
  obtain ⟨i, e⟩ : ∃ i, b + 200 + n = b + i := ⟨b + 200 + n - b, by omega⟩
  have k9 : cn (ctl σ b 22) = n := by rw [ct_b hb (by omega), hn, cn_nI (by omega)]
  refine (setM_no ?_).trans (hfr _ (by omega) (by omega))
  rw [e, lq_B hb (fl1 hf) (by omega)]
  unfold lyB
  rw [k9, if_neg (by omega)]
  rw [if_neg (by omega), if_pos (by omega), if_neg (by omega)]
theorem no_wsh {z : Int64} {σ : XS9} {h : XH} {b : Nat} (hb : b = 7000 ∨ b = 8000) (hf : σ b 20 = nI 1) (hfr : ∀ r, 7000 ≤ r → r < 9000 → h r = none) {n : Nat} (hn : σ b 23 = nI n) (hn9 : n < 199) : setM z σ h (b + 500 + (n + 1)) = none := by
  obtain ⟨i, e⟩ : ∃ i, b + 500 + (n + 1) = b + i := ⟨b + 500 + (n + 1) - b, by omega⟩
  have k9 : cn (ctl σ b 23) = n := by rw [ct_b hb (by omega), hn, cn_nI (by omega)]
  refine (setM_no ?_).trans (hfr _ (by omega) (by omega))
  rw [e, lq_B hb (fl1 hf) (by omega)]
  unfold lyB
  rw [k9, if_neg (by omega)]
  rw [if_neg (by omega), if_neg (by omega), if_pos (by omega), if_neg (by omega)]
theorem no_hwa {z : Int64} {σ : XS9} {h : XH} {b : Nat} (hb : b = 7000 ∨ b = 8000) (hf : σ b 20 = nI 1) (hfr : ∀ r, 7000 ≤ r → r < 9000 → h r = none) {n : Nat} (hn : σ b 24 = nI n) (hn9 : n < 199) : setM z σ h (b + 700 + (n + 1)) = none := by
  obtain ⟨i, e⟩ : ∃ i, b + 700 + (n + 1) = b + i := ⟨b + 700 + (n + 1) - b, by omega⟩
  have k9 : cn (ctl σ b 24) = n := by rw [ct_b hb (by omega), hn, cn_nI (by omega)]
  refine (setM_no ?_).trans (hfr _ (by omega) (by omega))
  rw [e, lq_B hb (fl1 hf) (by omega)]
  unfold lyB
  rw [k9, if_neg (by omega)]
  rw [if_neg (by omega), if_neg (by omega), if_neg (by omega), if_pos (by omega), if_neg (by omega)]
