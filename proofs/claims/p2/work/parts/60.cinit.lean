/-! ===== the reference: a choice is made ===== -/
theorem lyQ_9 {z : Int64} {C C' : XS9} {r : Nat} {s : Nat → Int32} (h1 : ∀ q i, q ≠ 9000 → C q i = C' q i) (h2 : r < 9000 ∨ 9010 ≤ r) : lyQ z C r s = lyQ z C' r s := by
  have e1 : ∀ i, C 5001 i = C' 5001 i := fun i => h1 _ _ (by omega)
  have e2 : ∀ i, C 5002 i = C' 5002 i := fun i => h1 _ _ (by omega)
  have e3 : ∀ i, C 5003 i = C' 5003 i := fun i => h1 _ _ (by omega)
  have e4 : ∀ i, C 5004 i = C' 5004 i := fun i => h1 _ _ (by omega)
  have e7 : ∀ i, C 7000 i = C' 7000 i := fun i => h1 _ _ (by omega)
  have e8 : ∀ i, C 8000 i = C' 8000 i := fun i => h1 _ _ (by omega)
  have er : ∀ i, C r i = C' r i := fun i => h1 _ _ (by omega)
  by_cases h3 : r < 20000
  · have ep : ∀ i, C (5030 + (r - 10000) / 20) i = C' (5030 + (r - 10000) / 20) i := fun i => h1 _ _ (by omega)
    rcases h2 with h2 | h2
    · unfold lyQ lyB nmS
      simp only [e1, e2, e3, e4, e7, e8, er, if_pos h2]
    · unfold lyQ lyB nmS
      simp only [e1, e2, e3, e4, e7, e8, er, ep, if_neg (show ¬ r < 9010 by omega)]
  · by_cases h4 : r < 20010
    · rw [lq_tmp (by omega), lq_tmp (by omega), er, er]
    · unfold lyQ
      rw [if_neg (by omega), if_neg (by omega), if_neg (by omega), if_neg (by omega), if_neg (by omega), if_neg (by omega), if_neg (by omega), if_neg (by omega), if_neg (by omega), if_neg (by omega), if_neg (by omega), if_neg (by omega), if_neg (by omega), if_neg (by omega), if_neg (by omega), if_neg (by omega), if_neg (by omega), if_neg (by omega), if_neg (by omega), if_neg (by omega), if_neg (by omega), if_neg (by omega), if_neg (by omega), if_neg (by omega), if_neg (by omega), if_neg (by omega), if_neg (by omega), if_neg (by omega), if_neg (by omega), if_neg (by omega), if_neg (by omega), if_neg (by omega), if_neg (by omega), if_neg (by omega), if_neg (by omega), if_neg (by omega), if_neg (by omega), if_neg (by omega), if_neg (by omega), if_neg (by omega)]
def g_cho0 (σ : XS9) : XS9 := fun q => if q = 9000 then (fun i => if i = 20 then 1 else 0) else if q = 9001 ∨ q = 9002 ∨ q = 9003 ∨ q = 9004 ∨ q = 9005 then (fun _ => 0) else σ q
theorem fr_cho0 {σ : XS9} {q : Nat} (h : q < 9000 ∨ 9005 < q) : g_cho0 σ q = σ q := by
  unfold g_cho0
  rw [if_neg (by omega), if_neg (by omega)]
abbrev cho_F : Nat → Value := fun k => match k with | 0 => .ref 9001 | 1 => .ref 9002 | 2 => .ref 9003 | 3 => .ref 9004 | 4 => .ref 9005 | 6 => .ref 5000 | k => .int (if k = 20 then 1 else 0)
theorem new_cho {z : Int64} {σ : XS9} {h : XH} : xx_up (xx_up (xx_up (xx_up (xx_up (xx_up (setM z σ h) 9001 (100, 6, fun _ => .int 0)) 9002 (100, 6, fun _ => .int 0)) 9003 (100, 64, fun _ => .int 0)) 9004 (100, 5, fun _ => .int 0)) 9005 (100, 20, fun _ => .int 0)) 9000 (16, 7, cho_F) = setM z (g_cho0 σ) h := by
  funext q
  have hc : ctl (g_cho0 σ) 9000 20 = 1 := rfl
  have hf : ¬ g_cho0 σ 9000 20 = 0 := by show ¬ (1 : Int32) = 0; decide
  unfold xx_up
  by_cases a0 : q = 9000
  · rw [if_pos a0, a0, lm_9000 hf]
    rfl
  rw [if_neg a0]
  by_cases a5 : q = 9005
  · rw [if_pos a5, a5]; exact (lm_9005 hf).symm
  rw [if_neg a5]
  by_cases a4 : q = 9004
  · rw [if_pos a4, a4]; exact (lm_9004 hf).symm
  rw [if_neg a4]
  by_cases a3 : q = 9003
  · rw [if_pos a3, a3]; exact (lm_9003 hf).symm
  rw [if_neg a3]
  by_cases a2 : q = 9002
  · rw [if_pos a2, a2]; exact (lm_9002 hf).symm
  rw [if_neg a2]
  by_cases a1 : q = 9001
  · rw [if_pos a1, a1]; exact (lm_9001 hf).symm
  rw [if_neg a1]
  unfold setM
  by_cases hr : q < 9000 ∨ 9010 ≤ q
  · rw [lyQ_9 (C := ctl (g_cho0 σ)) (C' := ctl σ) (fun r i e => by
      unfold ctl
      by_cases er : r < 9000 ∨ 9005 < r
      · rw [fr_cho0 er]
      · have : isCtl r i = false := notCtl (by omega) i
        simp only [this]
        rfl) hr, fr_cho0 (by omega)]
  · have e1 : ∀ C s, lyQ z C q s = none := fun C s => by
      have e2 : q - 9000 ≠ 0 ∧ q - 9000 ≠ 1 ∧ q - 9000 ≠ 2 ∧ q - 9000 ≠ 3 ∧ q - 9000 ≠ 4 ∧ q - 9000 ≠ 5 := by omega
      unfold lyQ
      rw [if_neg (by omega), if_neg (by omega), if_neg (by omega), if_neg (by omega), if_neg (by omega), if_neg (by omega), if_neg (by omega), if_neg (by omega), if_neg (by omega), if_neg (by omega), if_neg (by omega), if_neg (by omega), if_neg (by omega), if_neg (by omega), if_pos (by omega)]
      split
      · rfl
      · split <;> first | rfl | omega
    rw [e1, e1]
theorem setM_c0 {z : Int64} {σ : XS9} {h : XH} {r : Nat} (h0 : σ 9000 20 = 0) (hr : 9000 ≤ r ∧ r < 9010) : setM z σ h r = h r := by
  refine setM_no ?_
  have e : ctl σ 9000 20 = 0 := h0
  unfold lyQ
  rw [if_neg (by omega), if_neg (by omega), if_neg (by omega), if_neg (by omega), if_neg (by omega), if_neg (by omega), if_neg (by omega), if_neg (by omega), if_neg (by omega), if_neg (by omega), if_neg (by omega), if_neg (by omega), if_neg (by omega), if_neg (by omega), if_pos (by omega), e, if_pos rfl]
theorem setM_over {z : Int64} {σ : XS9} {h : XH} {r : Nat} {c c2 : XC} (h1 : 5000 ≤ r ∧ r < 20010) (e : lyQ z (ctl σ) r (σ r) = some c2) : setM z σ (xx_up h r c) = setM z σ h := by
  funext q
  by_cases eq : q = r
  · subst eq
    rw [setM_of h1 e, setM_of h1 e]
  · unfold setM
    rw [xx_up_ne eq]
theorem def0 : (fun _ => defaultValue (newarray.typeOf .int) : Nat → Value) = fun _ => Value.int 0 := rfl
theorem defZ0 : (fun _ => defaultValue (newarray.typeOf .boolean) : Nat → Value) = fun _ => Value.int 0 := rfl
