/-! ===== the reference: a round of the log ===== -/
theorem fx_Kclose_2 {σ : XS9} {b R B g w n : Nat} {s0 : XS9} {q : Nat} (h : q ≠ b + 500 + g ∧ q ≠ b + 5) : x_Kclose_2 σ b R B g w n s0 q = s0 q := xit_keep (fun s : XS9 => s q) (fun i s => by (try dsimp only); (repeat' split) <;> first | rfl | rw [u2_ne h.2, u2_ne h.1]) _ _ _
theorem fx_Kclose_65 {σ : XS9} {b R B g w n : Nat} {s0 : XS9} {q : Nat} (h : q ≠ b + 3) : x_Kclose_65 σ b R B g w n s0 q = s0 q := xit_keep (fun s : XS9 => s q) (fun i s => by (try dsimp only); (repeat' split) <;> first | rfl | rw [u2_ne h]) _ _ _
theorem fx_Kclose_169 {σ : XS9} {x : Int32} {b R B g w n : Nat} {s0 : XS9 × Int32} {q : Nat} (h : q ≠ b + 1 ∧ q ≠ b + 2) : (x_Kclose_169 σ x b R B g w n s0).1 q = s0.1 q := xit_keep (fun s : XS9 × Int32 => s.1 q) (fun i s => by (try dsimp only); (repeat' split) <;> first | (rw [fx_Kclose_259 h.2, fx_Kclose_181 h.2]; done) | (dsimp only; rw [u2_ne h.1, fx_Kclose_259 h.2, fx_Kclose_181 h.2]; done) | (dsimp only; rw [fx_Kclose_259 h.2, fx_Kclose_181 h.2])) _ _ _
theorem fr_Kclose {σ : XS9} {x : Int32} {b R B g w n q : Nat} (hg : g < 199) (hw : w < 199) (hn : n < 60) (h : q < b ∨ b + 1000 ≤ q) : g_Kclose σ x b R B g w n q = σ q := by
  unfold g_Kclose
  (repeat' split) <;> (rw [u2_ne (by omega), uR_ne (by omega), u2_ne (by omega), uR_ne (by omega), u2_ne (by omega), u2_ne (by omega), uR_ne (by omega), fx_Kclose_169 (by omega)]; dsimp only; rw [u2_ne (by omega), uR_ne (by omega), fx_Kclose_65 (by omega), fx_Kclose_2 (by omega)])
theorem lyQ_Rn {z : Int64} {C C' : XS9} {r K : Nat} {s : Nat → Int32} (h1 : ∀ q i, q ≠ 5003 → C q i = C' q i) (h2 : cn (C 5003 900) = K) (h3 : cn (C' 5003 900) = K + 1) (hr : r ≠ 5003 ∧ r ≠ 5200 + K ∧ r ≠ 6000 + K ∧ r ≠ 6100 + K ∧ r ≠ 6200 + K ∧ r ≠ 6300 + K) : lyQ z C r s = lyQ z C' r s := by
  have e1 : ∀ i, C 5001 i = C' 5001 i := fun i => h1 _ _ (by omega)
  have e2 : ∀ i, C 5002 i = C' 5002 i := fun i => h1 _ _ (by omega)
  have e4 : ∀ i, C 5004 i = C' 5004 i := fun i => h1 _ _ (by omega)
  have e7 : ∀ i, C 7000 i = C' 7000 i := fun i => h1 _ _ (by omega)
  have e8 : ∀ i, C 8000 i = C' 8000 i := fun i => h1 _ _ (by omega)
  have e9 : ∀ i, C 9000 i = C' 9000 i := fun i => h1 _ _ (by omega)
  have er : ∀ i, C r i = C' r i := fun i => h1 _ _ hr.1
  unfold lyQ lyB nmS
  by_cases u0 : r < 5010
  · rw [if_pos u0, if_pos u0]
    split <;> first | rfl | (exfalso; omega) | simp only [e1, e2, e4, e7]
  rw [if_neg u0, if_neg u0]
  by_cases u1 : r < 5200
  · simp only [e1, e2, er, if_pos u1]
  by_cases u2 : 6400 ≤ r
  · by_cases u3 : r < 20000
    · have ep : ∀ i, C (5030 + (r - 10000) / 20) i = C' (5030 + (r - 10000) / 20) i := fun i => h1 _ _ (by omega)
      simp only [e1, e2, e4, e7, e8, e9, er, ep, if_neg u1, if_neg (show ¬ r < 5300 by omega), if_neg (show ¬ r < 6000 by omega), if_neg (show ¬ r < 6100 by omega), if_neg (show ¬ r < 6200 by omega), if_neg (show ¬ r < 6300 by omega), if_neg (show ¬ r < 6400 by omega)]
    · simp only [e1, e2, e4, e7, e8, e9, er, if_neg u1, if_neg (show ¬ r < 5300 by omega), if_neg (show ¬ r < 6000 by omega), if_neg (show ¬ r < 6100 by omega), if_neg (show ¬ r < 6200 by omega), if_neg (show ¬ r < 6300 by omega), if_neg (show ¬ r < 6400 by omega), if_neg (show ¬ r < 10000 by omega), if_neg (show ¬ r < 10200 by omega), if_neg (show ¬ r < 10300 by omega), if_neg u3]
  have n1 : ¬ r < 5020 := by omega
  have n2 : ¬ r < 5030 := by omega
  have n3 : ¬ r < 5040 := by omega
  rw [if_neg n1, if_neg n1, if_neg n2, if_neg n2, if_neg n3, if_neg n3, if_neg u1, if_neg u1]
  have v : ∀ m, r ≠ m + K → (r - m < cn (C 5003 900) ↔ r - m < cn (C' 5003 900)) ∨ r < m := fun m h => by
    rw [h2, h3]
    omega
  rw [h2, h3, e1]
  by_cases w1 : r < 5300
  · simp only [if_pos w1, show (r - 5200 < K) = (r - 5200 < K + 1) from propext (by omega)]
  by_cases w2 : r < 6000
  · simp only [if_neg w1, if_pos w2]
  by_cases w3 : r < 6100
  · simp only [if_neg w1, if_neg w2, if_pos w3, show (r - 6000 < K) = (r - 6000 < K + 1) from propext (by omega)]
  by_cases w4 : r < 6200
  · simp only [if_neg w1, if_neg w2, if_neg w3, if_pos w4, show (r - 6100 < K) = (r - 6100 < K + 1) from propext (by omega)]
  by_cases w5 : r < 6300
  · simp only [if_neg w1, if_neg w2, if_neg w3, if_neg w4, if_pos w5, show (r - 6200 < K) = (r - 6200 < K + 1) from propext (by omega)]
  · simp only [if_neg w1, if_neg w2, if_neg w3, if_neg w4, if_neg w5, if_pos (show r < 6400 by omega), show (r - 6300 < K) = (r - 6300 < K + 1) from propext (by omega)]
theorem noq_rnd {z : Int64} {σ : XS9} {K : Nat} (hK : σ 5003 900 = nI K) (hK60 : K < 60) : lyQ z (ctl σ) (5200 + K) (σ (5200 + K)) = none ∧ lyQ z (ctl σ) (6000 + K) (σ (6000 + K)) = none ∧ lyQ z (ctl σ) (6100 + K) (σ (6100 + K)) = none ∧ lyQ z (ctl σ) (6200 + K) (σ (6200 + K)) = none ∧ lyQ z (ctl σ) (6300 + K) (σ (6300 + K)) = none := by
  have e := ct1 (i := 900) rfl hK (by omega)
  refine ⟨?_, ?_, ?_, ?_, ?_⟩
  · unfold lyQ; rw [if_neg (by omega), if_neg (by omega), if_neg (by omega), if_neg (by omega), if_neg (by omega), if_pos (by omega), e, if_neg (by omega)]
  · unfold lyQ; rw [if_neg (by omega), if_neg (by omega), if_neg (by omega), if_neg (by omega), if_neg (by omega), if_neg (by omega), if_neg (by omega), if_pos (by omega), e, if_neg (by omega)]
  · unfold lyQ; rw [if_neg (by omega), if_neg (by omega), if_neg (by omega), if_neg (by omega), if_neg (by omega), if_neg (by omega), if_neg (by omega), if_neg (by omega), if_pos (by omega), e, if_neg (by omega)]
  · unfold lyQ; rw [if_neg (by omega), if_neg (by omega), if_neg (by omega), if_neg (by omega), if_neg (by omega), if_neg (by omega), if_neg (by omega), if_neg (by omega), if_neg (by omega), if_pos (by omega), e, if_neg (by omega)]
  · unfold lyQ; rw [if_neg (by omega), if_neg (by omega), if_neg (by omega), if_neg (by omega), if_neg (by omega), if_neg (by omega), if_neg (by omega), if_neg (by omega), if_neg (by omega), if_neg (by omega), if_pos (by omega), e, if_neg (by omega)]
def g_rnd (σ : XS9) (K : Nat) (t : Int32) (f1 f2 f3 f4 : Nat → Int32) : XS9 := u2 (uR (uR (uR (uR (uR σ (5200 + K) (fun k => if k = 0 then t else 0)) (6000 + K) f1) (6100 + K) f2) (6200 + K) f3) (6300 + K) f4) 5003 900 (nI (K + 1))
theorem fr_rnd {σ : XS9} {K q : Nat} {t : Int32} {f1 f2 f3 f4 : Nat → Int32} (h : q ≠ 5003 ∧ q ≠ 5200 + K ∧ q ≠ 6000 + K ∧ q ≠ 6100 + K ∧ q ≠ 6200 + K ∧ q ≠ 6300 + K) : g_rnd σ K t f1 f2 f3 f4 q = σ q := by
  obtain ⟨a1, a2, a3, a4, a5, a6⟩ := h
  unfold g_rnd
  rw [u2_ne a1, uR_ne a6, uR_ne a5, uR_ne a4, uR_ne a3, uR_ne a2]
theorem rnd_n {σ : XS9} {K : Nat} {t : Int32} {f1 f2 f3 f4 : Nat → Int32} : g_rnd σ K t f1 f2 f3 f4 5003 900 = nI (K + 1) := by unfold g_rnd; exact u2_v
theorem rnd_p {σ : XS9} {K : Nat} {t : Int32} {f1 f2 f3 f4 : Nat → Int32} (hK : K < 60) : g_rnd σ K t f1 f2 f3 f4 (6000 + K) = f1 ∧ g_rnd σ K t f1 f2 f3 f4 (6100 + K) = f2 ∧ g_rnd σ K t f1 f2 f3 f4 (6200 + K) = f3 ∧ g_rnd σ K t f1 f2 f3 f4 (6300 + K) = f4 ∧ g_rnd σ K t f1 f2 f3 f4 (5200 + K) = fun k => if k = 0 then t else 0 := by
  unfold g_rnd
  refine ⟨?_, ?_, ?_, ?_, ?_⟩
  · rw [u2_ne (by omega), uR_ne (by omega), uR_ne (by omega), uR_ne (by omega), uR_eq]
  · rw [u2_ne (by omega), uR_ne (by omega), uR_ne (by omega), uR_eq]
  · rw [u2_ne (by omega), uR_ne (by omega), uR_eq]
  · rw [u2_ne (by omega), uR_eq]
  · rw [u2_ne (by omega), uR_ne (by omega), uR_ne (by omega), uR_ne (by omega), uR_ne (by omega), uR_eq]
abbrev rndF (K : Nat) (t : Int32) : Nat → Value := fun k => if k = 0 then .int t else .ref (5200 + K + 700 + 100 * k)
theorem add_rnd {z : Int64} {σ : XS9} {h : XH} {K R : Nat} {t : Int32} {f1 f2 f3 f4 : Nat → Int32} (hR : σ 5001 900 = nI R) (hR5 : R ≤ 5) (hK : σ 5003 900 = nI K) (hK60 : K < 60) :
    xx_up (xx_up (xx_up (xx_up (xx_up (xx_up (setM z σ h) (6000 + K) (100, R, fun k => .int (f1 k))) (6100 + K) (100, 6, fun k => .int (f2 k))) (6300 + K) (101, 6, fun k => .int (f4 k))) (6200 + K) (100, 6, fun k => .int (f3 k))) (5200 + K) (19, 5, rndF K t)) 5003 (206, K + 1, fun k => .ref (5200 + k)) = setM z (g_rnd σ K t f1 f2 f3 f4) h := by
  obtain ⟨r1, r2, r3, r4, r5⟩ := rnd_p (σ := σ) (t := t) (f1 := f1) (f2 := f2) (f3 := f3) (f4 := f4) hK60
  have hK' : g_rnd σ K t f1 f2 f3 f4 5003 900 = nI (K + 1) := rnd_n
  have hR' : g_rnd σ K t f1 f2 f3 f4 5001 900 = nI R := by rw [fr_rnd (by omega)]; exact hR
  funext q
  unfold xx_up
  by_cases a0 : q = 5003
  · rw [if_pos a0, a0, lm_5003 hK' (by omega)]
  rw [if_neg a0]
  by_cases a1 : q = 5200 + K
  · rw [if_pos a1, a1, lm_rnd hK' (by omega) (by omega), r5]
    rfl
  rw [if_neg a1]
  by_cases a4 : q = 6200 + K
  · rw [if_pos a4, a4, lm_rhe hK' (by omega) (by omega), r3]
  rw [if_neg a4]
  by_cases a5 : q = 6300 + K
  · rw [if_pos a5, a5, lm_rwa hK' (by omega) (by omega), r4]
  rw [if_neg a5]
  by_cases a3 : q = 6100 + K
  · rw [if_pos a3, a3, lm_rwi hK' (by omega) (by omega), r2]
  rw [if_neg a3]
  by_cases a2 : q = 6000 + K
  · rw [if_pos a2, a2, lm_rpr hR' hR5 hK' (by omega) (by omega), r1]
  rw [if_neg a2]
  unfold setM
  rw [fr_rnd ⟨a0, a1, a2, a3, a4, a5⟩, lyQ_Rn (C := ctl σ) (C' := ctl (g_rnd σ K t f1 f2 f3 f4)) (K := K) (fun r i e => by
    unfold ctl
    by_cases e1 : r = 5200 + K ∨ r = 6000 + K ∨ r = 6100 + K ∨ r = 6200 + K ∨ r = 6300 + K
    · rw [show isCtl r i = false from notCtl (by omega) i]
      rfl
    · rw [fr_rnd (by omega)]) (ct1 rfl hK (by omega)) (ct1 rfl hK' (by omega)) ⟨a0, a1, a2, a3, a4, a5⟩]
