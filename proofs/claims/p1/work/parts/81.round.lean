section
/-! ===== the reference: a round of the log ===== -/
theorem fx_Kclose_2 {σ : XS9} {b R B g w n : Nat} {s0 : XS9} {q : Nat} (h : q ≠ b + 500 + g ∧ q ≠ b + 5) : x_Kclose_2 σ b R B g w n s0 q = s0 q := xit_keep (fun s : XS9 => s q) (fun i s => by (try dsimp only); (repeat' split) <;> first | rfl | rw [u2_ne h.2, u2_ne h.1]) _ _ _
theorem fx_Kclose_65 {σ : XS9} {b R B g w n : Nat} {s0 : XS9} {q : Nat} (h : q ≠ b + 3) : x_Kclose_65 σ b R B g w n s0 q = s0 q := xit_keep (fun s : XS9 => s q) (fun i s => by (try dsimp only); (repeat' split) <;> first | rfl | rw [u2_ne h]) _ _ _
theorem fx_Kclose_169 {σ : XS9} {x : Int32} {b R B g w n : Nat} {s0 : XS9 × Int32} {q : Nat} (h : q ≠ b + 1 ∧ q ≠ b + 2) : (x_Kclose_169 σ x b R B g w n s0).1 q = s0.1 q := xit_keep (fun s : XS9 × Int32 => s.1 q) (fun i s => by (try dsimp only); (repeat' split) <;> first | (rw [fx_Kclose_259 h.2, fx_Kclose_181 h.2]; done) | (dsimp only; rw [u2_ne h.1, fx_Kclose_259 h.2, fx_Kclose_181 h.2]; done) | (dsimp only; rw [fx_Kclose_259 h.2, fx_Kclose_181 h.2])) _ _ _
theorem fr_Kclose {σ : XS9} {x : Int32} {b R B g w n q : Nat} (hg : g < 199) (hw : w < 199) (hn : n < 60) (h : q < b ∨ b + 1000 ≤ q) : g_Kclose σ x b R B g w n q = σ q := by
  unfold g_Kclose
  (repeat' split) <;> (rw [u2_ne (by omega), uR_ne (by omega), u2_ne (by omega), uR_ne (by omega), u2_ne (by omega), u2_ne (by omega), uR_ne (by omega), fx_Kclose_169 (by omega)]; dsimp only; rw [u2_ne (by omega), uR_ne (by omega), fx_Kclose_65 (by omega), fx_Kclose_2 (by omega)])
theorem lyQ_Rn {z : Int64} {C C' : XS9} {r K : Nat} {s : Nat → Int32} (h1 : ∀ q i, q ≠ 5003 → C q i = C' q i) (h2 : cn (C 5003 900) = K) (h3 : cn (C' 5003 900) = K + 1) (hr : r ≠ 5003 ∧ r ≠ 5200 + K ∧ r ≠ 6000 + K ∧ r ≠ 6100 + K ∧ r ≠ 6200 + K ∧ r ≠ 6300 + K) : lyQ z C r s = lyQ z C' r s := by
  have e1 : ∀ i, C 5001 i = C' 5001 i := fun i => h1 _ _ (by omega)
  have e2 : ∀ i, C 5002 i = C' 5002 i := fun i => h1 _ _ (by omega)
  have e4 : ∀ i, C 5004 i = C' 5004 i := fun i => h1 _ _ (by omega)
  have e7 : ∀ i, C 7000 i = C' 7000 i := fun i => h1 _ _ (by omega)
  have e8 : ∀ i, C 8000 i = C' 8000 i := fun i => h1 _ _ (by omega)
  have e9 : ∀ i, C 9000 i = C' 9000 i := fun i => h1 _ _ (by omega)
  have er : ∀ i, C r i = C' r i := fun i => h1 _ _ hr.1
  unfold lyQ lyB nmS
  by_cases u0 : r < 5010
  · rw [if_pos u0, if_pos u0]
    split <;> first | rfl | (exfalso; omega) | simp only [e1, e2, e4, e7]
  rw [if_neg u0, if_neg u0]
  by_cases u1 : r < 5200
  · simp only [e1, e2, er, if_pos u1]
  by_cases u2 : 6400 ≤ r
  · by_cases u3 : r < 20000
    · have ep : ∀ i, C (5030 + (r - 10000) / 20) i = C' (5030 + (r - 10000) / 20) i := fun i => h1 _ _ (by omega)
      simp only [e1, e2, e4, e7, e8, e9, er, ep, if_neg u1, if_neg (show ¬ r < 5300 by omega), if_neg (show ¬ r < 6000 by omega), if_neg (show ¬ r < 6100 by omega), if_neg (show ¬ r < 6200 by omega), if_neg (show ¬ r < 6300 by omega), if_neg (show ¬ r < 6400 by omega)]
    · simp only [e1, e2, e4, e7, e8, e9, er, if_neg u1, if_neg (show ¬ r < 5300 by omega), if_neg (show ¬ r < 6000 by omega), if_neg (show ¬ r < 6100 by omega), if_neg (show ¬ r < 6200 by omega), if_neg (show ¬ r < 6300 by omega), if_neg (show ¬ r < 6400 by omega), if_neg (show ¬ r < 10000 by omega), if_neg (show ¬ r < 10200 by omega), if_neg (show ¬ r < 10300 by omega), if_neg u3]
  have n1 : ¬ r < 5020 := by omega
  have n2 : ¬ r < 5030 := by omega
  have n3 : ¬ r < 5040 := by omega
  rw [if_neg n1, if_neg n1, if_neg n2, if_neg n2, if_neg n3, if_neg n3, if_neg u1, if_neg u1]
  have v : ∀ m, r ≠ m + K → (r - m < cn (C 5003 900) ↔ r - m < cn (C' 5003 900)) ∨ r < m := fun m h => by
    rw [h2, h3]
    omega
  rw [h2, h3, e1]
  by_cases w1 : r < 5300
  · simp only [if_pos w1, show (r - 5200 < K) = (r - 5200 < K + 1) from propext (by omega)]
  by_cases w2 : r < 6000
  · simp only [if_neg w1, if_pos w2]
  by_cases w3 : r < 6100
  · simp only [if_neg w1, if_neg w2, if_pos w3, show (r - 6000 < K) = (r - 6000 < K + 1) from propext (by omega)]
  by_cases w4 : r < 6200
  · simp only [if_neg w1, if_neg w2, if_neg w3, if_pos w4, show (r - 6100 < K) = (r - 6100 < K + 1) from propext (by omega)]
  by_cases w5 : r < 6300
  · simp only [if_neg w1, if_neg w2, if_neg w3, if_neg w4, if_pos w5, show (r - 6200 < K) = (r - 6200 < K + 1) from propext (by omega)]
  · simp only [if_neg w1, if_neg w2, if_neg w3, if_neg w4, if_neg w5, if_pos (show r < 6400 by omega), show (r - 6300 < K) = (r - 6300 < K + 1) from propext (by omega)]
theorem noq_rnd {z : Int64} {σ : XS9} {K : Nat} (hK : σ 5003 900 = nI K) (hK60 : K < 60) : lyQ z (ctl σ) (5200 + K) (σ (5200 + K)) = none ∧ lyQ z (ctl σ) (6000 + K) (σ (6000 + K)) = none ∧ lyQ z (ctl σ) (6100 + K) (σ (6100 + K)) = none ∧ lyQ z (ctl σ) (6200 + K) (σ (6200 + K)) = none ∧ lyQ z (ctl σ) (6300 + K) (σ (6300 + K)) = none := by
  have e := ct1 (i := 900) rfl hK (by omega)
  refine ⟨?_, ?_, ?_, ?_, ?_⟩
  · unfold lyQ; rw [if_neg (by omega), if_neg (by omega), if_neg (by omega), if_neg (by omega), if_neg (by omega), if_pos (by omega), e, if_neg (by omega)]
  · unfold lyQ; rw [if_neg (by omega), if_neg (by omega), if_neg (by omega), if_neg (by omega), if_neg (by omega), if_neg (by omega), if_neg (by omega), if_pos (by omega), e, if_neg (by omega)]
  · unfold lyQ; rw [if_neg (by omega), if_neg (by omega), if_neg (by omega), if_neg (by omega), if_neg (by omega), if_neg (by omega), if_neg (by omega), if_neg (by omega), if_pos (by omega), e, if_neg (by omega)]
  · unfold lyQ; rw [if_neg (by omega), if_neg (by omega), if_neg (by omega), if_neg (by omega), if_neg (by omega), if_neg (by omega), if_neg (by omega), if_neg (by omega), if_neg (by omega), if_pos (by omega), e, if_neg (by omega)]
  · unfold lyQ; rw [if_neg (by omega), if_neg (by omega), if_neg (by omega), if_neg (by omega), if_neg (by omega), if_neg (by omega), if_neg (by omega), if_neg (by omega), if_neg (by omega), if_neg (by omega), if_pos (by omega), e, if_neg (by omega)]
def g_rnd (σ : XS9) (K : Nat) (t : Int32) (f1 f2 f3 f4 : Nat → Int32) : XS9 := u2 (uR (uR (uR (uR (uR σ (5200 + K) (fun k => if k = 0 then t else 0)) (6000 + K) f1) (6100 + K) f2) (6200 + K) f3) (6300 + K) f4) 5003 900 (nI (K + 1))
theorem fr_rnd {σ : XS9} {K q : Nat} {t : Int32} {f1 f2 f3 f4 : Nat → Int32} (h : q ≠ 5003 ∧ q ≠ 5200 + K ∧ q ≠ 6000 + K ∧ q ≠ 6100 + K ∧ q ≠ 6200 + K ∧ q ≠ 6300 + K) : g_rnd σ K t f1 f2 f3 f4 q = σ q := by
  obtain ⟨a1, a2, a3, a4, a5, a6⟩ := h
  unfold g_rnd
  rw [u2_ne a1, uR_ne a6, uR_ne a5, uR_ne a4, uR_ne a3, uR_ne a2]
theorem rnd_n {σ : XS9} {K : Nat} {t : Int32} {f1 f2 f3 f4 : Nat → Int32} : g_rnd σ K t f1 f2 f3 f4 5003 900 = nI (K + 1) := by unfold g_rnd; exact u2_v
theorem rnd_p {σ : XS9} {K : Nat} {t : Int32} {f1 f2 f3 f4 : Nat → Int32} (hK : K < 60) : g_rnd σ K t f1 f2 f3 f4 (6000 + K) = f1 ∧ g_rnd σ K t f1 f2 f3 f4 (6100 + K) = f2 ∧ g_rnd σ K t f1 f2 f3 f4 (6200 + K) = f3 ∧ g_rnd σ K t f1 f2 f3 f4 (6300 + K) = f4 ∧ g_rnd σ K t f1 f2 f3 f4 (5200 + K) = fun k => if k = 0 then t else 0 := by
  unfold g_rnd
  refine ⟨?_, ?_, ?_, ?_, ?_⟩
  · rw [u2_ne (by omega), uR_ne (by omega), uR_ne (by omega), uR_ne (by omega), uR_eq]
  · rw [u2_ne (by omega), uR_ne (by omega), uR_ne (by omega), uR_eq]
  · rw [u2_ne (by omega), uR_ne (by omega), uR_eq]
  · rw [u2_ne (by omega), uR_eq]
  · rw [u2_ne (by omega), uR_ne (by omega), uR_ne (by omega), uR_ne (by omega), uR_ne (by omega), uR_eq]
abbrev rndF (K : Nat) (t : Int32) : Nat → Value := fun k => if k = 0 then .int t else .ref (5200 + K + 700 + 100 * k)
theorem add_rnd {z : Int64} {σ : XS9} {h : XH} {K R : Nat} {t : Int32} {f1 f2 f3 f4 : Nat → Int32} (hR : σ 5001 900 = nI R) (hR5 : R ≤ 5) (hK : σ 5003 900 = nI K) (hK60 : K < 60) :
    xx_up (xx_up (xx_up (xx_up (xx_up (xx_up (setM z σ h) (6000 + K) (100, R, fun k => .int (f1 k))) (6100 + K) (100, 6, fun k => .int (f2 k))) (6300 + K) (101, 6, fun k => .int (f4 k))) (6200 + K) (100, 6, fun k => .int (f3 k))) (5200 + K) (19, 5, rndF K t)) 5003 (206, K + 1, fun k => .ref (5200 + k)) = setM z (g_rnd σ K t f1 f2 f3 f4) h := by
  obtain ⟨r1, r2, r3, r4, r5⟩ := rnd_p (σ := σ) (t := t) (f1 := f1) (f2 := f2) (f3 := f3) (f4 := f4) hK60
  have hK' : g_rnd σ K t f1 f2 f3 f4 5003 900 = nI (K + 1) := rnd_n
  have hR' : g_rnd σ K t f1 f2 f3 f4 5001 900 = nI R := by rw [fr_rnd (by omega)]; exact hR
  funext q
  unfold xx_up
  by_cases a0 : q = 5003
  · rw [if_pos a0, a0, lm_5003 hK' (by omega)]
  rw [if_neg a0]
  by_cases a1 : q = 5200 + K
  · rw [if_pos a1, a1, lm_rnd hK' (by omega) (by omega), r5]
    rfl
  rw [if_neg a1]
  by_cases a4 : q = 6200 + K
  · rw [if_pos a4, a4, lm_rhe hK' (by omega) (by omega), r3]
  rw [if_neg a4]
  by_cases a5 : q = 6300 + K
  · rw [if_pos a5, a5, lm_rwa hK' (by omega) (by omega), r4]
  rw [if_neg a5]
  by_cases a3 : q = 6100 + K
  · rw [if_pos a3, a3, lm_rwi hK' (by omega) (by omega), r2]
  rw [if_neg a3]
  by_cases a2 : q = 6000 + K
  · rw [if_pos a2, a2, lm_rpr hR' hR5 hK' (by omega) (by omega), r1]
  rw [if_neg a2]
  unfold setM
  rw [fr_rnd ⟨a0, a1, a2, a3, a4, a5⟩, lyQ_Rn (C := ctl σ) (C' := ctl (g_rnd σ K t f1 f2 f3 f4)) (K := K) (fun r i e => by
    unfold ctl
    by_cases e1 : r = 5200 + K ∨ r = 6000 + K ∨ r = 6100 + K ∨ r = 6200 + K ∨ r = 6300 + K
    · rw [show isCtl r i = false from notCtl (by omega) i]
      rfl
    · rw [fr_rnd (by omega)]) (ct1 rfl hK (by omega)) (ct1 rfl hK' (by omega)) ⟨a0, a1, a2, a3, a4, a5⟩]
end
section
/-! ===== the reference: closeOne ===== -/
theorem sw_forV {Y : XY} {kf nf : Nat → Nat} {S : Type} (step : Nat → S → S) (P : Nat → S → Prop) {hd : Nat} {hp : S → XH} {lc : Nat → S → List Value} {N : Nat}
    (hstep : ∀ i s, i < N → P i s → P (i + 1) (step i s) ∧ (SW Y (kf (i + 1)) (nf (i + 1)) (hp (step i s)) hd (lc (i + 1) (step i s)) [] → SW Y (kf i) (nf i) (hp s) hd (lc i s) [])) :
    ∀ (f i : Nat) (s : S), i + f = N → P i s → (P N (xit step f i s) → SW Y (kf N) (nf N) (hp (xit step f i s)) hd (lc N (xit step f i s)) []) → SW Y (kf i) (nf i) (hp s) hd (lc i s) []
  | 0, i, s, e, hP, kk => by
    have e' : i = N := by omega
    subst e'
    exact kk hP
  | f + 1, i, s, e, hP, kk => (hstep i s (by omega) hP).2 (sw_forV step P hstep f (i + 1) (step i s) (by omega) (hstep i s (by omega) hP).1 kk)
theorem Kclose_c {σ : XS9} {x : Int32} {b R B g w n : Nat} (hg : g < 199) (hw : w < 199) (hn : n < 60) : g_Kclose σ x b R B g w n b 20 = σ b 20 ∧ g_Kclose σ x b R B g w n b 25 = σ b 25 ∧ g_Kclose σ x b R B g w n b 21 = nI (n + 1) ∧ g_Kclose σ x b R B g w n b 22 = nI (n + 1) ∧ g_Kclose σ x b R B g w n b 23 = nI (g + 1) ∧ g_Kclose σ x b R B g w n b 24 = nI (w + 1) := by
  have F : ∀ j, x_Kclose_65 σ b R B g w n (x_Kclose_2 σ b R B g w n σ) b j = σ b j := fun j => by rw [fx_Kclose_65 (by omega), fx_Kclose_2 (by omega)]
  unfold g_Kclose
  refine ⟨?_, ?_, ?_, ?_, ?_, ?_⟩ <;> (repeat' split)
  all_goals (first | rw [u2_v] | rw [u2_nj (by omega), uR_ne (by omega), u2_v] | rw [u2_nj (by omega), uR_ne (by omega), u2_nj (by omega), uR_ne (by omega), u2_nj (by omega), u2_v] | (rw [u2_nj (by omega), uR_ne (by omega), u2_nj (by omega), uR_ne (by omega), u2_nj (by omega), u2_nj (by omega), uR_ne (by omega), fx_Kclose_169 (by omega)]; dsimp only; first | rw [u2_v] | rw [u2_nj (by omega), uR_ne (by omega), F]))
def g_clo1 (σ : XS9) (R B K g w n : Nat) : XS9 := g_rnd (g_Kclose σ (σ 5000 4) 7000 R B g w n) K (σ 5000 4) (σ (7000 + 1)) (σ (7000 + 500 + g)) (g_Kclose σ (σ 5000 4) 7000 R B g w n (7000 + 2)) (σ (7000 + 700 + w))
theorem fr_clo1 {σ : XS9} {R B K g w n q : Nat} (hg : g < 199) (hw : w < 199) (hn : n < 60) (hK : K < 60) (h : q ≠ 5003 ∧ q ≠ 5200 + K ∧ q ≠ 6000 + K ∧ q ≠ 6100 + K ∧ q ≠ 6200 + K ∧ q ≠ 6300 + K ∧ (q < 7000 ∨ 8000 ≤ q)) : g_clo1 σ R B K g w n q = σ q := by
  unfold g_clo1
  rw [fr_rnd (by omega), fr_Kclose hg hw hn (by omega)]
theorem clo1_c {σ : XS9} {R B K g w n : Nat} (hg : g < 199) (hw : w < 199) (hn : n < 60) (hK : K < 60) : g_clo1 σ R B K g w n 7000 20 = σ 7000 20 ∧ g_clo1 σ R B K g w n 7000 25 = σ 7000 25 ∧ g_clo1 σ R B K g w n 7000 21 = nI (n + 1) ∧ g_clo1 σ R B K g w n 7000 22 = nI (n + 1) ∧ g_clo1 σ R B K g w n 7000 23 = nI (g + 1) ∧ g_clo1 σ R B K g w n 7000 24 = nI (w + 1) := by
  unfold g_clo1
  rw [fr_rnd (by omega)]
  exact Kclose_c hg hw hn
theorem clo1_n {σ : XS9} {R B K g w n : Nat} : g_clo1 σ R B K g w n 5003 900 = nI (K + 1) := rnd_n
def x_McloseOne_138 (σ : XS9) (R B K g w n : Nat) (pk : Nat → Nat) (i122 : Nat) (s122 : XS9) (s0 : Int32) : Int32 := xit (fun i138 s138 => s138 + ((f_of ((g_clo1 σ R B K g w n) (6200 + K) i122) i138) * ((g_clo1 σ R B K g w n) (6000 + K) i138))) R 0 s0
def x_McloseOne_122 (σ : XS9) (R B K g w n : Nat) (pk : Nat → Nat) (s0 : XS9) : XS9 := xit (fun i122 s122 => (if ((g_clo1 σ R B K g w n) (6200 + K) i122) ≤ 0 then s122 else g_Madd s122 i122 (pk i122) ((g_clo1 σ R B K g w n) (6200 + K) i122) (x_McloseOne_138 σ R B K g w n pk i122 s122 0))) B 0 s0
def g_McloseOne (σ : XS9) (R B K g w n : Nat) (pk : Nat → Nat) : XS9 := (if ((g_clo1 σ R B K g w n) 7000 9) = 0 then g_clo1 σ R B K g w n else (x_McloseOne_122 σ R B K g w n pk (u2 (g_clo1 σ R B K g w n) 5000 1 2)))
theorem ct_X14_closeOne {l : Launch} {h : XH} (hl : l.stackTraces = false) {z : Int64} {σ : XS9} (hbs : xx_bs h) (hfr : ∀ r, 5000 ≤ r → r < 20010 → h r = none) {R : Nat} (hR : σ 5001 900 = nI R) (hR5 : R ≤ 5) {B : Nat} (hB : σ 5002 900 = nI B) (hB6 : B ≤ 6) {K : Nat} (hK : σ 5003 900 = nI K) (hK60 : K < 60) (hf : σ 7000 20 = nI 1) (hf5 : σ 7000 25 = nI 1) {g : Nat} (hg : σ 7000 23 = nI g) (hg1 : g < 199) {w : Nat} (hw : σ 7000 24 = nI w) (hw1 : w < 199) {n : Nat} (hn : σ 7000 21 = nI n) (hn60 : n < 60) (hn2 : σ 7000 22 = nI n) {pk : Nat → Nat} (hpk : ∀ j, j < B → σ (5030 + j) 900 = nI (2 * pk j) ∧ pk j ≤ 5) (hw0 : ∀ i r, i < B → r < R → 0 ≤ (f_of (x_Kclose_2 σ 7000 R B g w n σ (7000 + 500 + g) i) r).toInt) (hwz : ∀ j, j < 6 → σ (7000 + 700 + w) j = 0 ∨ σ (7000 + 700 + w) j = 1) : XEx l m_X14_closeOne 12 36 723 [.ref 5000] (setM z σ h) none (setM z (g_McloseOne σ R B K g w n pk) h) := by
  refine XMet.of hl rfl rfl (Nat.le_of_ble_eq_true rfl) (fun Y O hh hQ => ?_)
  show SW Y 36 723 (setM z σ h) 0 [.ref 5000, xx_d, xx_d, xx_d, xx_d] []
  refine sw_new (k := 35) (n := 718) (r := 5200 + K) O (xx_dt dd_X14_closeOne 0 rfl) cl_X13 nw_X14_172 ((setM_no (noq_rnd (z := z) (σ := σ) (K := K) hK hK60).1).trans (hfr (5200 + K) (by omega) (by omega))) (by omega) ?_
  rw [xx_blk_up]
  refine sw_dup O (xx_dt dd_X14_closeOne 1 rfl) rfl ?_
  refine sw_callIx (as := []) (st := [.ref (5200 + K)]) (st2 := [.ref (5200 + K)]) (k' := 0) (n' := 0) O (ct_X13_init hl) ce_X13_init ml_X14_174 ii_X13_init (xx_dt dd_X14_closeOne 2 rfl) (by decide) rfl rfl (Nat.le_of_ble_eq_true rfl) rfl ?_
  refine sw_astore_n (ls2 := [.ref 5000, .ref (5200 + K), xx_d, xx_d, xx_d]) O (xx_dt dd_X14_closeOne 3 rfl) (by decide) rfl ?_
  refine sw_aload_n O (xx_dt dd_X14_closeOne 4 rfl) rfl ?_
  refine sw_aload_n O (xx_dt dd_X14_closeOne 5 rfl) rfl ?_
  refine sw_get (v := .int (σ 5000 4)) O (xx_dt dd_X14_closeOne 6 rfl) cl_X14 fl_X14_17 ((xx_up_ne (by omega)).trans (lm_modC (σ := σ) (fl1 hf5))) (by decide) rfl ?_
  refine sw_put (h2 := xx_up (setM z σ h) (5200 + K) (19, 5, updV (fun j => defaultValue (tyX13 j)) 0 (.int (σ 5000 4)))) O (xx_dt dd_X14_closeOne 7 rfl) cl_X13 fl_X14_175 (xx_up_eq _ _ _) (by decide) (by omega) rfl (fun _ => ⟨rfl, rfl⟩) xx_up_up ?_
  refine sw_aload_n O (xx_dt dd_X14_closeOne 8 rfl) rfl ?_
  refine sw_aload_n O (xx_dt dd_X14_closeOne 9 rfl) rfl ?_
  refine sw_get (v := .ref 7000) O (xx_dt dd_X14_closeOne 10 rfl) cl_X14 fl_X14_141 ((xx_up_ne (by omega)).trans (lm_modC (σ := σ) (fl1 hf5))) (by decide) rfl ?_
  refine sw_get (v := .ref (7000 + 1)) O (xx_dt dd_X14_closeOne 11 rfl) cl_X11 fl_X14_176 ((xx_up_ne (by omega)).trans (lm_clk (σ := σ) (b := 7000) (.inl rfl) (fl1 hf) (g := g) hg (by omega) (w := w) hw (by omega))) (by decide) rfl ?_
  refine xx_wid (k' := 34 + 1) (n' := 713 + R) (by omega) (by omega) (sw_clone (k := 34) (n := 713) (t := 100) (N := R) (r2 := 6000 + K) O (.inl rfl) rfl (xx_dt dd_X14_closeOne 12 rfl) cn_X14_179 cx_I ((xx_up_ne (by omega)).trans ((im_kpr (z := z) (σ := σ) (b := 7000) (.inl rfl) hf (R := R) hR (by omega)).get _)) (fun _ _ _ => rfl) ((xx_up_ne (by omega)).trans ((setM_no (noq_rnd (z := z) (σ := σ) (K := K) hK hK60).2.1).trans (hfr (6000 + K) (by omega) (by omega)))) (by omega) (Nat.le_of_ble_eq_true rfl) (Nat.le_of_ble_eq_true rfl) ?_)
  rw [xx_blk_up, xx_up_sw (by omega)]
  refine sw_castA (t := 100) O (xx_dt dd_X14_closeOne 13 rfl) (.inl rfl) ((xx_up_ne (by omega)).trans (xx_up_eq _ _ _)) cw_X14_180 ?_
  refine sw_put (h2 := xx_up (xx_up (setM z σ h) (6000 + K) (100, R, fun k => .int ((σ) (7000 + 1) k))) (5200 + K) (19, 5, updV (updV (fun j => defaultValue (tyX13 j)) 0 (.int (σ 5000 4))) 1 (.ref (6000 + K)))) O (xx_dt dd_X14_closeOne 14 rfl) cl_X13 fl_X14_183 (xx_up_eq _ _ _) (by decide) (by omega) rfl (fun _ => ⟨rfl, rfl⟩) xx_up_up ?_
  refine sw_aload_n O (xx_dt dd_X14_closeOne 15 rfl) rfl ?_
  refine sw_aload_n O (xx_dt dd_X14_closeOne 16 rfl) rfl ?_
  refine sw_get (v := .ref 7000) O (xx_dt dd_X14_closeOne 17 rfl) cl_X14 fl_X14_141 ((xx_up_ne (by omega)).trans ((xx_up_ne (by omega)).trans (lm_modC (σ := σ) (fl1 hf5)))) (by decide) rfl ?_
  refine sw_get (v := .ref (7000 + 500 + g)) O (xx_dt dd_X14_closeOne 18 rfl) cl_X11 fl_X14_145 ((xx_up_ne (by omega)).trans ((xx_up_ne (by omega)).trans (lm_clk (σ := σ) (b := 7000) (.inl rfl) (fl1 hf) (g := g) hg (by omega) (w := w) hw (by omega)))) (by decide) rfl ?_
  refine xx_wid (k' := 33 + 1) (n' := 707 + 6) (by omega) (by omega) (sw_clone (k := 33) (n := 707) (t := 100) (N := 6) (r2 := 6100 + K) O (.inl rfl) rfl (xx_dt dd_X14_closeOne 19 rfl) cn_X14_179 cx_I ((xx_up_ne (by omega)).trans ((xx_up_ne (by omega)).trans ((im_wsh (z := z) (σ := σ) (b := 7000) (.inl rfl) hf (g := g) hg (by omega) (j := g) (by omega)).get _))) (fun _ _ _ => rfl) ((xx_up_ne (by omega)).trans ((xx_up_ne (by omega)).trans ((setM_no (noq_rnd (z := z) (σ := σ) (K := K) hK hK60).2.2.1).trans (hfr (6100 + K) (by omega) (by omega))))) (by omega) (Nat.le_of_ble_eq_true rfl) (Nat.le_of_ble_eq_true rfl) ?_)
  rw [xx_blk_up, xx_up_sw (by omega)]
  refine sw_castA (t := 100) O (xx_dt dd_X14_closeOne 20 rfl) (.inl rfl) ((xx_up_ne (by omega)).trans (xx_up_eq _ _ _)) cw_X14_180 ?_
  refine sw_put (h2 := xx_up (xx_up (xx_up (setM z σ h) (6000 + K) (100, R, fun k => .int ((σ) (7000 + 1) k))) (6100 + K) (100, 6, fun k => .int ((σ) (7000 + 500 + g) k))) (5200 + K) (19, 5, updV (updV (updV (fun j => defaultValue (tyX13 j)) 0 (.int (σ 5000 4))) 1 (.ref (6000 + K))) 2 (.ref (6100 + K)))) O (xx_dt dd_X14_closeOne 21 rfl) cl_X13 fl_X14_184 (xx_up_eq _ _ _) (by decide) (by omega) rfl (fun _ => ⟨rfl, rfl⟩) xx_up_up ?_
  refine sw_aload_n O (xx_dt dd_X14_closeOne 22 rfl) rfl ?_
  refine sw_aload_n O (xx_dt dd_X14_closeOne 23 rfl) rfl ?_
  refine sw_get (v := .ref 7000) O (xx_dt dd_X14_closeOne 24 rfl) cl_X14 fl_X14_141 ((xx_up_ne (by omega)).trans ((xx_up_ne (by omega)).trans ((xx_up_ne (by omega)).trans (lm_modC (σ := σ) (fl1 hf5))))) (by decide) rfl ?_
  refine sw_get (v := .ref (7000 + 700 + w)) O (xx_dt dd_X14_closeOne 25 rfl) cl_X11 fl_X14_165 ((xx_up_ne (by omega)).trans ((xx_up_ne (by omega)).trans ((xx_up_ne (by omega)).trans (lm_clk (σ := σ) (b := 7000) (.inl rfl) (fl1 hf) (g := g) hg (by omega) (w := w) hw (by omega))))) (by decide) rfl ?_
  refine xx_wid (k' := 32 + 1) (n' := 701 + 6) (by omega) (by omega) (sw_clone (k := 32) (n := 701) (t := 101) (N := 6) (r2 := 6300 + K) O (.inr (.inl rfl)) rfl (xx_dt dd_X14_closeOne 26 rfl) cn_X14_185 cx_Z ((xx_up_ne (by omega)).trans ((xx_up_ne (by omega)).trans ((xx_up_ne (by omega)).trans (lm_hwa (σ := σ) (b := 7000) (.inl rfl) (fl1 hf) (w := w) hw (by omega) (j := w) (by omega))))) (fun j9 hj9 ρ9 => by show fits _ (.int (σ (7000 + 700 + w) j9)) = true; rcases hwz j9 hj9 with e9 | e9 <;> rw [e9] <;> rfl) ((xx_up_ne (by omega)).trans ((xx_up_ne (by omega)).trans ((xx_up_ne (by omega)).trans ((setM_no (noq_rnd (z := z) (σ := σ) (K := K) hK hK60).2.2.2.2).trans (hfr (6300 + K) (by omega) (by omega)))))) (by omega) (Nat.le_of_ble_eq_true rfl) (Nat.le_of_ble_eq_true rfl) ?_)
  rw [xx_blk_up, xx_up_sw (by omega)]
  refine sw_castA (t := 101) O (xx_dt dd_X14_closeOne 27 rfl) (.inr (.inl rfl)) ((xx_up_ne (by omega)).trans (xx_up_eq _ _ _)) cw_X14_186 ?_
  refine sw_put (h2 := xx_up (xx_up (xx_up (xx_up (setM z σ h) (6000 + K) (100, R, fun k => .int ((σ) (7000 + 1) k))) (6100 + K) (100, 6, fun k => .int ((σ) (7000 + 500 + g) k))) (6300 + K) (101, 6, fun k => .int ((σ) (7000 + 700 + w) k))) (5200 + K) (19, 5, updV (updV (updV (updV (fun j => defaultValue (tyX13 j)) 0 (.int (σ 5000 4))) 1 (.ref (6000 + K))) 2 (.ref (6100 + K))) 4 (.ref (6300 + K)))) O (xx_dt dd_X14_closeOne 28 rfl) cl_X13 fl_X14_187 (xx_up_eq _ _ _) (by decide) (by omega) rfl (fun _ => ⟨rfl, rfl⟩) xx_up_up ?_
  refine sw_aload_n O (xx_dt dd_X14_closeOne 29 rfl) rfl ?_
  refine sw_get (v := .ref 7000) O (xx_dt dd_X14_closeOne 30 rfl) cl_X14 fl_X14_141 ((xx_up_ne (by omega)).trans ((xx_up_ne (by omega)).trans ((xx_up_ne (by omega)).trans ((xx_up_ne (by omega)).trans (lm_modC (σ := σ) (fl1 hf5)))))) (by decide) rfl ?_
  refine sw_aload_n O (xx_dt dd_X14_closeOne 31 rfl) rfl ?_
  refine sw_get (v := .int (σ 5000 4)) O (xx_dt dd_X14_closeOne 32 rfl) cl_X14 fl_X14_17 ((xx_up_ne (by omega)).trans ((xx_up_ne (by omega)).trans ((xx_up_ne (by omega)).trans ((xx_up_ne (by omega)).trans (lm_modC (σ := σ) (fl1 hf5)))))) (by decide) rfl ?_
  rw [← setM_up (z := z) (σ := σ) (r := 6000 + K) (.inr (noq_rnd (z := z) (σ := σ) (K := K) hK hK60).2.1)]
  rw [← setM_up (z := z) (σ := σ) (r := 6100 + K) (.inr (noq_rnd (z := z) (σ := σ) (K := K) hK hK60).2.2.1)]
  rw [← setM_up (z := z) (σ := σ) (r := 6300 + K) (.inr (noq_rnd (z := z) (σ := σ) (K := K) hK hK60).2.2.2.2)]
  rw [← setM_up (z := z) (σ := σ) (r := 5200 + K) (.inr (noq_rnd (z := z) (σ := σ) (K := K) hK hK60).1)]
  refine xx_wid (k' := 26 + 6) (n' := 478 + (23 + 2 * (n + n / 2 + 10))) (by omega) (by omega) (sw_callVx (k := 26) (n := 478) (k' := 6) (n' := 23 + 2 * (n + n / 2 + 10)) (as := [.int (σ 5000 4)]) (st := []) (st2 := []) O (ct_X11_close hl (z := z) (σ := σ) (bs_up (r := 5200 + K) (bs_up (r := 6300 + K) (bs_up (r := 6100 + K) (bs_up (r := 6000 + K) hbs (by omega) (by omega) (by omega)) (by omega) (by omega) (by omega)) (by omega) (by omega) (by omega)) (by omega) (by omega) (by omega)) (b := 7000) (fun r9 a9 b9 => ((xx_up_ne (by omega)).trans ((xx_up_ne (by omega)).trans ((xx_up_ne (by omega)).trans ((xx_up_ne (by omega)).trans (hfr r9 (by omega) (by omega))))))) (.inl rfl) hf hg hg1 hw hw1 hR hR5 hB hB6 hn hn60 hn2 (x := σ 5000 4) hw0) ce_X11_close ml_X14_188 iv_X11_close cl_X11 rfl ((setM_of (by omega) (lq_clk (.inl rfl) (fl1 hf) hg (by omega) hw (by omega) _))) (xx_dt dd_X14_closeOne 33 rfl) (by decide) rfl rfl (Nat.le_of_ble_eq_true rfl) rfl ?_)
  have hK1 : (g_Kclose σ (σ 5000 4) 7000 R B g w n) 5003 900 = nI K := by rw [fr_Kclose hg1 hw1 hn60 (by omega)]; exact hK
  have hR1 : (g_Kclose σ (σ 5000 4) 7000 R B g w n) 5001 900 = nI R := by rw [fr_Kclose hg1 hw1 hn60 (by omega)]; exact hR
  have hc1 := Kclose_c (σ := σ) (x := σ 5000 4) (b := 7000) (R := R) (B := B) hg1 hw1 hn60
  rw [setM_up (z := z) (σ := g_Kclose σ (σ 5000 4) 7000 R B g w n) (r := 5200 + K) (.inr (noq_rnd (z := z) (σ := g_Kclose σ (σ 5000 4) 7000 R B g w n) (K := K) hK1 hK60).1)]
  rw [setM_up (z := z) (σ := g_Kclose σ (σ 5000 4) 7000 R B g w n) (r := 6300 + K) (.inr (noq_rnd (z := z) (σ := g_Kclose σ (σ 5000 4) 7000 R B g w n) (K := K) hK1 hK60).2.2.2.2)]
  rw [setM_up (z := z) (σ := g_Kclose σ (σ 5000 4) 7000 R B g w n) (r := 6100 + K) (.inr (noq_rnd (z := z) (σ := g_Kclose σ (σ 5000 4) 7000 R B g w n) (K := K) hK1 hK60).2.2.1)]
  rw [setM_up (z := z) (σ := g_Kclose σ (σ 5000 4) 7000 R B g w n) (r := 6000 + K) (.inr (noq_rnd (z := z) (σ := g_Kclose σ (σ 5000 4) 7000 R B g w n) (K := K) hK1 hK60).2.1)]
  refine sw_aload_n O (xx_dt dd_X14_closeOne 34 rfl) rfl ?_
  refine sw_aload_n O (xx_dt dd_X14_closeOne 35 rfl) rfl ?_
  refine sw_get (v := .ref 7000) O (xx_dt dd_X14_closeOne 36 rfl) cl_X14 fl_X14_141 ((xx_up_ne (by omega)).trans ((xx_up_ne (by omega)).trans ((xx_up_ne (by omega)).trans ((xx_up_ne (by omega)).trans (lm_modC (σ := g_Kclose σ (σ 5000 4) 7000 R B g w n) (fl1 (hc1.2.1.trans hf5))))))) (by decide) rfl ?_
  refine sw_get (v := .ref (7000 + 2)) O (xx_dt dd_X14_closeOne 37 rfl) cl_X11 fl_X14_192 ((xx_up_ne (by omega)).trans ((xx_up_ne (by omega)).trans ((xx_up_ne (by omega)).trans ((xx_up_ne (by omega)).trans (lm_clk (σ := g_Kclose σ (σ 5000 4) 7000 R B g w n) (b := 7000) (.inl rfl) (fl1 (hc1.1.trans hf)) (g := g + 1) hc1.2.2.2.2.1 (by omega) (w := w + 1) hc1.2.2.2.2.2 (by omega)))))) (by decide) rfl ?_
  refine xx_wid (k' := 25 + 1) (n' := 472 + 6) (by omega) (by omega) (sw_clone (k := 25) (n := 472) (t := 100) (N := 6) (r2 := 6200 + K) O (.inl rfl) rfl (xx_dt dd_X14_closeOne 38 rfl) cn_X14_179 cx_I ((xx_up_ne (by omega)).trans ((xx_up_ne (by omega)).trans ((xx_up_ne (by omega)).trans ((xx_up_ne (by omega)).trans ((im_khe (z := z) (σ := g_Kclose σ (σ 5000 4) 7000 R B g w n) (b := 7000) (.inl rfl) (hc1.1.trans hf)).get _))))) (fun _ _ _ => rfl) ((xx_up_ne (by omega)).trans ((xx_up_ne (by omega)).trans ((xx_up_ne (by omega)).trans ((xx_up_ne (by omega)).trans ((setM_no (noq_rnd (z := z) (σ := g_Kclose σ (σ 5000 4) 7000 R B g w n) (K := K) hK1 hK60).2.2.2.1).trans (hfr (6200 + K) (by omega) (by omega))))))) (by omega) (Nat.le_of_ble_eq_true rfl) (Nat.le_of_ble_eq_true rfl) ?_)
  rw [xx_blk_up, xx_up_sw (by omega)]
  refine sw_castA (t := 100) O (xx_dt dd_X14_closeOne 39 rfl) (.inl rfl) ((xx_up_ne (by omega)).trans (xx_up_eq _ _ _)) cw_X14_180 ?_
  refine sw_put (h2 := xx_up (xx_up (xx_up (xx_up (xx_up (setM z (g_Kclose σ (σ 5000 4) 7000 R B g w n) h) (6000 + K) (100, R, fun k => .int ((σ) (7000 + 1) k))) (6100 + K) (100, 6, fun k => .int ((σ) (7000 + 500 + g) k))) (6300 + K) (101, 6, fun k => .int ((σ) (7000 + 700 + w) k))) (6200 + K) (100, 6, fun k => .int ((g_Kclose σ (σ 5000 4) 7000 R B g w n) (7000 + 2) k))) (5200 + K) (19, 5, updV (updV (updV (updV (updV (fun j => defaultValue (tyX13 j)) 0 (.int (σ 5000 4))) 1 (.ref (6000 + K))) 2 (.ref (6100 + K))) 4 (.ref (6300 + K))) 3 (.ref (6200 + K)))) O (xx_dt dd_X14_closeOne 40 rfl) cl_X13 fl_X14_195 (xx_up_eq _ _ _) (by decide) (by omega) rfl (fun _ => ⟨rfl, rfl⟩) xx_up_up ?_
  refine sw_aload_n O (xx_dt dd_X14_closeOne 41 rfl) rfl ?_
  refine sw_get (v := .ref 5003) O (xx_dt dd_X14_closeOne 42 rfl) cl_X14 fl_X14_30 ((xx_up_ne (by omega)).trans ((xx_up_ne (by omega)).trans ((xx_up_ne (by omega)).trans ((xx_up_ne (by omega)).trans ((xx_up_ne (by omega)).trans (lm_modC (σ := g_Kclose σ (σ 5000 4) 7000 R B g w n) (fl1 (hc1.2.1.trans hf5)))))))) (by decide) rfl ?_
  refine sw_aload_n O (xx_dt dd_X14_closeOne 43 rfl) rfl ?_
  refine xx_wid (k' := 24 + 1) (n' := 372 + (K + K / 2 + 10)) (by omega) (by omega) (sw_callVL (k := 24) (n := 372) (k' := 1) (n' := K + K / 2 + 10) (ci := 6) (as := [.ref (5200 + K)]) (st := []) (st2 := [.int 1]) O (ct_add hl ((xx_up_ne (by omega)).trans ((xx_up_ne (by omega)).trans ((xx_up_ne (by omega)).trans ((xx_up_ne (by omega)).trans ((xx_up_ne (by omega)).trans (lm_5003 (σ := g_Kclose σ (σ 5000 4) 7000 R B g w n) (K := K) hK1 (by omega))))))) (by omega) (hbs.1.imp fun f0 e => ((xx_up_ne (by omega)).trans ((xx_up_ne (by omega)).trans ((xx_up_ne (by omega)).trans ((xx_up_ne (by omega)).trans ((xx_up_ne (by omega)).trans ((setM_out (by omega)).trans e))))))) (hbs.2.1.imp fun f0 e => ((xx_up_ne (by omega)).trans ((xx_up_ne (by omega)).trans ((xx_up_ne (by omega)).trans ((xx_up_ne (by omega)).trans ((xx_up_ne (by omega)).trans ((setM_out (by omega)).trans e))))))) ((xx_up_ne (by omega)).trans ((xx_up_ne (by omega)).trans ((xx_up_ne (by omega)).trans ((xx_up_ne (by omega)).trans ((xx_up_ne (by omega)).trans (setM_no2 hbs).1))))) ((xx_up_ne (by omega)).trans ((xx_up_ne (by omega)).trans ((xx_up_ne (by omega)).trans ((xx_up_ne (by omega)).trans ((xx_up_ne (by omega)).trans (setM_no2 hbs).2))))) (ob_C cl_X13 (xx_up_eq _ _ _) ca_X13) (by omega) (fun j9 hj9 => .inr ⟨5200 + j9, rfl, ob_C cl_X13 ((xx_up_ne (by omega)).trans ((xx_up_ne (by omega)).trans ((xx_up_ne (by omega)).trans ((xx_up_ne (by omega)).trans ((xx_up_ne (by omega)).trans (lm_rnd (z := z) (σ := g_Kclose σ (σ 5000 4) 7000 R B g w n) (h := h) hK1 (by omega) hj9)))))) ca_X13⟩)) ce_Jx4a65c_add_9ea2d ml_X14_87 iv_Jx4a65c_add_9ea2d cl_Jx4a65c rfl ((xx_up_ne (by omega)).trans ((xx_up_ne (by omega)).trans ((xx_up_ne (by omega)).trans ((xx_up_ne (by omega)).trans ((xx_up_ne (by omega)).trans (lm_5003 (σ := g_Kclose σ (σ 5000 4) 7000 R B g w n) (K := K) hK1 (by omega))))))) (xx_dt dd_X14_closeOne 44 rfl) (by decide) rfl rfl (Nat.le_of_ble_eq_true rfl) rfl ?_)
  rw [show (fun j9 => if j9 = K then Value.ref (5200 + K) else Value.ref (5200 + j9)) = (fun k => Value.ref (5200 + k)) from funext fun j9 => (by split <;> simp_all)]
  refine sw_alter (r := 5200 + K) (F2 := rndF K (σ 5000 4)) ((xx_up_ne (by omega)).trans (xx_up_eq _ _ _)) (fun k9 hk9 => by match k9, hk9 with | 0, _ => rfl | 1, _ => exact congrArg Value.ref (show 6000 + K = 5200 + K + 700 + 100 * 1 by omega) | 2, _ => exact congrArg Value.ref (show 6100 + K = 5200 + K + 700 + 100 * 2 by omega) | 3, _ => exact congrArg Value.ref (show 6200 + K = 5200 + K + 700 + 100 * 3 by omega) | 4, _ => exact congrArg Value.ref (show 6300 + K = 5200 + K + 700 + 100 * 4 by omega)) ?_
  rw [← xx_up_sw (r := 5200 + K) (e := 5003) (by omega), xx_up_up]
  rw [add_rnd (z := z) (h := h) (t := σ 5000 4) hR1 hR5 hK1 hK60]
  show SW Y _ _ (setM z (g_clo1 σ R B K g w n) h) 103 [.ref 5000, .ref (5200 + K), xx_d, xx_d, xx_d] [.int 1]
  refine sw_pop O (xx_dt dd_X14_closeOne 45 rfl) rfl ?_
  refine sw_aload_n O (xx_dt dd_X14_closeOne 46 rfl) rfl ?_
  refine sw_get (v := .ref 7000) O (xx_dt dd_X14_closeOne 47 rfl) cl_X14 fl_X14_141 (lm_modC (σ := g_clo1 σ R B K g w n) (fl1 ((clo1_c (σ := σ) (R := R) (B := B) (K := K) (g := g) (w := w) (n := n) hg1 hw1 hn60 hK60).2.1.trans hf5))) (by decide) rfl ?_
  refine sw_get (v := .int ((g_clo1 σ R B K g w n) 7000 9)) O (xx_dt dd_X14_closeOne 48 rfl) cl_X11 fl_X14_196 (lm_clk (σ := g_clo1 σ R B K g w n) (b := 7000) (.inl rfl) (fl1 ((clo1_c (σ := σ) (R := R) (B := B) (K := K) (g := g) (w := w) (n := n) hg1 hw1 hn60 hK60).1.trans hf)) (g := g + 1) (clo1_c (σ := σ) (R := R) (B := B) (K := K) (g := g) (w := w) (n := n) hg1 hw1 hn60 hK60).2.2.2.2.1 (by omega) (w := w + 1) (clo1_c (σ := σ) (R := R) (B := B) (K := K) (g := g) (w := w) (n := n) hg1 hw1 hn60 hK60).2.2.2.2.2 (by omega)) (by decide) rfl ?_
  refine sw_if_ne (tgt := 115) O (xx_dt dd_X14_closeOne 49 rfl) (by decide) (fun q1 => ?_) (fun q1 => ?_)
  · refine sw_aload_n O (xx_dt dd_X14_closeOne 51 rfl) rfl ?_
    refine sw_iconst (x := 2) O (xx_dt dd_X14_closeOne 52 rfl) (by decide) ?_
    refine sw_put (h2 := setM z (u2 (g_clo1 σ R B K g w n) 5000 1 2) h) O (xx_dt dd_X14_closeOne 53 rfl) cl_X14 fl_X14_77 (lm_mod (σ := g_clo1 σ R B K g w n)) (by decide) (by omega) rfl (fun _ => ⟨rfl, rfl⟩) (pm_mod (σ := g_clo1 σ R B K g w n) (by omega)) ?_
    refine sw_iconst (x := 0) O (xx_dt dd_X14_closeOne 54 rfl) (by decide) ?_
    refine sw_istore_n (ls2 := [.ref 5000, .ref (5200 + K), .int 0, xx_d, xx_d]) O (xx_dt dd_X14_closeOne 55 rfl) (by decide) rfl ?_
    refine xx_wid (k' := 0 + 4 * (B - 0)) (n' := 24 + 58 * (B - 0)) (by omega) (by omega) ?_
    refine sw_forV (S := XS9) (kf := fun i9 => 0 + 4 * (B - i9)) (nf := fun i9 => 24 + 58 * (B - i9)) (fun i122 s122 => (if ((g_clo1 σ R B K g w n) (6200 + K) i122) ≤ 0 then s122 else g_Madd s122 i122 (pk i122) ((g_clo1 σ R B K g w n) (6200 + K) i122) (x_McloseOne_138 σ R B K g w n pk i122 s122 0))) (fun i (s : XS9) => (∀ q, (q < 5030 ∨ 5036 ≤ q) → s q = (u2 (g_clo1 σ R B K g w n) 5000 1 2) q) ∧ ∀ j, i ≤ j → s (5030 + j) = (u2 (g_clo1 σ R B K g w n) 5000 1 2) (5030 + j)) (hp := fun s122 => setM z s122 h) (hd := 122) (lc := fun i122 s122 => [.ref 5000, .ref (5200 + K), .int (nI i122), xx_d, xx_d]) (N := B) (fun i122 s122 hi122 hP122 => ⟨(by (try dsimp only); (repeat' split) <;> refine ⟨fun q9 hq9 => ?_, fun j9 hj9 => ?_⟩ <;> first | exact hP122.1 q9 hq9 | exact hP122.2 j9 (by omega) | (rw [fr_Madd (by omega)]; exact hP122.1 q9 hq9) | (rw [fr_Madd (by omega)]; exact hP122.2 j9 (by omega))), fun kk122 => ?_⟩) B 0 (u2 (g_clo1 σ R B K g w n) 5000 1 2) (by omega) (⟨fun _ _ => rfl, fun _ _ => rfl⟩) (fun hP122 => ?_)
    · obtain ⟨kA, ekA⟩ : ∃ k, k = 0 + 4 * (B - (i122 + 1)) := ⟨_, rfl⟩
      obtain ⟨nA, enA⟩ : ∃ k, k = 24 + 58 * (B - (i122 + 1)) := ⟨_, rfl⟩
      obtain ⟨kB, ekB⟩ : ∃ k, k = kA + 4 := ⟨_, rfl⟩
      obtain ⟨nB, enB⟩ : ∃ k, k = nA + 58 := ⟨_, rfl⟩
      refine xx_wid (k' := kB) (n' := nB) (by show _ ≤ 0 + 4 * (B - i122); omega) (by show _ ≤ 24 + 58 * (B - i122); omega) ?_
      refine sw_iload_n O (xx_dt dd_X14_closeOne 56 rfl) rfl ?_
      refine sw_aload_n O (xx_dt dd_X14_closeOne 57 rfl) rfl ?_
      refine sw_get (v := .ref 5002) O (xx_dt dd_X14_closeOne 58 rfl) cl_X14 fl_X14_27 (lm_modC (σ := s122) (fl1 ((congrFun (hP122.1 _ (by omega)) 25).trans ((clo1_c (σ := σ) (R := R) (B := B) (K := K) (g := g) (w := w) (n := n) hg1 hw1 hn60 hK60).2.1.trans hf5)))) (by decide) rfl ?_
      refine sw_callVL (ci := 6) (as := []) (st := [.int (nI i122)]) (st2 := [.int (nI B), .int (nI i122)]) O (ct_AL_size hl (lm_5002 (σ := s122) (B := B) ((((congrFun (hP122.1 _ (by omega)) 900).trans (congrFun (u2_ne (by omega)) 900)).trans (congrFun (fr_clo1 hg1 hw1 hn60 hK60 (by omega)) 900)).trans hB) (by omega))) ce_Jx4a65c_size_8abf5 ml_X14_57 iv_Jx4a65c_size_8abf5 cl_Jx4a65c rfl (lm_5002 (σ := s122) (B := B) ((((congrFun (hP122.1 _ (by omega)) 900).trans (congrFun (u2_ne (by omega)) 900)).trans (congrFun (fr_clo1 hg1 hw1 hn60 hK60 (by omega)) 900)).trans hB) (by omega)) (xx_dt dd_X14_closeOne 59 rfl) (by decide) rfl rfl (Nat.le_of_ble_eq_true rfl) rfl ?_
      refine sw_icmp_ge (tgt := 214) O (xx_dt dd_X14_closeOne 60 rfl) (by decide) (fun q2 => ?_) (fun q2 => ?_)
      · exact absurd q2 (nI_ge (b := B) hi122 (by omega))
      · refine sw_iconst (x := 0) O (xx_dt dd_X14_closeOne 61 rfl) (by decide) ?_
        refine sw_istore_n (ls2 := [.ref 5000, .ref (5200 + K), .int (nI i122), .int 0, xx_d]) O (xx_dt dd_X14_closeOne 62 rfl) (by decide) rfl ?_
        refine sw_iconst (x := 0) O (xx_dt dd_X14_closeOne 63 rfl) (by decide) ?_
        refine sw_istore (ls2 := [.ref 5000, .ref (5200 + K), .int (nI i122), .int 0, .int 0]) O (xx_dt dd_X14_closeOne 64 rfl) (by decide) rfl ?_
        refine sw_for (S := Int32) (fun i138 s138 => s138 + ((f_of ((g_clo1 σ R B K g w n) (6200 + K) i122) i138) * ((g_clo1 σ R B K g w n) (6000 + K) i138))) (fun _ _ => True) (hp := fun _ => setM z s122 h) (hd := 138) (lc := fun i138 s138 => [.ref 5000, .ref (5200 + K), .int (nI i122), .int s138, .int (nI i138)]) (N := R) (fun i138 s138 hi138 hP138 => ⟨trivial, fun kk138 => ?_⟩) R 0 0 (by omega) (trivial) (fun hP138 => ?_)
        · refine sw_iload O (xx_dt dd_X14_closeOne 65 rfl) rfl ?_
          refine sw_aload_n O (xx_dt dd_X14_closeOne 66 rfl) rfl ?_
          refine sw_get (v := .ref 5001) O (xx_dt dd_X14_closeOne 67 rfl) cl_X14 fl_X14_23 (lm_modC (σ := s122) (fl1 ((congrFun (hP122.1 _ (by omega)) 25).trans ((clo1_c (σ := σ) (R := R) (B := B) (K := K) (g := g) (w := w) (n := n) hg1 hw1 hn60 hK60).2.1.trans hf5)))) (by decide) rfl ?_
          refine sw_callVL (ci := 6) (as := []) (st := [.int (nI i138)]) (st2 := [.int (nI R), .int (nI i138)]) O (ct_AL_size hl (lm_5001 (σ := s122) (R := R) ((((congrFun (hP122.1 _ (by omega)) 900).trans (congrFun (u2_ne (by omega)) 900)).trans (congrFun (fr_clo1 hg1 hw1 hn60 hK60 (by omega)) 900)).trans hR) (by omega))) ce_Jx4a65c_size_8abf5 ml_X14_57 iv_Jx4a65c_size_8abf5 cl_Jx4a65c rfl (lm_5001 (σ := s122) (R := R) ((((congrFun (hP122.1 _ (by omega)) 900).trans (congrFun (u2_ne (by omega)) 900)).trans (congrFun (fr_clo1 hg1 hw1 hn60 hK60 (by omega)) 900)).trans hR) (by omega)) (xx_dt dd_X14_closeOne 68 rfl) (by decide) rfl rfl (Nat.le_of_ble_eq_true rfl) rfl ?_
          refine sw_icmp_ge (tgt := 178) O (xx_dt dd_X14_closeOne 69 rfl) (by decide) (fun q3 => ?_) (fun q3 => ?_)
          · exact absurd q3 (nI_ge (b := R) hi138 (by omega))
          · refine sw_iload_n O (xx_dt dd_X14_closeOne 70 rfl) rfl ?_
            refine sw_aload_n O (xx_dt dd_X14_closeOne 71 rfl) rfl ?_
            refine sw_get (v := .ref (6200 + K)) O (xx_dt dd_X14_closeOne 72 rfl) cl_X13 fl_X14_195 (lm_rnd (σ := s122) (K := K + 1) ((congrFun (hP122.1 _ (by omega)) 900).trans (clo1_n (σ := σ) (R := R) (B := B) (K := K) (g := g) (w := w) (n := n))) (by omega) (j := K) (by omega)) (by decide) (congrArg Value.ref (show 5200 + K + 700 + 100 * 3 = 6200 + K by omega)) ?_
            refine sw_iload_n O (xx_dt dd_X14_closeOne 73 rfl) rfl ?_
            refine sw_iaload (v := .int ((g_clo1 σ R B K g w n) (6200 + K) i122)) O (xx_dt dd_X14_closeOne 74 rfl) ((im_rhe (z := z) (σ := s122) (K := K + 1) ((congrFun (hP122.1 _ (by omega)) 900).trans (clo1_n (σ := σ) (R := R) (B := B) (K := K) (g := g) (w := w) (n := n))) (by omega) (j := K) (by omega)).get _) (pk_in i122 _ (by omega)) (by rw [nI_clamp (by omega)]; exact (congrArg Value.int ((congrFun (hP122.1 _ (by omega)) i122).trans (congrFun (u2_ne (by omega)) i122)))) ?_
            refine sw_iload O (xx_dt dd_X14_closeOne 75 rfl) rfl ?_
            refine sw_callSx (as := [.int ((g_clo1 σ R B K g w n) (6200 + K) i122), .int (nI i138)]) (st := [.int s138]) (st2 := [.int (f_of ((g_clo1 σ R B K g w n) (6200 + K) i122) i138), .int s138]) O (ct_X14_of hl (c := (g_clo1 σ R B K g w n) (6200 + K) i122) (r := i138) (by omega)) ce_X14_of ml_X14_53 st_X14_of (xx_dt dd_X14_closeOne 76 rfl) (by decide) rfl rfl (Nat.le_of_ble_eq_true rfl) rfl ?_
            refine sw_aload_n O (xx_dt dd_X14_closeOne 77 rfl) rfl ?_
            refine sw_get (v := .ref (6000 + K)) O (xx_dt dd_X14_closeOne 78 rfl) cl_X13 fl_X14_183 (lm_rnd (σ := s122) (K := K + 1) ((congrFun (hP122.1 _ (by omega)) 900).trans (clo1_n (σ := σ) (R := R) (B := B) (K := K) (g := g) (w := w) (n := n))) (by omega) (j := K) (by omega)) (by decide) (congrArg Value.ref (show 5200 + K + 700 + 100 * 1 = 6000 + K by omega)) ?_
            refine sw_iload O (xx_dt dd_X14_closeOne 79 rfl) rfl ?_
            refine sw_iaload (v := .int ((g_clo1 σ R B K g w n) (6000 + K) i138)) O (xx_dt dd_X14_closeOne 80 rfl) ((im_rpr (z := z) (σ := s122) (R := R) ((((congrFun (hP122.1 _ (by omega)) 900).trans (congrFun (u2_ne (by omega)) 900)).trans (congrFun (fr_clo1 hg1 hw1 hn60 hK60 (by omega)) 900)).trans hR) (by omega) (K := K + 1) ((congrFun (hP122.1 _ (by omega)) 900).trans (clo1_n (σ := σ) (R := R) (B := B) (K := K) (g := g) (w := w) (n := n))) (by omega) (j := K) (by omega)).get _) (pk_in i138 _ (by omega)) (by rw [nI_clamp (by omega)]; exact (congrArg Value.int ((congrFun (hP122.1 _ (by omega)) i138).trans (congrFun (u2_ne (by omega)) i138)))) ?_
            refine sw_imul O (xx_dt dd_X14_closeOne 81 rfl) ?_
            refine sw_iadd O (xx_dt dd_X14_closeOne 82 rfl) ?_
            refine sw_istore_n (ls2 := [.ref 5000, .ref (5200 + K), .int (nI i122), .int (s138 + ((f_of ((g_clo1 σ R B K g w n) (6200 + K) i122) i138) * ((g_clo1 σ R B K g w n) (6000 + K) i138))), .int (nI i138)]) O (xx_dt dd_X14_closeOne 83 rfl) (by decide) rfl ?_
            refine sw_iinc (y := nI (i138 + 1)) (ls2 := [.ref 5000, .ref (5200 + K), .int (nI i122), .int (s138 + ((f_of ((g_clo1 σ R B K g w n) (6200 + K) i122) i138) * ((g_clo1 σ R B K g w n) (6000 + K) i138))), .int (nI (i138 + 1))]) O (xx_dt dd_X14_closeOne 84 rfl) rfl (nI_1 _) (by decide) rfl ?_
            refine sw_goto (tgt := 138) O (xx_dt dd_X14_closeOne 85 rfl) (by decide) ?_
            exact kk138
        · show SW Y _ _ (setM z s122 h) 138 [.ref 5000, .ref (5200 + K), .int (nI i122), .int (x_McloseOne_138 σ R B K g w n pk i122 s122 0), .int (nI R)] []
          refine sw_iload O (xx_dt dd_X14_closeOne 65 rfl) rfl ?_
          refine sw_aload_n O (xx_dt dd_X14_closeOne 66 rfl) rfl ?_
          refine sw_get (v := .ref 5001) O (xx_dt dd_X14_closeOne 67 rfl) cl_X14 fl_X14_23 (lm_modC (σ := s122) (fl1 ((congrFun (hP122.1 _ (by omega)) 25).trans ((clo1_c (σ := σ) (R := R) (B := B) (K := K) (g := g) (w := w) (n := n) hg1 hw1 hn60 hK60).2.1.trans hf5)))) (by decide) rfl ?_
          refine sw_callVL (ci := 6) (as := []) (st := [.int (nI R)]) (st2 := [.int (nI R), .int (nI R)]) O (ct_AL_size hl (lm_5001 (σ := s122) (R := R) ((((congrFun (hP122.1 _ (by omega)) 900).trans (congrFun (u2_ne (by omega)) 900)).trans (congrFun (fr_clo1 hg1 hw1 hn60 hK60 (by omega)) 900)).trans hR) (by omega))) ce_Jx4a65c_size_8abf5 ml_X14_57 iv_Jx4a65c_size_8abf5 cl_Jx4a65c rfl (lm_5001 (σ := s122) (R := R) ((((congrFun (hP122.1 _ (by omega)) 900).trans (congrFun (u2_ne (by omega)) 900)).trans (congrFun (fr_clo1 hg1 hw1 hn60 hK60 (by omega)) 900)).trans hR) (by omega)) (xx_dt dd_X14_closeOne 68 rfl) (by decide) rfl rfl (Nat.le_of_ble_eq_true rfl) rfl ?_
          refine sw_icmp_ge (tgt := 178) O (xx_dt dd_X14_closeOne 69 rfl) (by decide) (fun q3 => ?_) (fun q3 => ?_)
          · refine sw_aload_n O (xx_dt dd_X14_closeOne 86 rfl) rfl ?_
            refine sw_get (v := .ref (6200 + K)) O (xx_dt dd_X14_closeOne 87 rfl) cl_X13 fl_X14_195 (lm_rnd (σ := s122) (K := K + 1) ((congrFun (hP122.1 _ (by omega)) 900).trans (clo1_n (σ := σ) (R := R) (B := B) (K := K) (g := g) (w := w) (n := n))) (by omega) (j := K) (by omega)) (by decide) (congrArg Value.ref (show 5200 + K + 700 + 100 * 3 = 6200 + K by omega)) ?_
            refine sw_iload_n O (xx_dt dd_X14_closeOne 88 rfl) rfl ?_
            refine sw_iaload (v := .int ((g_clo1 σ R B K g w n) (6200 + K) i122)) O (xx_dt dd_X14_closeOne 89 rfl) ((im_rhe (z := z) (σ := s122) (K := K + 1) ((congrFun (hP122.1 _ (by omega)) 900).trans (clo1_n (σ := σ) (R := R) (B := B) (K := K) (g := g) (w := w) (n := n))) (by omega) (j := K) (by omega)).get _) (pk_in i122 _ (by omega)) (by rw [nI_clamp (by omega)]; exact (congrArg Value.int ((congrFun (hP122.1 _ (by omega)) i122).trans (congrFun (u2_ne (by omega)) i122)))) ?_
            refine sw_if_le (tgt := 208) O (xx_dt dd_X14_closeOne 90 rfl) (by decide) (fun q4 => ?_) (fun q4 => ?_)
            · refine sw_iinc (y := nI (i122 + 1)) (ls2 := [.ref 5000, .ref (5200 + K), .int (nI (i122 + 1)), .int (x_McloseOne_138 σ R B K g w n pk i122 s122 0), .int (nI R)]) O (xx_dt dd_X14_closeOne 102 rfl) rfl (nI_1 _) (by decide) rfl ?_
              refine sw_goto (tgt := 122) O (xx_dt dd_X14_closeOne 103 rfl) (by decide) ?_
              refine sw_dum (ls2 := [.ref 5000, .ref (5200 + K), .int (nI (i122 + 1)), xx_d, xx_d]) ⟨.inr rfl, .inr rfl, .inr rfl, .inl rfl, .inl rfl, trivial⟩ ?_
              refine xx_wid (k' := 0 + 4 * (B - (i122 + 1))) (n' := 24 + 58 * (B - (i122 + 1))) (by omega) (by omega) ?_
              simp only [if_pos q4] at kk122
              exact kk122
            · refine sw_aload_n O (xx_dt dd_X14_closeOne 91 rfl) rfl ?_
              refine sw_get (v := .ref 5002) O (xx_dt dd_X14_closeOne 92 rfl) cl_X14 fl_X14_27 (lm_modC (σ := s122) (fl1 ((congrFun (hP122.1 _ (by omega)) 25).trans ((clo1_c (σ := σ) (R := R) (B := B) (K := K) (g := g) (w := w) (n := n) hg1 hw1 hn60 hK60).2.1.trans hf5)))) (by decide) rfl ?_
              refine sw_iload_n O (xx_dt dd_X14_closeOne 93 rfl) rfl ?_
              refine sw_callVL (ci := 6) (as := [.int (nI i122)]) (st := []) (st2 := [.ref (5020 + i122)]) O (ct_get hl hbs (lm_5002 (σ := s122) (B := B) ((((congrFun (hP122.1 _ (by omega)) 900).trans (congrFun (u2_ne (by omega)) 900)).trans (congrFun (fr_clo1 hg1 hw1 hn60 hK60 (by omega)) 900)).trans hB) (by omega)) (by omega) (i := i122) (x := 5020 + i122) (by omega) (by omega) rfl) ce_Jx4a65c_get_915e3 ml_X14_61 iv_Jx4a65c_get_915e3 cl_Jx4a65c rfl (lm_5002 (σ := s122) (B := B) ((((congrFun (hP122.1 _ (by omega)) 900).trans (congrFun (u2_ne (by omega)) 900)).trans (congrFun (fr_clo1 hg1 hw1 hn60 hK60 (by omega)) 900)).trans hB) (by omega)) (xx_dt dd_X14_closeOne 94 rfl) (by decide) rfl rfl (Nat.le_of_ble_eq_true rfl) rfl ?_
              refine sw_castO O (xx_dt dd_X14_closeOne 95 rfl) cl_X9 (lm_bid (σ := s122) (B := B) ((((congrFun (hP122.1 _ (by omega)) 900).trans (congrFun (u2_ne (by omega)) 900)).trans (congrFun (fr_clo1 hg1 hw1 hn60 hK60 (by omega)) 900)).trans hB) (by omega) (j := i122) (by omega)) cw_X14_118 ?_
              refine sw_aload_n O (xx_dt dd_X14_closeOne 96 rfl) rfl ?_
              refine sw_get (v := .ref (6200 + K)) O (xx_dt dd_X14_closeOne 97 rfl) cl_X13 fl_X14_195 (lm_rnd (σ := s122) (K := K + 1) ((congrFun (hP122.1 _ (by omega)) 900).trans (clo1_n (σ := σ) (R := R) (B := B) (K := K) (g := g) (w := w) (n := n))) (by omega) (j := K) (by omega)) (by decide) (congrArg Value.ref (show 5200 + K + 700 + 100 * 3 = 6200 + K by omega)) ?_
              refine sw_iload_n O (xx_dt dd_X14_closeOne 98 rfl) rfl ?_
              refine sw_iaload (v := .int ((g_clo1 σ R B K g w n) (6200 + K) i122)) O (xx_dt dd_X14_closeOne 99 rfl) ((im_rhe (z := z) (σ := s122) (K := K + 1) ((congrFun (hP122.1 _ (by omega)) 900).trans (clo1_n (σ := σ) (R := R) (B := B) (K := K) (g := g) (w := w) (n := n))) (by omega) (j := K) (by omega)).get _) (pk_in i122 _ (by omega)) (by rw [nI_clamp (by omega)]; exact (congrArg Value.int ((congrFun (hP122.1 _ (by omega)) i122).trans (congrFun (u2_ne (by omega)) i122)))) ?_
              refine sw_iload_n O (xx_dt dd_X14_closeOne 100 rfl) rfl ?_
              refine xx_wid (k' := kA + 4) (n' := nA + 58) (by omega) (by omega) ?_
              refine sw_callSx (as := [.ref (5020 + i122), .int ((g_clo1 σ R B K g w n) (6200 + K) i122), .int (x_McloseOne_138 σ R B K g w n pk i122 s122 0)]) (st := []) (st2 := []) O (ct_X14_addPackage hl (z := z) (σ := s122) hbs hfr (B := B) ((((congrFun (hP122.1 _ (by omega)) 900).trans (congrFun (u2_ne (by omega)) 900)).trans (congrFun (fr_clo1 hg1 hw1 hn60 hK60 (by omega)) 900)).trans hB) (by omega) (j := i122) (by omega) (p := pk i122) ((congrFun (hP122.2 i122 (Nat.le_refl _)) 900).trans (((congrFun (u2_ne (by omega)) 900).trans (congrFun (fr_clo1 hg1 hw1 hn60 hK60 (by omega)) 900)).trans (hpk i122 (by omega)).1)) (by have h9 := (hpk i122 (by omega)).2; omega) (c := (g_clo1 σ R B K g w n) (6200 + K) i122) (a := (x_McloseOne_138 σ R B K g w n pk i122 s122 0))) ce_X14_addPackage ml_X14_199 st_X14_addPackage (xx_dt dd_X14_closeOne 101 rfl) (by decide) rfl rfl (Nat.le_of_ble_eq_true rfl) rfl ?_
              refine sw_iinc (y := nI (i122 + 1)) (ls2 := [.ref 5000, .ref (5200 + K), .int (nI (i122 + 1)), .int (x_McloseOne_138 σ R B K g w n pk i122 s122 0), .int (nI R)]) O (xx_dt dd_X14_closeOne 102 rfl) rfl (nI_1 _) (by decide) rfl ?_
              refine sw_goto (tgt := 122) O (xx_dt dd_X14_closeOne 103 rfl) (by decide) ?_
              refine sw_dum (ls2 := [.ref 5000, .ref (5200 + K), .int (nI (i122 + 1)), xx_d, xx_d]) ⟨.inr rfl, .inr rfl, .inr rfl, .inl rfl, .inl rfl, trivial⟩ ?_
              refine xx_wid (k' := 0 + 4 * (B - (i122 + 1))) (n' := 24 + 58 * (B - (i122 + 1))) (by omega) (by omega) ?_
              simp only [if_neg q4] at kk122
              exact kk122
          · exact absurd (Int32.le_refl _) q3
    · show SW Y _ _ (setM z (x_McloseOne_122 σ R B K g w n pk (u2 (g_clo1 σ R B K g w n) 5000 1 2)) h) 122 [.ref 5000, .ref (5200 + K), .int (nI B), xx_d, xx_d] []
      refine xx_wid (k' := 0) (n' := 24) (by show _ ≤ 0 + 4 * (B - B); omega) (by show _ ≤ 24 + 58 * (B - B); omega) ?_
      refine sw_iload_n O (xx_dt dd_X14_closeOne 56 rfl) rfl ?_
      refine sw_aload_n O (xx_dt dd_X14_closeOne 57 rfl) rfl ?_
      refine sw_get (v := .ref 5002) O (xx_dt dd_X14_closeOne 58 rfl) cl_X14 fl_X14_27 (lm_modC (σ := (x_McloseOne_122 σ R B K g w n pk (u2 (g_clo1 σ R B K g w n) 5000 1 2))) (fl1 ((congrFun (hP122.1 _ (by omega)) 25).trans ((clo1_c (σ := σ) (R := R) (B := B) (K := K) (g := g) (w := w) (n := n) hg1 hw1 hn60 hK60).2.1.trans hf5)))) (by decide) rfl ?_
      refine sw_callVL (ci := 6) (as := []) (st := [.int (nI B)]) (st2 := [.int (nI B), .int (nI B)]) O (ct_AL_size hl (lm_5002 (σ := (x_McloseOne_122 σ R B K g w n pk (u2 (g_clo1 σ R B K g w n) 5000 1 2))) (B := B) ((((congrFun (hP122.1 _ (by omega)) 900).trans (congrFun (u2_ne (by omega)) 900)).trans (congrFun (fr_clo1 hg1 hw1 hn60 hK60 (by omega)) 900)).trans hB) (by omega))) ce_Jx4a65c_size_8abf5 ml_X14_57 iv_Jx4a65c_size_8abf5 cl_Jx4a65c rfl (lm_5002 (σ := (x_McloseOne_122 σ R B K g w n pk (u2 (g_clo1 σ R B K g w n) 5000 1 2))) (B := B) ((((congrFun (hP122.1 _ (by omega)) 900).trans (congrFun (u2_ne (by omega)) 900)).trans (congrFun (fr_clo1 hg1 hw1 hn60 hK60 (by omega)) 900)).trans hB) (by omega)) (xx_dt dd_X14_closeOne 59 rfl) (by decide) rfl rfl (Nat.le_of_ble_eq_true rfl) rfl ?_
      refine sw_icmp_ge (tgt := 214) O (xx_dt dd_X14_closeOne 60 rfl) (by decide) (fun q2 => ?_) (fun q2 => ?_)
      · exact sw_ret O (xx_dt dd_X14_closeOne 104 rfl) rfl (by rw [hQ]; exact ⟨rfl, by unfold g_McloseOne; simp only [if_neg q1]⟩)
      · exact absurd (Int32.le_refl _) q2
  · exact sw_ret O (xx_dt dd_X14_closeOne 50 rfl) rfl (by rw [hQ]; exact ⟨rfl, by unfold g_McloseOne; simp only [if_pos q1]⟩)
end
section
/-! ===== the reference: close ===== -/
theorem sw_forBV {Y : XY} {kf nf : Nat → Nat} {S : Type} (step : Nat → S → S ⊕ S) (P : Nat → S → Prop) (PX : S → Prop) {hd ex : Nat} {hp : S → XH} {lc : Nat → S → List Value} {lx : S → List Value} {N : Nat}
    (hstep : ∀ i s, i < N → P i s → ((∀ s', step i s = .inl s' → P (i + 1) s') ∧ ∀ s', step i s = .inr s' → PX s') ∧ ((∀ s', step i s = .inl s' → SW Y (kf (i + 1)) (nf (i + 1)) (hp s') hd (lc (i + 1) s') []) → (∀ s', step i s = .inr s' → SW Y 0 0 (hp s') ex (lx s') []) → SW Y (kf i) (nf i) (hp s) hd (lc i s) []))
    (hexit : ∀ s, P N s → PX s ∧ (SW Y 0 0 (hp s) ex (lx s) [] → SW Y (kf N) (nf N) (hp s) hd (lc N s) [])) :
    ∀ (f i : Nat) (s : S), i + f = N → P i s → (PX (xitB step f i s) → SW Y 0 0 (hp (xitB step f i s)) ex (lx (xitB step f i s)) []) → SW Y (kf i) (nf i) (hp s) hd (lc i s) []
  | 0, i, s, e, hP, kk => by
    obtain rfl : i = N := by omega
    exact (hexit s hP).2 (kk (hexit s hP).1)
  | f + 1, i, s, e, hP, kk => by
    obtain ⟨⟨h1, h2⟩, h3⟩ := hstep i s (by omega) hP
    unfold xitB at kk
    refine h3 (fun s' e' => ?_) (fun s' e' => ?_)
    · rw [e'] at kk
      exact sw_forBV step P PX hstep hexit f (i + 1) s' (by omega) (h1 s' e') kk
    · rw [e'] at kk
      exact kk (h2 s' e')
/-- what a close asks of the memory -/
def CI (σ : XS9) (R B K g w n : Nat) (pk : Nat → Nat) : Prop := (σ 5001 900 = nI R ∧ R ≤ 5) ∧ (σ 5002 900 = nI B ∧ B ≤ 6) ∧ (σ 5003 900 = nI K ∧ K < 60) ∧ (σ 7000 20 = nI 1 ∧ σ 7000 25 = nI 1) ∧ (σ 7000 23 = nI g ∧ g < 199) ∧ (σ 7000 24 = nI w ∧ w < 199) ∧ (σ 7000 21 = nI n ∧ n < 60 ∧ σ 7000 22 = nI n) ∧ (∀ j, j < B → σ (5030 + j) 900 = nI (2 * pk j) ∧ pk j ≤ 5) ∧ (∀ i r, i < B → r < R → 0 ≤ (f_of (x_Kclose_2 σ 7000 R B g w n σ (7000 + 500 + g) i) r).toInt) ∧ ∀ j, j < 6 → σ (7000 + 700 + w) j = 0 ∨ σ (7000 + 700 + w) j = 1
def CIn (σ : XS9) : Prop := CI σ (cn (σ 5001 900)) (cn (σ 5002 900)) (cn (σ 5003 900)) (cn (σ 7000 23)) (cn (σ 7000 24)) (cn (σ 7000 21)) (fun j => cn (σ (5030 + j) 900) / 2)
def g_clo (σ : XS9) : XS9 := g_McloseOne σ (cn (σ 5001 900)) (cn (σ 5002 900)) (cn (σ 5003 900)) (cn (σ 7000 23)) (cn (σ 7000 24)) (cn (σ 7000 21)) (fun j => cn (σ (5030 + j) 900) / 2)
theorem ct_closeC {l : Launch} {h : XH} (hl : l.stackTraces = false) {z : Int64} {σ : XS9} (hbs : xx_bs h) (hfr : ∀ r, 5000 ≤ r → r < 20010 → h r = none) (hc : CIn σ) : XEx l m_X14_closeOne 12 36 723 [.ref 5000] (setM z σ h) none (setM z (g_clo σ) h) := by
  obtain ⟨⟨a1, a2⟩, ⟨a3, a4⟩, ⟨a5, a6⟩, ⟨a7, a8⟩, ⟨a9, b1⟩, ⟨b2, b3⟩, ⟨b4, b5, b6⟩, b7, b8, b9⟩ := hc
  exact ct_X14_closeOne hl hbs hfr a1 a2 a3 a4 a5 a6 a7 a8 a9 b1 b2 b3 b4 b5 b6 b7 b8 b9
def itC (σ : XS9) : Nat → XS9
  | 0 => σ
  | m + 1 => g_clo (itC σ m)
theorem ci_at {σ s : XS9} {x i : Nat} (hI : ∀ m, m < x → (∀ j, j ≤ m → (itC σ j) 5000 1 = 1) → CIn (itC σ m)) (hi : i < x) (hP : s = itC σ i ∧ ∀ j, j < i → (itC σ j) 5000 1 = 1) (hs : s 5000 1 = 1) : CIn s := by
  obtain ⟨rfl, h2⟩ := hP
  refine hI i hi (fun j hj => ?_)
  rcases Nat.lt_or_ge j i with h | h
  · exact h2 j h
  · obtain rfl : j = i := by omega
    exact hs
def x_Mclose_37 (σ : XS9) (x : Int32) (s0 : XS9) : XS9 := xitB (fun i37 s37 => (if (s37 5000 1) = 1 then .inl (g_clo s37) else .inr s37)) (cn x) 0 s0
def f_Mclose (σ : XS9) (x : Int32) : Int32 := (if n_bt x 1 9 then (if (σ 5000 1) = 1 then (x_Mclose_37 σ x (u2 σ 5000 0 0)) 5000 1 else 0) else 0)
def g_Mclose (σ : XS9) (x : Int32) : XS9 := (if n_bt x 1 9 then (if (σ 5000 1) = 1 then (x_Mclose_37 σ x (u2 σ 5000 0 0)) else u2 (u2 σ 5000 0 0) 5000 0 2) else u2 (u2 σ 5000 0 0) 5000 0 1)
theorem ct_X14_close {l : Launch} {h : XH} (hl : l.stackTraces = false) {z : Int64} {σ : XS9} (hbs : xx_bs h) (hfr : ∀ r, 5000 ≤ r → r < 20010 → h r = none) {x : Int32} (hI : ∀ m, m < cn x → (∀ j, j ≤ m → (itC (u2 σ 5000 0 0) j) 5000 1 = 1) → CIn (itC (u2 σ 5000 0 0) m))  : XEx l m_X14_close 13 324 6507 [.ref 5000, .int x] (setM z σ h) (some (.int (f_Mclose σ x))) (setM z (g_Mclose σ x) h) := by
  refine XMet.of hl rfl rfl (Nat.le_of_ble_eq_true rfl) (fun Y O hh hQ => ?_)
  show SW Y 324 6507 (setM z σ h) 0 [.ref 5000, .int x, xx_d] []
  refine sw_aload_n O (xx_dt dd_X14_close 0 rfl) rfl ?_
  refine sw_iconst (x := 0) O (xx_dt dd_X14_close 1 rfl) (by decide) ?_
  refine sw_put (h2 := setM z (u2 σ 5000 0 0) h) O (xx_dt dd_X14_close 2 rfl) cl_X14 fl_X14_46 (lm_mod (σ := σ)) (by decide) (by omega) rfl (fun _ => ⟨rfl, rfl⟩) (pm_mod (σ := σ) (by omega)) ?_
  refine sw_iload_n O (xx_dt dd_X14_close 3 rfl) rfl ?_
  refine sw_iconst (x := 1) O (xx_dt dd_X14_close 4 rfl) (by decide) ?_
  refine sw_bipush (x := 9) O (xx_dt dd_X14_close 5 rfl) (by decide) ?_
  refine sw_callSx (as := [.int x, .int 1, .int 9]) (st := []) (st2 := [.int (bZ (n_bt x 1 9))]) O (ct_X14_is hl) ce_X14_is ml_X14_70 st_X14_is (xx_dt dd_X14_close 6 rfl) (by decide) rfl rfl (Nat.le_of_ble_eq_true rfl) rfl ?_
  refine sw_if_neB (tgt := 21) O (xx_dt dd_X14_close 7 rfl) (by decide) (fun q1 => ?_) (fun q1 => ?_)
  · have hc12 := (bt_nat 9 q1 (by decide) rfl (by decide))
    refine sw_lsE (ls2 := [.ref 5000, .int (nI (cn x)), xx_d]) (by rw [← hc12.1]) ?_
    have hd12 := hc12.2
    refine sw_aload_n O (xx_dt dd_X14_close 12 rfl) rfl ?_
    refine sw_get (v := .int (σ 5000 1)) O (xx_dt dd_X14_close 13 rfl) cl_X14 fl_X14_77 (lm_mod (σ := u2 σ 5000 0 0)) (by decide) rfl ?_
    refine sw_iconst (x := 1) O (xx_dt dd_X14_close 14 rfl) (by decide) ?_
    refine sw_icmp_eq (tgt := 35) O (xx_dt dd_X14_close 15 rfl) (by decide) (fun q2 => ?_) (fun q2 => ?_)
    · refine sw_iconst (x := 0) O (xx_dt dd_X14_close 20 rfl) (by decide) ?_
      refine sw_istore_n (ls2 := [.ref 5000, .int (nI (cn x)), .int 0]) O (xx_dt dd_X14_close 21 rfl) (by decide) rfl ?_
      refine xx_wid (k' := 0 + 36 * ((cn x) - 0)) (n' := 0 + 723 * ((cn x) - 0)) (by omega) (by omega) ?_
      refine sw_forBV (S := XS9) (kf := fun i9 => 0 + 36 * ((cn x) - i9)) (nf := fun i9 => 0 + 723 * ((cn x) - i9)) (fun i37 s37 => (if (s37 5000 1) = 1 then .inl (g_clo s37) else .inr s37)) (fun i (s : XS9) => s = itC (u2 σ 5000 0 0) i ∧ ∀ j, j < i → (itC (u2 σ 5000 0 0) j) 5000 1 = 1) (fun _ => True) (hp := fun s37 => setM z s37 h) (hd := 37) (lc := fun i37 s37 => [.ref 5000, .int (nI (cn x)), .int (nI i37)]) (ex := 60) (lx := fun s37 => [.ref 5000, .int (nI (cn x)), xx_d]) (N := (cn x)) (fun i37 s37 hi37 hP37 => ⟨⟨(by intro s' e'; revert e'; (try dsimp only); (repeat' split) <;> intro e' <;> first | (cases e'; done) | (have e9 := Sum.inl.inj e'; subst e9; exact ⟨by rw [hP37.1]; rfl, fun j hj => by rcases Nat.lt_or_ge j i37 with h9 | h9; exact hP37.2 j h9; have e8 : j = i37 := (by omega); subst e8; rw [← hP37.1]; assumption⟩)), fun _ _ => trivial⟩, fun kk37 kb37 => ?_⟩) (fun s37 hP37 => ⟨trivial, fun kx37 => ?_⟩) (cn x) 0 (u2 σ 5000 0 0) (by omega) (⟨rfl, fun j hj => absurd hj (by omega)⟩) (fun hP37 => ?_)
      · obtain ⟨kA, ekA⟩ : ∃ k, k = 0 + 36 * ((cn x) - (i37 + 1)) := ⟨_, rfl⟩
        obtain ⟨nA, enA⟩ : ∃ k, k = 0 + 723 * ((cn x) - (i37 + 1)) := ⟨_, rfl⟩
        obtain ⟨kB, ekB⟩ : ∃ k, k = kA + 36 := ⟨_, rfl⟩
        obtain ⟨nB, enB⟩ : ∃ k, k = nA + 723 := ⟨_, rfl⟩
        refine xx_wid (k' := kB) (n' := nB) (by show _ ≤ 0 + 36 * ((cn x) - i37); omega) (by show _ ≤ 0 + 723 * ((cn x) - i37); omega) ?_
        refine sw_iload_n O (xx_dt dd_X14_close 22 rfl) rfl ?_
        refine sw_iload_n O (xx_dt dd_X14_close 23 rfl) rfl ?_
        refine sw_icmp_ge (tgt := 60) O (xx_dt dd_X14_close 24 rfl) (by decide) (fun q3 => ?_) (fun q3 => ?_)
        · exact absurd q3 (nI_ge (b := (cn x)) hi37 (by omega))
        · refine sw_aload_n O (xx_dt dd_X14_close 25 rfl) rfl ?_
          refine sw_get (v := .int (s37 5000 1)) O (xx_dt dd_X14_close 26 rfl) cl_X14 fl_X14_77 (lm_mod (σ := s37)) (by decide) rfl ?_
          refine sw_iconst (x := 1) O (xx_dt dd_X14_close 27 rfl) (by decide) ?_
          refine sw_icmp_ne (tgt := 60) O (xx_dt dd_X14_close 28 rfl) (by decide) (fun q4 => ?_) (fun q4 => ?_)
          · refine sw_dum (ls2 := [.ref 5000, .int (nI (cn x)), xx_d]) ⟨.inr rfl, .inr rfl, .inl rfl, trivial⟩ ?_
            refine xx_wid (k' := 0) (n' := 0) (by omega) (by omega) ?_
            exact kb37 s37 (by simp only [if_neg q4])
          · refine sw_aload_n O (xx_dt dd_X14_close 29 rfl) rfl ?_
            refine xx_wid (k' := kA + 36) (n' := nA + 723) (by omega) (by omega) ?_
            refine sw_callVx (as := []) (st := []) (st2 := []) O (ct_closeC hl (z := z) (σ := s37) hbs hfr (ci_at hI hi37 hP37 (by assumption))) ce_X14_closeOne ml_X14_169 iv_X14_closeOne cl_X14 rfl (lm_mod (σ := s37)) (xx_dt dd_X14_close 30 rfl) (by decide) rfl rfl (Nat.le_of_ble_eq_true rfl) rfl ?_
            refine sw_iinc (y := nI (i37 + 1)) (ls2 := [.ref 5000, .int (nI (cn x)), .int (nI (i37 + 1))]) O (xx_dt dd_X14_close 31 rfl) rfl (nI_1 _) (by decide) rfl ?_
            refine sw_goto (tgt := 37) O (xx_dt dd_X14_close 32 rfl) (by decide) ?_
            refine xx_wid (k' := 0 + 36 * ((cn x) - (i37 + 1))) (n' := 0 + 723 * ((cn x) - (i37 + 1))) (by omega) (by omega) ?_
            exact kk37 (g_clo s37) (by simp only [if_pos q4])
      · show SW Y _ _ (setM z s37 h) 37 [.ref 5000, .int (nI (cn x)), .int (nI ((cn x)))] []
        refine xx_wid (k' := 0) (n' := 0) (by show _ ≤ 0 + 36 * ((cn x) - (cn x)); omega) (by show _ ≤ 0 + 723 * ((cn x) - (cn x)); omega) ?_
        have hZ37 := hP37
        refine sw_iload_n O (xx_dt dd_X14_close 22 rfl) rfl ?_
        refine sw_iload_n O (xx_dt dd_X14_close 23 rfl) rfl ?_
        refine sw_icmp_ge (tgt := 60) O (xx_dt dd_X14_close 24 rfl) (by decide) (fun q3 => ?_) (fun q3 => ?_)
        · refine sw_dum (ls2 := [.ref 5000, .int (nI (cn x)), xx_d]) ⟨.inr rfl, .inr rfl, .inl rfl, trivial⟩ ?_
          refine xx_wid (k' := 0) (n' := 0) (by omega) (by omega) ?_
          exact kx37
        · exact absurd (Int32.le_refl _) q3
      · show SW Y _ _ (setM z (x_Mclose_37 σ x (u2 σ 5000 0 0)) h) 60 [.ref 5000, .int (nI (cn x)), xx_d] []
        refine sw_aload_n O (xx_dt dd_X14_close 33 rfl) rfl ?_
        refine sw_get (v := .int ((x_Mclose_37 σ x (u2 σ 5000 0 0)) 5000 1)) O (xx_dt dd_X14_close 34 rfl) cl_X14 fl_X14_77 (lm_mod (σ := (x_Mclose_37 σ x (u2 σ 5000 0 0)))) (by decide) rfl ?_
        exact sw_iret O (xx_dt dd_X14_close 35 rfl) rfl rfl (by rw [hQ]; exact ⟨by unfold f_Mclose; simp only [if_pos q1, if_pos q2], by unfold g_Mclose; simp only [if_pos q1, if_pos q2]⟩)
    · refine sw_aload_n O (xx_dt dd_X14_close 16 rfl) rfl ?_
      refine sw_iconst (x := 2) O (xx_dt dd_X14_close 17 rfl) (by decide) ?_
      refine sw_callVx (as := [.int 2]) (st := []) (st2 := [.int 0]) O (ct_X14_refuse hl (z := z) (σ := u2 σ 5000 0 0) hbs (x := 2)) ce_X14_refuse ml_X14_74 iv_X14_refuse cl_X14 rfl (lm_mod (σ := u2 σ 5000 0 0)) (xx_dt dd_X14_close 18 rfl) (by decide) rfl rfl (Nat.le_of_ble_eq_true rfl) rfl ?_
      exact sw_iret O (xx_dt dd_X14_close 19 rfl) rfl rfl (by rw [hQ]; exact ⟨by unfold f_Mclose; simp only [if_pos q1, if_neg q2], by unfold g_Mclose; simp only [if_pos q1, if_neg q2]⟩)
  · refine sw_aload_n O (xx_dt dd_X14_close 8 rfl) rfl ?_
    refine sw_iconst (x := 1) O (xx_dt dd_X14_close 9 rfl) (by decide) ?_
    refine sw_callVx (as := [.int 1]) (st := []) (st2 := [.int 0]) O (ct_X14_refuse hl (z := z) (σ := u2 σ 5000 0 0) hbs (x := 1)) ce_X14_refuse ml_X14_74 iv_X14_refuse cl_X14 rfl (lm_mod (σ := u2 σ 5000 0 0)) (xx_dt dd_X14_close 10 rfl) (by decide) rfl rfl (Nat.le_of_ble_eq_true rfl) rfl ?_
    exact sw_iret O (xx_dt dd_X14_close 11 rfl) rfl rfl (by rw [hQ]; exact ⟨by unfold f_Mclose; simp only [if_neg q1], by unfold g_Mclose; simp only [if_neg q1]⟩)
end
section
/-! ===== the reference: isFits ===== -/
def f_MisFits (σ : XS9) (x : Int32) (j c C : Nat) (rg : Nat → Nat) (qa ch : Nat) : Int32 := (if (f_MisFree σ (σ qa c) j rg) = 0 then 0 else f_Mcp (u2 σ qa c ((σ qa c) ||| (1 <<< ((nI j) &&& 31)))) x (j + 1) C rg qa ch)
def g_MisFits (σ : XS9) (x : Int32) (j c C : Nat) (rg : Nat → Nat) (qa ch : Nat) : XS9 := (if (f_MisFree σ (σ qa c) j rg) = 0 then σ else u2 (g_Mcp (u2 σ qa c ((σ qa c) ||| (1 <<< ((nI j) &&& 31)))) x (j + 1) C rg qa ch) qa c (((g_Mcp (u2 σ qa c ((σ qa c) ||| (1 <<< ((nI j) &&& 31)))) x (j + 1) C rg qa ch) qa c) &&& ((1 <<< ((nI j) &&& 31)) ^^^ (-1))))
theorem ct_X14_isFits {l : Launch} {h : XH} (hl : l.stackTraces = false) {z : Int64} {σ : XS9} (hbs : xx_bs h) {R : Nat} (hR : σ 5001 900 = nI R) (hR5 : R ≤ 5) {C : Nat} (hS : σ 5004 900 = nI (2 * C)) (hC10 : C ≤ 10) {rg : Nat → Nat} (hrg : ∀ q, q < C → σ 5004 (2 * q) = nI (rg q) ∧ rg q < R) {qa ch : Nat} (hqa : 20000 ≤ qa ∧ qa < 20010) (hqf : σ qa 20 = nI 1) (hqn : σ qa 21 = nI ch) (hch : ch ≤ 6) {x : Int32} {j : Nat} (hj : j < C) {c : Nat} (hc : c < ch)  : XEx l m_X14_isFits (C + 8) 0 0 [.ref 5000, .int x, .int (nI j), .int (nI c), .ref qa] (setM z σ h) (some (.int (f_MisFits σ x j c C rg qa ch))) (setM z (g_MisFits σ x j c C rg qa ch) h) := by
  refine XMet.of hl rfl rfl (Nat.le_of_ble_eq_true rfl) (fun Y O hh hQ => ?_)
  show SW Y 0 0 (setM z σ h) 0 [.ref 5000, .int x, .int (nI j), .int (nI c), .ref qa, xx_d] []
  refine sw_aload_n O (xx_dt dd_X14_isFits 0 rfl) rfl ?_
  refine sw_aload O (xx_dt dd_X14_isFits 1 rfl) rfl ?_
  refine sw_iload_n O (xx_dt dd_X14_isFits 2 rfl) rfl ?_
  refine sw_iaload (v := .int (σ qa c)) O (xx_dt dd_X14_isFits 3 rfl) ((lm_tmp (z := z) (σ := σ) (h := h) (q := qa) (by omega) (fl1 hqf) hqn (by omega)).get _) (pk_in c _ (by omega)) (by rw [nI_clamp (by omega)]; try exact rfl) ?_
  refine sw_iload_n O (xx_dt dd_X14_isFits 4 rfl) rfl ?_
  refine sw_callVx (as := [.int (σ qa c), .int (nI j)]) (st := []) (st2 := [.int (f_MisFree σ (σ qa c) j rg)]) O (ct_X14_isFree hl (z := z) (σ := σ) hbs (R := R) hR (by omega) (C := C) hS (by omega) (rg := rg) hrg (x := σ qa c) (j := j) (by omega)) ce_X14_isFree ml_X14_268 iv_X14_isFree cl_X14 rfl (lm_mod (σ := σ)) (xx_dt dd_X14_isFits 5 rfl) (by omega) rfl rfl (Nat.le_of_ble_eq_true rfl) rfl ?_
  refine sw_if_ne (tgt := 14) O (xx_dt dd_X14_isFits 6 rfl) (by decide) (fun q1 => ?_) (fun q1 => ?_)
  · refine sw_aload O (xx_dt dd_X14_isFits 9 rfl) rfl ?_
    refine sw_iload_n O (xx_dt dd_X14_isFits 10 rfl) rfl ?_
    refine sw_dup2 O (xx_dt dd_X14_isFits 11 rfl) rfl rfl ?_
    refine sw_iaload (v := .int (σ qa c)) O (xx_dt dd_X14_isFits 12 rfl) ((lm_tmp (z := z) (σ := σ) (h := h) (q := qa) (by omega) (fl1 hqf) hqn (by omega)).get _) (pk_in c _ (by omega)) (by rw [nI_clamp (by omega)]; try exact rfl) ?_
    refine sw_iconst (x := 1) O (xx_dt dd_X14_isFits 13 rfl) (by decide) ?_
    refine sw_iload_n O (xx_dt dd_X14_isFits 14 rfl) rfl ?_
    refine sw_ishl O (xx_dt dd_X14_isFits 15 rfl) ?_
    refine sw_ior O (xx_dt dd_X14_isFits 16 rfl) ?_
    refine sw_iastore (h2 := setM z (u2 σ qa c ((σ qa c) ||| (1 <<< ((nI j) &&& 31)))) h) O (xx_dt dd_X14_isFits 17 rfl) ((lm_tmp (z := z) (σ := σ) (h := h) (q := qa) (by omega) (fl1 hqf) hqn (by omega)).get _) (pk_in c _ (by omega)) (by omega) (by rw [nI_clamp (by omega)]; exact ((lm_tmp (z := z) (σ := σ) (h := h) (q := qa) (by omega) (fl1 hqf) hqn (by omega)).put (by omega))) ?_
    refine sw_aload_n O (xx_dt dd_X14_isFits 18 rfl) rfl ?_
    refine sw_iload_n O (xx_dt dd_X14_isFits 19 rfl) rfl ?_
    refine sw_iload_n O (xx_dt dd_X14_isFits 20 rfl) rfl ?_
    refine sw_iconst (x := 1) O (xx_dt dd_X14_isFits 21 rfl) (by decide) ?_
    refine sw_iadd O (xx_dt dd_X14_isFits 22 rfl) ?_
    rw [nI_a1 j]
    refine sw_aload O (xx_dt dd_X14_isFits 23 rfl) rfl ?_
    refine sw_callVx (as := [.int x, .int (nI (j + 1)), .ref qa]) (st := []) (st2 := [.int (f_Mcp (u2 σ qa c ((σ qa c) ||| (1 <<< ((nI j) &&& 31)))) x (j + 1) C rg qa ch)]) O (ct_X14_canPack hl (z := z) (σ := u2 σ qa c ((σ qa c) ||| (1 <<< ((nI j) &&& 31)))) hbs (R := R) ((congrFun (u2_ne (by omega)) 900).trans hR) (by omega) (C := C) ((congrFun (u2_ne (by omega)) 900).trans hS) (by omega) (rg := rg) (fun j9 hj9 => by rw [show (u2 σ qa c ((σ qa c) ||| (1 <<< ((nI j) &&& 31)))) 5004 = σ 5004 from (u2_ne (by omega))]; exact hrg j9 hj9) (qa := qa) (ch := ch) (by omega) ((u2_oi (by omega)).trans hqf) ((u2_oi (by omega)).trans hqn) (by omega) (x := x) (fr := j + 1) (by omega)) ce_X14_canPack ml_X14_272 iv_X14_canPack cl_X14 rfl (lm_mod (σ := u2 σ qa c ((σ qa c) ||| (1 <<< ((nI j) &&& 31))))) (xx_dt dd_X14_isFits 24 rfl) (by omega) rfl rfl (Nat.le_of_ble_eq_true rfl) rfl ?_
    refine sw_istore (ls2 := [.ref 5000, .int x, .int (nI j), .int (nI c), .ref qa, .int (f_Mcp (u2 σ qa c ((σ qa c) ||| (1 <<< ((nI j) &&& 31)))) x (j + 1) C rg qa ch)]) O (xx_dt dd_X14_isFits 25 rfl) (by decide) rfl ?_
    refine sw_aload O (xx_dt dd_X14_isFits 26 rfl) rfl ?_
    refine sw_iload_n O (xx_dt dd_X14_isFits 27 rfl) rfl ?_
    refine sw_dup2 O (xx_dt dd_X14_isFits 28 rfl) rfl rfl ?_
    refine sw_iaload (v := .int ((g_Mcp (u2 σ qa c ((σ qa c) ||| (1 <<< ((nI j) &&& 31)))) x (j + 1) C rg qa ch) qa c)) O (xx_dt dd_X14_isFits 29 rfl) ((lm_tmp (z := z) (σ := g_Mcp (u2 σ qa c ((σ qa c) ||| (1 <<< ((nI j) &&& 31)))) x (j + 1) C rg qa ch) (h := h) (q := qa) (by omega) (fl1 ((((fl_Mcp (by omega)).1).trans (u2_oi (by omega))).trans hqf)) ((((fl_Mcp (by omega)).2).trans (u2_oi (by omega))).trans hqn) (by omega)).get _) (pk_in c _ (by omega)) (by rw [nI_clamp (by omega)]; try exact rfl) ?_
    refine sw_iconst (x := 1) O (xx_dt dd_X14_isFits 30 rfl) (by decide) ?_
    refine sw_iload_n O (xx_dt dd_X14_isFits 31 rfl) rfl ?_
    refine sw_ishl O (xx_dt dd_X14_isFits 32 rfl) ?_
    refine sw_iconst (x := (-1)) O (xx_dt dd_X14_isFits 33 rfl) (by decide) ?_
    refine sw_ixor O (xx_dt dd_X14_isFits 34 rfl) ?_
    refine sw_iand O (xx_dt dd_X14_isFits 35 rfl) ?_
    refine sw_iastore (h2 := setM z (u2 (g_Mcp (u2 σ qa c ((σ qa c) ||| (1 <<< ((nI j) &&& 31)))) x (j + 1) C rg qa ch) qa c (((g_Mcp (u2 σ qa c ((σ qa c) ||| (1 <<< ((nI j) &&& 31)))) x (j + 1) C rg qa ch) qa c) &&& ((1 <<< ((nI j) &&& 31)) ^^^ (-1)))) h) O (xx_dt dd_X14_isFits 36 rfl) ((lm_tmp (z := z) (σ := g_Mcp (u2 σ qa c ((σ qa c) ||| (1 <<< ((nI j) &&& 31)))) x (j + 1) C rg qa ch) (h := h) (q := qa) (by omega) (fl1 ((((fl_Mcp (by omega)).1).trans (u2_oi (by omega))).trans hqf)) ((((fl_Mcp (by omega)).2).trans (u2_oi (by omega))).trans hqn) (by omega)).get _) (pk_in c _ (by omega)) (by omega) (by rw [nI_clamp (by omega)]; exact ((lm_tmp (z := z) (σ := g_Mcp (u2 σ qa c ((σ qa c) ||| (1 <<< ((nI j) &&& 31)))) x (j + 1) C rg qa ch) (h := h) (q := qa) (by omega) (fl1 ((((fl_Mcp (by omega)).1).trans (u2_oi (by omega))).trans hqf)) ((((fl_Mcp (by omega)).2).trans (u2_oi (by omega))).trans hqn) (by omega)).put (by omega))) ?_
    refine sw_iload O (xx_dt dd_X14_isFits 37 rfl) rfl ?_
    exact sw_iret O (xx_dt dd_X14_isFits 38 rfl) rfl (xx_bool (bo_Mpk _ _ _)) (by rw [hQ]; exact ⟨by unfold f_MisFits; simp only [if_neg q1], by unfold g_MisFits; simp only [if_neg q1]⟩)
  · refine sw_iconst (x := 0) O (xx_dt dd_X14_isFits 7 rfl) (by decide) ?_
    exact sw_iret O (xx_dt dd_X14_isFits 8 rfl) rfl rfl (by rw [hQ]; exact ⟨by unfold f_MisFits; simp only [if_pos q1], by unfold g_MisFits; simp only [if_pos q1]⟩)
end
section
/-! ===== the reference is made ===== -/
def s0M : XS9 := fun r i => if r = 5000 then (if i = 2 then 5 else if i = 3 then 1 else if i = 4 then 10 else 0) else 0
theorem s0M_ctl : ctl s0M = fun _ _ => 0 := by
  funext q i
  unfold ctl
  by_cases e : isCtl q i = true
  · rw [if_pos e]
    have h : q ≠ 5000 := fun h => by
      rw [h] at e
      unfold isCtl at e
      rw [show Nat.ble 5001 5000 = false from rfl, show Nat.beq 5000 5004 = false from rfl, show Nat.ble 5030 5000 = false from rfl, show Nat.beq 5000 7000 = false from rfl, show Nat.beq 5000 8000 = false from rfl, show Nat.beq 5000 9000 = false from rfl, show Nat.ble 20000 5000 = false from rfl] at e
      simp at e
    unfold s0M
    rw [if_neg h]
  · rw [if_neg e]
theorem lyQ_0 {z : Int64} {r : Nat} {s : Nat → Int32} (h : r < 5000 ∨ 5007 < r) : lyQ z (fun _ _ => 0) r s = none := by
  unfold lyQ
  have c0 : cn (0 : Int32) = 0 := rfl
  by_cases u : r < 5010
  · rw [if_pos u]
    split <;> first | rfl | omega
  rw [if_neg u]
  simp only [c0, Nat.not_lt_zero, false_and, if_false, if_true, ite_self, eq_self]
abbrev mod_F : Nat → Value := fun k => match k with | 8 => .ref 5001 | 9 => .ref 5002 | 10 => .ref 5003 | 11 => .ref 5004 | 12 => .null | 13 => .ref 5005 | 14 => .ref 5006 | 15 => .ref 5007 | 16 => .long 0 | k => .int (s0M 5000 k)
theorem new_mod {h : XH} : xx_up (xx_up (xx_up (xx_up (xx_up (xx_up (xx_up (xx_up h 5001 (206, 0, fun k => .ref (5010 + k))) 5002 (206, 0, fun k => .ref (5020 + k))) 5003 (206, 0, fun k => .ref (5200 + k))) 5004 (206, 0, fun k => .ref (xx_box (s0M 5004 k) (nmS s0M k)))) 5005 (100, 6, fun _ => .int 0)) 5006 (100, 6, fun _ => .int 0)) 5007 (100, 5, fun _ => .int 0)) 5000 (20, 17, mod_F) = setM 0 s0M h := by
  have e1 : s0M 5001 900 = nI 0 := rfl
  have e2 : s0M 5002 900 = nI 0 := rfl
  have e3 : s0M 5003 900 = nI 0 := rfl
  have e4 : s0M 5004 900 = nI 0 := rfl
  funext q
  unfold xx_up
  by_cases a0 : q = 5000
  · rw [if_pos a0, a0, lm_modN (show s0M 7000 25 = 0 from rfl)]
    congr 3
  rw [if_neg a0]
  by_cases a7 : q = 5007
  · rw [if_pos a7, a7]; exact (lm_5007 (z := 0) (σ := s0M) (h := h)).symm
  rw [if_neg a7]
  by_cases a6 : q = 5006
  · rw [if_pos a6, a6]; exact (lm_5006 (z := 0) (σ := s0M) (h := h)).symm
  rw [if_neg a6]
  by_cases a5 : q = 5005
  · rw [if_pos a5, a5]; exact (lm_5005 (z := 0) (σ := s0M) (h := h)).symm
  rw [if_neg a5]
  by_cases a4 : q = 5004
  · rw [if_pos a4, a4, lm_5004 e4 (by omega)]
  rw [if_neg a4]
  by_cases a3 : q = 5003
  · rw [if_pos a3, a3, lm_5003 e3 (by omega)]
  rw [if_neg a3]
  by_cases a2 : q = 5002
  · rw [if_pos a2, a2, lm_5002 e2 (by omega)]
  rw [if_neg a2]
  by_cases a1 : q = 5001
  · rw [if_pos a1, a1, lm_5001 e1 (by omega)]
  rw [if_neg a1, setM_no (by rw [s0M_ctl]; exact lyQ_0 (by omega))]
theorem ct_X14_init {l : Launch} {h : XH} (hl : l.stackTraces = false) (hbs : xx_bs h) (hfr : ∀ r, 5000 ≤ r → r < 20010 → h r = none) : XEx l m_X14_init 5 7 29 [.ref 5000] (xx_up h 5000 (20, 17, fun j => defaultValue (tyX14 j))) none (setM 0 s0M h) := by
  refine XMet.of hl rfl rfl (Nat.le_of_ble_eq_true rfl) (fun Y O hh hQ => ?_)
  obtain ⟨f0, hz0⟩ := hbs.1
  show SW Y 7 29 (xx_up h 5000 (20, 17, fun j => defaultValue (tyX14 j))) 0 [.ref 5000] []
  refine sw_aload_n O (xx_dt dd_X14_init 0 rfl) rfl ?_
  refine sw_objInit O oi_X14_1 (xx_dt dd_X14_init 1 rfl) (by omega) (Nat.le_of_ble_eq_true rfl) ?_
  refine sw_aload_n O (xx_dt dd_X14_init 2 rfl) rfl ?_
  refine sw_iconst (x := 5) O (xx_dt dd_X14_init 3 rfl) (by decide) ?_
  refine sw_put (h2 := xx_up h 5000 (20, 17, updV (fun j => defaultValue (tyX14 j)) 2 (.int 5))) O (xx_dt dd_X14_init 4 rfl) cl_X14 fl_X14_7 (xx_up_eq _ _ _) (by decide) (by omega) rfl (fun _ => ⟨rfl, rfl⟩) xx_up_up ?_
  refine sw_aload_n O (xx_dt dd_X14_init 5 rfl) rfl ?_
  refine sw_iconst (x := 1) O (xx_dt dd_X14_init 6 rfl) (by decide) ?_
  refine sw_put (h2 := xx_up h 5000 (20, 17, updV (updV (fun j => defaultValue (tyX14 j)) 2 (.int 5)) 3 (.int 1))) O (xx_dt dd_X14_init 7 rfl) cl_X14 fl_X14_13 (xx_up_eq _ _ _) (by decide) (by omega) rfl (fun _ => ⟨rfl, rfl⟩) xx_up_up ?_
  refine sw_aload_n O (xx_dt dd_X14_init 8 rfl) rfl ?_
  refine sw_bipush (x := 10) O (xx_dt dd_X14_init 9 rfl) (by decide) ?_
  refine sw_put (h2 := xx_up h 5000 (20, 17, updV (updV (updV (fun j => defaultValue (tyX14 j)) 2 (.int 5)) 3 (.int 1)) 4 (.int 10))) O (xx_dt dd_X14_init 10 rfl) cl_X14 fl_X14_17 (xx_up_eq _ _ _) (by decide) (by omega) rfl (fun _ => ⟨rfl, rfl⟩) xx_up_up ?_
  refine sw_aload_n O (xx_dt dd_X14_init 11 rfl) rfl ?_
  refine sw_new (k := 6) (n := 26) (r := 5001) O (xx_dt dd_X14_init 12 rfl) cl_Jx4a65c nw_X14_20 ((xx_up_ne (by omega)).trans (hfr 5001 (by omega) (by omega))) (by omega) ?_
  rw [xx_blk_up]
  refine sw_alter (r := 5001) (F2 := vp_V [.int 0, .null, .int 0]) (xx_up_eq _ _ _) (fun j hj => by match j, hj with | 0, _ => rfl | 1, _ => rfl | 2, _ => rfl) ?_
  rw [xx_up_up, xx_up_sw (by omega)]
  refine sw_dup O (xx_dt dd_X14_init 13 rfl) rfl ?_
  refine sw_callIx (k := 6) (n := 26) (k' := 0) (n' := 0) (as := []) (st := [.ref 5001, .ref 5000]) (st2 := [.ref 5001, .ref 5000]) O (ct_AL_init hl (r := 5001) ((xx_up_ne (by omega)).trans (xx_up_eq _ _ _)) (by omega) (fun k _ => rfl) ((xx_up_ne (by omega)).trans ((xx_up_ne (by omega)).trans hz0))) ce_Jx4a65c_init_da8c8 ml_X14_22 ii_Jx4a65c_init_da8c8 (xx_dt dd_X14_init 14 rfl) (by decide) rfl rfl (Nat.le_of_ble_eq_true rfl) rfl ?_
  refine sw_alter (r := 5001) (F2 := fun k => .ref (5010 + k)) (xx_up_eq _ _ _) (fun j hj => absurd hj (by omega)) ?_
  rw [xx_up_up, xx_up_sw (by omega), xx_up_up]
  refine sw_putF (h2 := xx_up (xx_up h 5001 (206, 0, fun k => .ref (5010 + k))) 5000 (20, 17, updV (updV (updV (updV (fun j => defaultValue (tyX14 j)) 2 (.int 5)) 3 (.int 1)) 4 (.int 10)) 8 (.ref 5001))) O (xx_dt dd_X14_init 15 rfl) cl_X14 fz_X14_23 (xx_up_eq _ _ _) (by decide) (by omega) rfl rfl (fun _ => ⟨rfl, rfl⟩) xx_up_up ?_
  refine sw_aload_n O (xx_dt dd_X14_init 16 rfl) rfl ?_
  refine sw_new (k := 5) (n := 23) (r := 5002) O (xx_dt dd_X14_init 17 rfl) cl_Jx4a65c nw_X14_20 ((xx_up_ne (by omega)).trans ((xx_up_ne (by omega)).trans (hfr 5002 (by omega) (by omega)))) (by omega) ?_
  rw [xx_blk_up]
  refine sw_alter (r := 5002) (F2 := vp_V [.int 0, .null, .int 0]) (xx_up_eq _ _ _) (fun j hj => by match j, hj with | 0, _ => rfl | 1, _ => rfl | 2, _ => rfl) ?_
  rw [xx_up_up, xx_up_sw (by omega)]
  refine sw_dup O (xx_dt dd_X14_init 18 rfl) rfl ?_
  refine sw_callIx (k := 5) (n := 23) (k' := 0) (n' := 0) (as := []) (st := [.ref 5002, .ref 5000]) (st2 := [.ref 5002, .ref 5000]) O (ct_AL_init hl (r := 5002) ((xx_up_ne (by omega)).trans (xx_up_eq _ _ _)) (by omega) (fun k _ => rfl) ((xx_up_ne (by omega)).trans ((xx_up_ne (by omega)).trans ((xx_up_ne (by omega)).trans hz0)))) ce_Jx4a65c_init_da8c8 ml_X14_22 ii_Jx4a65c_init_da8c8 (xx_dt dd_X14_init 19 rfl) (by decide) rfl rfl (Nat.le_of_ble_eq_true rfl) rfl ?_
  refine sw_alter (r := 5002) (F2 := fun k => .ref (5020 + k)) (xx_up_eq _ _ _) (fun j hj => absurd hj (by omega)) ?_
  rw [xx_up_up, xx_up_sw (by omega), xx_up_up]
  refine sw_putF (h2 := xx_up (xx_up (xx_up h 5001 (206, 0, fun k => .ref (5010 + k))) 5002 (206, 0, fun k => .ref (5020 + k))) 5000 (20, 17, updV (updV (updV (updV (updV (fun j => defaultValue (tyX14 j)) 2 (.int 5)) 3 (.int 1)) 4 (.int 10)) 8 (.ref 5001)) 9 (.ref 5002))) O (xx_dt dd_X14_init 20 rfl) cl_X14 fz_X14_27 (xx_up_eq _ _ _) (by decide) (by omega) rfl rfl (fun _ => ⟨rfl, rfl⟩) xx_up_up ?_
  refine sw_aload_n O (xx_dt dd_X14_init 21 rfl) rfl ?_
  refine sw_new (k := 4) (n := 20) (r := 5003) O (xx_dt dd_X14_init 22 rfl) cl_Jx4a65c nw_X14_20 ((xx_up_ne (by omega)).trans ((xx_up_ne (by omega)).trans ((xx_up_ne (by omega)).trans (hfr 5003 (by omega) (by omega))))) (by omega) ?_
  rw [xx_blk_up]
  refine sw_alter (r := 5003) (F2 := vp_V [.int 0, .null, .int 0]) (xx_up_eq _ _ _) (fun j hj => by match j, hj with | 0, _ => rfl | 1, _ => rfl | 2, _ => rfl) ?_
  rw [xx_up_up, xx_up_sw (by omega)]
  refine sw_dup O (xx_dt dd_X14_init 23 rfl) rfl ?_
  refine sw_callIx (k := 4) (n := 20) (k' := 0) (n' := 0) (as := []) (st := [.ref 5003, .ref 5000]) (st2 := [.ref 5003, .ref 5000]) O (ct_AL_init hl (r := 5003) ((xx_up_ne (by omega)).trans (xx_up_eq _ _ _)) (by omega) (fun k _ => rfl) ((xx_up_ne (by omega)).trans ((xx_up_ne (by omega)).trans ((xx_up_ne (by omega)).trans ((xx_up_ne (by omega)).trans hz0))))) ce_Jx4a65c_init_da8c8 ml_X14_22 ii_Jx4a65c_init_da8c8 (xx_dt dd_X14_init 24 rfl) (by decide) rfl rfl (Nat.le_of_ble_eq_true rfl) rfl ?_
  refine sw_alter (r := 5003) (F2 := fun k => .ref (5200 + k)) (xx_up_eq _ _ _) (fun j hj => absurd hj (by omega)) ?_
  rw [xx_up_up, xx_up_sw (by omega), xx_up_up]
  refine sw_putF (h2 := xx_up (xx_up (xx_up (xx_up h 5001 (206, 0, fun k => .ref (5010 + k))) 5002 (206, 0, fun k => .ref (5020 + k))) 5003 (206, 0, fun k => .ref (5200 + k))) 5000 (20, 17, updV (updV (updV (updV (updV (updV (fun j => defaultValue (tyX14 j)) 2 (.int 5)) 3 (.int 1)) 4 (.int 10)) 8 (.ref 5001)) 9 (.ref 5002)) 10 (.ref 5003))) O (xx_dt dd_X14_init 25 rfl) cl_X14 fz_X14_30 (xx_up_eq _ _ _) (by decide) (by omega) rfl rfl (fun _ => ⟨rfl, rfl⟩) xx_up_up ?_
  refine sw_aload_n O (xx_dt dd_X14_init 26 rfl) rfl ?_
  refine sw_new (k := 3) (n := 17) (r := 5004) O (xx_dt dd_X14_init 27 rfl) cl_Jx4a65c nw_X14_20 ((xx_up_ne (by omega)).trans ((xx_up_ne (by omega)).trans ((xx_up_ne (by omega)).trans ((xx_up_ne (by omega)).trans (hfr 5004 (by omega) (by omega)))))) (by omega) ?_
  rw [xx_blk_up]
  refine sw_alter (r := 5004) (F2 := vp_V [.int 0, .null, .int 0]) (xx_up_eq _ _ _) (fun j hj => by match j, hj with | 0, _ => rfl | 1, _ => rfl | 2, _ => rfl) ?_
  rw [xx_up_up, xx_up_sw (by omega)]
  refine sw_dup O (xx_dt dd_X14_init 28 rfl) rfl ?_
  refine sw_callIx (k := 3) (n := 17) (k' := 0) (n' := 0) (as := []) (st := [.ref 5004, .ref 5000]) (st2 := [.ref 5004, .ref 5000]) O (ct_AL_init hl (r := 5004) ((xx_up_ne (by omega)).trans (xx_up_eq _ _ _)) (by omega) (fun k _ => rfl) ((xx_up_ne (by omega)).trans ((xx_up_ne (by omega)).trans ((xx_up_ne (by omega)).trans ((xx_up_ne (by omega)).trans ((xx_up_ne (by omega)).trans hz0)))))) ce_Jx4a65c_init_da8c8 ml_X14_22 ii_Jx4a65c_init_da8c8 (xx_dt dd_X14_init 29 rfl) (by decide) rfl rfl (Nat.le_of_ble_eq_true rfl) rfl ?_
  refine sw_alter (r := 5004) (F2 := fun k => .ref (xx_box (s0M 5004 k) (nmS s0M k))) (xx_up_eq _ _ _) (fun j hj => absurd hj (by omega)) ?_
  rw [xx_up_up, xx_up_sw (by omega), xx_up_up]
  refine sw_putF (h2 := xx_up (xx_up (xx_up (xx_up (xx_up h 5001 (206, 0, fun k => .ref (5010 + k))) 5002 (206, 0, fun k => .ref (5020 + k))) 5003 (206, 0, fun k => .ref (5200 + k))) 5004 (206, 0, fun k => .ref (xx_box (s0M 5004 k) (nmS s0M k)))) 5000 (20, 17, updV (updV (updV (updV (updV (updV (updV (fun j => defaultValue (tyX14 j)) 2 (.int 5)) 3 (.int 1)) 4 (.int 10)) 8 (.ref 5001)) 9 (.ref 5002)) 10 (.ref 5003)) 11 (.ref 5004))) O (xx_dt dd_X14_init 30 rfl) cl_X14 fz_X14_33 (xx_up_eq _ _ _) (by decide) (by omega) rfl rfl (fun _ => ⟨rfl, rfl⟩) xx_up_up ?_
  refine sw_aload_n O (xx_dt dd_X14_init 31 rfl) rfl ?_
  refine sw_bipush (x := 6) O (xx_dt dd_X14_init 32 rfl) (by decide) ?_
  refine sw_newarray (k := 2) (n := 11) (t := 100) (N := 6) (r := 5005) O (xx_dt dd_X14_init 33 rfl) ⟨⟨by omega, by omega⟩, rfl⟩ ac_int (by first | decide | (have h9 := xx_nlt0 6 (by omega); exact h9)) (by first | rfl | exact nI_clamp (by omega)) (by show 6 * 4 ≤ _; omega) ((xx_up_ne (by omega)).trans ((xx_up_ne (by omega)).trans ((xx_up_ne (by omega)).trans ((xx_up_ne (by omega)).trans ((xx_up_ne (by omega)).trans (hfr 5005 (by omega) (by omega))))))) (by omega) ?_
  rw [xx_blk_up, def0, xx_up_sw (by omega)]
  refine sw_putF (h2 := xx_up (xx_up (xx_up (xx_up (xx_up (xx_up h 5001 (206, 0, fun k => .ref (5010 + k))) 5002 (206, 0, fun k => .ref (5020 + k))) 5003 (206, 0, fun k => .ref (5200 + k))) 5004 (206, 0, fun k => .ref (xx_box (s0M 5004 k) (nmS s0M k)))) 5005 (100, 6, fun _ => .int 0)) 5000 (20, 17, updV (updV (updV (updV (updV (updV (updV (updV (fun j => defaultValue (tyX14 j)) 2 (.int 5)) 3 (.int 1)) 4 (.int 10)) 8 (.ref 5001)) 9 (.ref 5002)) 10 (.ref 5003)) 11 (.ref 5004)) 13 (.ref 5005))) O (xx_dt dd_X14_init 34 rfl) cl_X14 fz_X14_36 (xx_up_eq _ _ _) (by decide) (by omega) rfl rfl (fun _ => ⟨rfl, rfl⟩) xx_up_up ?_
  refine sw_aload_n O (xx_dt dd_X14_init 35 rfl) rfl ?_
  refine sw_bipush (x := 6) O (xx_dt dd_X14_init 36 rfl) (by decide) ?_
  refine sw_newarray (k := 1) (n := 5) (t := 100) (N := 6) (r := 5006) O (xx_dt dd_X14_init 37 rfl) ⟨⟨by omega, by omega⟩, rfl⟩ ac_int (by first | decide | (have h9 := xx_nlt0 6 (by omega); exact h9)) (by first | rfl | exact nI_clamp (by omega)) (by show 6 * 4 ≤ _; omega) ((xx_up_ne (by omega)).trans ((xx_up_ne (by omega)).trans ((xx_up_ne (by omega)).trans ((xx_up_ne (by omega)).trans ((xx_up_ne (by omega)).trans ((xx_up_ne (by omega)).trans (hfr 5006 (by omega) (by omega)))))))) (by omega) ?_
  rw [xx_blk_up, def0, xx_up_sw (by omega)]
  refine sw_putF (h2 := xx_up (xx_up (xx_up (xx_up (xx_up (xx_up (xx_up h 5001 (206, 0, fun k => .ref (5010 + k))) 5002 (206, 0, fun k => .ref (5020 + k))) 5003 (206, 0, fun k => .ref (5200 + k))) 5004 (206, 0, fun k => .ref (xx_box (s0M 5004 k) (nmS s0M k)))) 5005 (100, 6, fun _ => .int 0)) 5006 (100, 6, fun _ => .int 0)) 5000 (20, 17, updV (updV (updV (updV (updV (updV (updV (updV (updV (fun j => defaultValue (tyX14 j)) 2 (.int 5)) 3 (.int 1)) 4 (.int 10)) 8 (.ref 5001)) 9 (.ref 5002)) 10 (.ref 5003)) 11 (.ref 5004)) 13 (.ref 5005)) 14 (.ref 5006))) O (xx_dt dd_X14_init 38 rfl) cl_X14 fz_X14_40 (xx_up_eq _ _ _) (by decide) (by omega) rfl rfl (fun _ => ⟨rfl, rfl⟩) xx_up_up ?_
  refine sw_aload_n O (xx_dt dd_X14_init 39 rfl) rfl ?_
  refine sw_iconst (x := 5) O (xx_dt dd_X14_init 40 rfl) (by decide) ?_
  refine sw_newarray (k := 0) (n := 0) (t := 100) (N := 5) (r := 5007) O (xx_dt dd_X14_init 41 rfl) ⟨⟨by omega, by omega⟩, rfl⟩ ac_int (by first | decide | (have h9 := xx_nlt0 5 (by omega); exact h9)) (by first | rfl | exact nI_clamp (by omega)) (by show 5 * 4 ≤ _; omega) ((xx_up_ne (by omega)).trans ((xx_up_ne (by omega)).trans ((xx_up_ne (by omega)).trans ((xx_up_ne (by omega)).trans ((xx_up_ne (by omega)).trans ((xx_up_ne (by omega)).trans ((xx_up_ne (by omega)).trans (hfr 5007 (by omega) (by omega))))))))) (by omega) ?_
  rw [xx_blk_up, def0, xx_up_sw (by omega)]
  refine sw_putF (h2 := xx_up (xx_up (xx_up (xx_up (xx_up (xx_up (xx_up (xx_up h 5001 (206, 0, fun k => .ref (5010 + k))) 5002 (206, 0, fun k => .ref (5020 + k))) 5003 (206, 0, fun k => .ref (5200 + k))) 5004 (206, 0, fun k => .ref (xx_box (s0M 5004 k) (nmS s0M k)))) 5005 (100, 6, fun _ => .int 0)) 5006 (100, 6, fun _ => .int 0)) 5007 (100, 5, fun _ => .int 0)) 5000 (20, 17, updV (updV (updV (updV (updV (updV (updV (updV (updV (updV (fun j => defaultValue (tyX14 j)) 2 (.int 5)) 3 (.int 1)) 4 (.int 10)) 8 (.ref 5001)) 9 (.ref 5002)) 10 (.ref 5003)) 11 (.ref 5004)) 13 (.ref 5005)) 14 (.ref 5006)) 15 (.ref 5007))) O (xx_dt dd_X14_init 42 rfl) cl_X14 fz_X14_43 (xx_up_eq _ _ _) (by decide) (by omega) rfl rfl (fun _ => ⟨rfl, rfl⟩) xx_up_up ?_
  refine sw_alter (F2 := mod_F) (xx_up_eq _ _ _) (fun j hj => by match j, hj with | 0, _ => rfl | 1, _ => rfl | 2, _ => rfl | 3, _ => rfl | 4, _ => rfl | 5, _ => rfl | 6, _ => rfl | 7, _ => rfl | 8, _ => rfl | 9, _ => rfl | 10, _ => rfl | 11, _ => rfl | 12, _ => rfl | 13, _ => rfl | 14, _ => rfl | 15, _ => rfl | 16, _ => rfl | k9 + 17, h9 => exact absurd h9 (by omega)) ?_
  rw [xx_up_up, new_mod]
  exact sw_ret O (xx_dt dd_X14_init 43 rfl) rfl (by rw [hQ]; exact ⟨rfl, rfl⟩)
end
section
/-! ===== the reference: the clock runs anew ===== -/
/-- what f rounds from the i-th on take -/
def rmN : Nat → Nat → Nat
  | 0, _ => 0
  | f + 1, i => 2 * (i + i / 2) + 55 + rmN f (i + 1)
theorem rmN_s {K i : Nat} (h : i < K) : rmN (K - i) i = 2 * (i + i / 2) + 55 + rmN (K - (i + 1)) (i + 1) := by
  rw [show K - i = (K - (i + 1)) + 1 by omega]
  rfl
theorem rmN_le {K : Nat} (h : K ≤ 60) : rmN (K - 0) 0 ≤ 8580 := by
  have : ∀ a : Fin 61, rmN (a.1 - 0) 0 ≤ 8580 := by decide +kernel
  exact this ⟨K, by omega⟩
theorem Kinit_c {σ : XS9} {R B : Nat} : g_Kinit σ 8000 R B 8000 20 = nI 1 ∧ g_Kinit σ 8000 R B 8000 21 = nI 0 ∧ g_Kinit σ 8000 R B 8000 22 = nI 0 ∧ g_Kinit σ 8000 R B 8000 23 = nI (2 * 0) ∧ g_Kinit σ 8000 R B 8000 24 = nI (2 * 0) := by
  have F : ∀ j, g_Kinit σ 8000 R B 8000 j = g_clk0 σ 8000 8000 j := fun j => by
    unfold g_Kinit x_Kinit_132 x_Kinit_95
    rw [xit_keep (fun s : XS9 => s 8000) (fun i s => by (try dsimp only); rw [u2_ne (by omega), u2_ne (by omega)]), xit_keep (fun s : XS9 => s 8000) (fun i s => by (try dsimp only); rw [u2_ne (by omega)])]
  obtain ⟨k1, k2, k3, k4, k5, k6, k7⟩ := clk0_b (σ := σ) (b := 8000)
  exact ⟨(F _).trans k1, (F _).trans k2, (F _).trans k3, (F _).trans k4, (F _).trans k5⟩
theorem anew_step {GA : Nat → XS9 → Prop} {S0 W : XS9} {v : Int32} {R B i : Nat} (hi : i < 60) (h20 : W 8000 20 = nI 1) (hq : ∀ q, (q < 8000 ∨ 9000 ≤ q) → W q = S0 q) (hg : GA (i + 1) (g_Kclose W v 8000 R B (2 * i + 1) (2 * i + 1) i)) : g_Kclose W v 8000 R B (2 * i + 1) (2 * i + 1) i 8000 20 = nI 1 ∧ g_Kclose W v 8000 R B (2 * i + 1) (2 * i + 1) i 8000 21 = nI (i + 1) ∧ g_Kclose W v 8000 R B (2 * i + 1) (2 * i + 1) i 8000 22 = nI (i + 1) ∧ g_Kclose W v 8000 R B (2 * i + 1) (2 * i + 1) i 8000 23 = nI (2 * (i + 1)) ∧ g_Kclose W v 8000 R B (2 * i + 1) (2 * i + 1) i 8000 24 = nI (2 * (i + 1)) ∧ (∀ q, (q < 8000 ∨ 9000 ≤ q) → g_Kclose W v 8000 R B (2 * i + 1) (2 * i + 1) i q = S0 q) ∧ GA (i + 1) (g_Kclose W v 8000 R B (2 * i + 1) (2 * i + 1) i) := by
  obtain ⟨c1, c2, c3, c4, c5, c6⟩ := Kclose_c (σ := W) (x := v) (b := 8000) (R := R) (B := B) (g := 2 * i + 1) (w := 2 * i + 1) (n := i) (by omega) (by omega) hi
  exact ⟨c1.trans h20, c3, c4, c5, c6, fun q h => (fr_Kclose (by omega) (by omega) hi (by omega)).trans (hq q h), hg⟩
def st_anew (σ : XS9) (x : Int32) (j r : Nat) (u : Int32) (R B K : Nat) : Nat → XS9 → XS9 ⊕ XS9 := fun i13 s13 => (if (s13 8000 9) = 0 then (if (nI i13) = (x - 1) then .inl (g_Kclose (u2 (u2 (uR (u2 (uR s13 (8000 + 500 + (2 * i13 + 1)) (s13 (6100 + i13))) 8000 23 (nI (2 * i13 + 1))) (8000 + 700 + (2 * i13 + 1)) ((u2 (uR s13 (8000 + 500 + (2 * i13 + 1)) (s13 (6100 + i13))) 8000 23 (nI (2 * i13 + 1))) (6300 + i13))) 8000 24 (nI (2 * i13 + 1))) (8000 + 500 + (2 * i13 + 1)) j (f_with ((uR s13 (8000 + 500 + (2 * i13 + 1)) (s13 (6100 + i13))) (8000 + 500 + (2 * i13 + 1)) j) r u)) (σ (5200 + i13) 0) 8000 R B (2 * i13 + 1) (2 * i13 + 1) i13) else .inl (g_Kclose (u2 (uR (u2 (uR s13 (8000 + 500 + (2 * i13 + 1)) (s13 (6100 + i13))) 8000 23 (nI (2 * i13 + 1))) (8000 + 700 + (2 * i13 + 1)) ((u2 (uR s13 (8000 + 500 + (2 * i13 + 1)) (s13 (6100 + i13))) 8000 23 (nI (2 * i13 + 1))) (6300 + i13))) 8000 24 (nI (2 * i13 + 1))) (σ (5200 + i13) 0) 8000 R B (2 * i13 + 1) (2 * i13 + 1) i13)) else .inr s13)
def x_MrunAnew_13 (σ : XS9) (x : Int32) (j r : Nat) (u : Int32) (R B K : Nat) (s0 : XS9) : XS9 := xitB (fun i13 s13 => (if (s13 8000 9) = 0 then (if (nI i13) = (x - 1) then .inl (g_Kclose (u2 (u2 (uR (u2 (uR s13 (8000 + 500 + (2 * i13 + 1)) (s13 (6100 + i13))) 8000 23 (nI (2 * i13 + 1))) (8000 + 700 + (2 * i13 + 1)) ((u2 (uR s13 (8000 + 500 + (2 * i13 + 1)) (s13 (6100 + i13))) 8000 23 (nI (2 * i13 + 1))) (6300 + i13))) 8000 24 (nI (2 * i13 + 1))) (8000 + 500 + (2 * i13 + 1)) j (f_with ((uR s13 (8000 + 500 + (2 * i13 + 1)) (s13 (6100 + i13))) (8000 + 500 + (2 * i13 + 1)) j) r u)) (σ (5200 + i13) 0) 8000 R B (2 * i13 + 1) (2 * i13 + 1) i13) else .inl (g_Kclose (u2 (uR (u2 (uR s13 (8000 + 500 + (2 * i13 + 1)) (s13 (6100 + i13))) 8000 23 (nI (2 * i13 + 1))) (8000 + 700 + (2 * i13 + 1)) ((u2 (uR s13 (8000 + 500 + (2 * i13 + 1)) (s13 (6100 + i13))) 8000 23 (nI (2 * i13 + 1))) (6300 + i13))) 8000 24 (nI (2 * i13 + 1))) (σ (5200 + i13) 0) 8000 R B (2 * i13 + 1) (2 * i13 + 1) i13)) else .inr s13)) K 0 s0
def g_MrunAnew (σ : XS9) (x : Int32) (j r : Nat) (u : Int32) (R B K : Nat) : XS9 := (x_MrunAnew_13 σ x j r u R B K (g_Kinit σ 8000 R B))
theorem ct_X14_runAnew {l : Launch} {h : XH} (hl : l.stackTraces = false) {z : Int64} {σ : XS9} (hbs : xx_bs h) (hfr : ∀ r, 5000 ≤ r → r < 20010 → h r = none) {R : Nat} (hR : σ 5001 900 = nI R) (hR5 : R ≤ 5) {B : Nat} (hB : σ 5002 900 = nI B) (hB6 : B ≤ 6) {K : Nat} (hK : σ 5003 900 = nI K) (hK60 : K ≤ 60) (hk8 : σ 8000 20 = 0) {x u : Int32} {j r : Nat} (hj : j < 6) (hr : r < 6) (hlw : ∀ i j, i < K → j < 6 → σ (6300 + i) j = 0 ∨ σ (6300 + i) j = 1) {GA : Nat → XS9 → Prop} (hG0 : GA 0 (g_Kinit σ 8000 R B)) (hG : ∀ (i : Nat) (s s9 : XS9), i < K → GA i s → st_anew σ x j r u R B K i s = .inl s9 → GA (i + 1) s9) (hA1 : ∀ (i13 : Nat) (s13 : XS9), i13 < K → GA i13 s13 → ∀ i9 r9, i9 < B → r9 < R → 0 ≤ (f_of (x_Kclose_2 (u2 (uR (u2 (uR s13 (8000 + 500 + (2 * i13 + 1)) (s13 (6100 + i13))) 8000 23 (nI (2 * i13 + 1))) (8000 + 700 + (2 * i13 + 1)) ((u2 (uR s13 (8000 + 500 + (2 * i13 + 1)) (s13 (6100 + i13))) 8000 23 (nI (2 * i13 + 1))) (6300 + i13))) 8000 24 (nI (2 * i13 + 1))) 8000 R B (2 * i13 + 1) (2 * i13 + 1) i13 (u2 (uR (u2 (uR s13 (8000 + 500 + (2 * i13 + 1)) (s13 (6100 + i13))) 8000 23 (nI (2 * i13 + 1))) (8000 + 700 + (2 * i13 + 1)) ((u2 (uR s13 (8000 + 500 + (2 * i13 + 1)) (s13 (6100 + i13))) 8000 23 (nI (2 * i13 + 1))) (6300 + i13))) 8000 24 (nI (2 * i13 + 1))) (8000 + 500 + (2 * i13 + 1)) i9) r9).toInt) (hA2 : ∀ (i13 : Nat) (s13 : XS9), i13 < K → GA i13 s13 → ∀ i9 r9, i9 < B → r9 < R → 0 ≤ (f_of (x_Kclose_2 (u2 (u2 (uR (u2 (uR s13 (8000 + 500 + (2 * i13 + 1)) (s13 (6100 + i13))) 8000 23 (nI (2 * i13 + 1))) (8000 + 700 + (2 * i13 + 1)) ((u2 (uR s13 (8000 + 500 + (2 * i13 + 1)) (s13 (6100 + i13))) 8000 23 (nI (2 * i13 + 1))) (6300 + i13))) 8000 24 (nI (2 * i13 + 1))) (8000 + 500 + (2 * i13 + 1)) j (f_with ((uR s13 (8000 + 500 + (2 * i13 + 1)) (s13 (6100 + i13))) (8000 + 500 + (2 * i13 + 1)) j) r u)) 8000 R B (2 * i13 + 1) (2 * i13 + 1) i13 (u2 (u2 (uR (u2 (uR s13 (8000 + 500 + (2 * i13 + 1)) (s13 (6100 + i13))) 8000 23 (nI (2 * i13 + 1))) (8000 + 700 + (2 * i13 + 1)) ((u2 (uR s13 (8000 + 500 + (2 * i13 + 1)) (s13 (6100 + i13))) 8000 23 (nI (2 * i13 + 1))) (6300 + i13))) 8000 24 (nI (2 * i13 + 1))) (8000 + 500 + (2 * i13 + 1)) j (f_with ((uR s13 (8000 + 500 + (2 * i13 + 1)) (s13 (6100 + i13))) (8000 + 500 + (2 * i13 + 1)) j) r u)) (8000 + 500 + (2 * i13 + 1)) i9) r9).toInt) : XEx l m_X14_runAnew 10 490 8638 [.ref 5000, .int x, .int (nI j), .int (nI r), .int u] (setM z σ h) (some (.ref 8000)) (setM z (g_MrunAnew σ x j r u R B K) h) := by
  refine XMet.of hl rfl rfl (Nat.le_of_ble_eq_true rfl) (fun Y O hh hQ => ?_)
  have hrm9 := rmN_le hK60
  show SW Y 490 8638 (setM z σ h) 0 [.ref 5000, .int x, .int (nI j), .int (nI r), .int u, xx_d, xx_d] []
  refine sw_new (k := 489) (n := 8627) (r := 8000) O (xx_dt dd_X14_runAnew 0 rfl) cl_X11 nw_X14_136 (noK_r (z := z) (σ := σ) (r := 8000) (.inr rfl) hk8 (by omega) (by omega) hfr) (by omega) ?_
  rw [xx_blk_up]
  refine sw_dup O (xx_dt dd_X14_runAnew 1 rfl) rfl ?_
  refine sw_aload_n O (xx_dt dd_X14_runAnew 2 rfl) rfl ?_
  refine sw_callIx (k := 480) (n := 8580) (k' := 9) (n' := 47) (as := [.ref 5000]) (st := [.ref 8000]) (st2 := [.ref 8000]) O (ct_Kinit hl (z := z) (σ := σ) hbs hfr (R := R) hR (by omega) (B := B) hB (by omega) (b := 8000) (.inr rfl) hk8) ce_X11_init ml_X14_138 ii_X11_init (xx_dt dd_X14_runAnew 3 rfl) (by decide) rfl rfl (Nat.le_of_ble_eq_true rfl) rfl ?_
  refine sw_astore (ls2 := [.ref 5000, .int x, .int (nI j), .int (nI r), .int u, .ref 8000, xx_d]) O (xx_dt dd_X14_runAnew 4 rfl) (by decide) rfl ?_
  refine sw_iconst (x := 0) O (xx_dt dd_X14_runAnew 5 rfl) (by decide) ?_
  refine sw_istore (ls2 := [.ref 5000, .int x, .int (nI j), .int (nI r), .int u, .ref 8000, .int 0]) O (xx_dt dd_X14_runAnew 6 rfl) (by decide) rfl ?_
  refine xx_wid (k' := 0 + 8 * (K - 0)) (n' := rmN (K - 0) 0) (by omega) (by omega) ?_
  refine sw_forBV (S := XS9) (kf := fun i9 => 0 + 8 * (K - i9)) (nf := fun i9 => rmN (K - i9) i9) (fun i13 s13 => (if (s13 8000 9) = 0 then (if (nI i13) = (x - 1) then .inl (g_Kclose (u2 (u2 (uR (u2 (uR s13 (8000 + 500 + (2 * i13 + 1)) (s13 (6100 + i13))) 8000 23 (nI (2 * i13 + 1))) (8000 + 700 + (2 * i13 + 1)) ((u2 (uR s13 (8000 + 500 + (2 * i13 + 1)) (s13 (6100 + i13))) 8000 23 (nI (2 * i13 + 1))) (6300 + i13))) 8000 24 (nI (2 * i13 + 1))) (8000 + 500 + (2 * i13 + 1)) j (f_with ((uR s13 (8000 + 500 + (2 * i13 + 1)) (s13 (6100 + i13))) (8000 + 500 + (2 * i13 + 1)) j) r u)) (σ (5200 + i13) 0) 8000 R B (2 * i13 + 1) (2 * i13 + 1) i13) else .inl (g_Kclose (u2 (uR (u2 (uR s13 (8000 + 500 + (2 * i13 + 1)) (s13 (6100 + i13))) 8000 23 (nI (2 * i13 + 1))) (8000 + 700 + (2 * i13 + 1)) ((u2 (uR s13 (8000 + 500 + (2 * i13 + 1)) (s13 (6100 + i13))) 8000 23 (nI (2 * i13 + 1))) (6300 + i13))) 8000 24 (nI (2 * i13 + 1))) (σ (5200 + i13) 0) 8000 R B (2 * i13 + 1) (2 * i13 + 1) i13)) else .inr s13)) (fun I (s : XS9) => s 8000 20 = nI 1 ∧ s 8000 21 = nI I ∧ s 8000 22 = nI I ∧ s 8000 23 = nI (2 * I) ∧ s 8000 24 = nI (2 * I) ∧ (∀ q, (q < 8000 ∨ 9000 ≤ q) → s q = (g_Kinit σ 8000 R B) q) ∧ GA I s) (fun _ => True) (hp := fun s13 => setM z s13 h) (hd := 13) (lc := fun i13 s13 => [.ref 5000, .int x, .int (nI j), .int (nI r), .int u, .ref 8000, .int (nI i13)]) (ex := 139) (lx := fun s13 => [.ref 5000, .int x, .int (nI j), .int (nI r), .int u, .ref 8000, xx_d]) (N := K) (fun i13 s13 hi13 hP13 => ⟨⟨(by intro s' e'; have hg9 := hG i13 s13 s' hi13 hP13.2.2.2.2.2.2 e'; revert e'; (try dsimp only); (repeat' split) <;> intro e' <;> first | (cases e'; done) | (have e9 := Sum.inl.inj e'; subst e9; exact anew_step (by omega) (by simp (disch := omega) only [u2_ne, uR_ne, u2_nj]; exact hP13.1) (fun q hq => by simp (disch := omega) only [u2_ne, uR_ne]; exact hP13.2.2.2.2.2.1 q hq) hg9)), fun _ _ => trivial⟩, fun kk13 kb13 => ?_⟩) (fun s13 hP13 => ⟨trivial, fun kx13 => ?_⟩) K 0 (g_Kinit σ 8000 R B) (by omega) (⟨(Kinit_c (σ := σ) (R := R) (B := B)).1, (Kinit_c (σ := σ) (R := R) (B := B)).2.1, (Kinit_c (σ := σ) (R := R) (B := B)).2.2.1, (Kinit_c (σ := σ) (R := R) (B := B)).2.2.2.1, (Kinit_c (σ := σ) (R := R) (B := B)).2.2.2.2, fun _ _ => rfl, hG0⟩) (fun hP13 => ?_)
  · obtain ⟨kA, ekA⟩ : ∃ k, k = 0 + 8 * (K - (i13 + 1)) := ⟨_, rfl⟩
    obtain ⟨nA, enA⟩ : ∃ k, k = rmN (K - (i13 + 1)) (i13 + 1) := ⟨_, rfl⟩
    obtain ⟨kB, ekB⟩ : ∃ k, k = kA + 8 := ⟨_, rfl⟩
    obtain ⟨nB, enB⟩ : ∃ k, k = nA + 2 * (i13 + i13 / 2) + 55 := ⟨_, rfl⟩
    refine xx_wid (k' := kB) (n' := nB) (by show _ ≤ 0 + 8 * (K - i13); omega) (by show _ ≤ rmN (K - i13) i13; rw [rmN_s hi13]; omega) ?_
    refine sw_iload O (xx_dt dd_X14_runAnew 7 rfl) rfl ?_
    refine sw_aload_n O (xx_dt dd_X14_runAnew 8 rfl) rfl ?_
    refine sw_get (v := .ref 5003) O (xx_dt dd_X14_runAnew 9 rfl) cl_X14 fl_X14_30 (lm_mod (σ := s13)) (by decide) rfl ?_
    refine sw_callVL (ci := 6) (as := []) (st := [.int (nI i13)]) (st2 := [.int (nI K), .int (nI i13)]) O (ct_AL_size hl (lm_5003 (σ := s13) (K := K) (((congrFun (hP13.2.2.2.2.2.1 _ (by omega)) 900).trans (congrFun (fr_Kinit (by omega)) 900)).trans hK) (by omega))) ce_Jx4a65c_size_8abf5 ml_X14_57 iv_Jx4a65c_size_8abf5 cl_Jx4a65c rfl (lm_5003 (σ := s13) (K := K) (((congrFun (hP13.2.2.2.2.2.1 _ (by omega)) 900).trans (congrFun (fr_Kinit (by omega)) 900)).trans hK) (by omega)) (xx_dt dd_X14_runAnew 10 rfl) (by decide) rfl rfl (Nat.le_of_ble_eq_true rfl) rfl ?_
    refine sw_icmp_ge (tgt := 139) O (xx_dt dd_X14_runAnew 11 rfl) (by decide) (fun q1 => ?_) (fun q1 => ?_)
    · exact absurd q1 (nI_ge (b := K) hi13 (by omega))
    · refine sw_aload O (xx_dt dd_X14_runAnew 12 rfl) rfl ?_
      refine sw_get (v := .int (s13 8000 9)) O (xx_dt dd_X14_runAnew 13 rfl) cl_X11 fl_X14_196 (lm_clk (σ := s13) (b := 8000) (.inr rfl) (fl1 hP13.1) (g := 2 * i13) hP13.2.2.2.1 (by omega) (w := 2 * i13) hP13.2.2.2.2.1 (by omega)) (by decide) rfl ?_
      refine sw_if_ne (tgt := 139) O (xx_dt dd_X14_runAnew 14 rfl) (by decide) (fun q2 => ?_) (fun q2 => ?_)
      · refine sw_dum (ls2 := [.ref 5000, .int x, .int (nI j), .int (nI r), .int u, .ref 8000, xx_d]) ⟨.inr rfl, .inr rfl, .inr rfl, .inr rfl, .inr rfl, .inr rfl, .inl rfl, trivial⟩ ?_
        refine xx_wid (k' := 0) (n' := 0) (by omega) (by omega) ?_
        exact kb13 s13 (by simp only [if_neg q2])
      · refine sw_aload O (xx_dt dd_X14_runAnew 15 rfl) rfl ?_
        refine sw_aload_n O (xx_dt dd_X14_runAnew 16 rfl) rfl ?_
        refine sw_get (v := .ref 5003) O (xx_dt dd_X14_runAnew 17 rfl) cl_X14 fl_X14_30 (lm_mod (σ := s13)) (by decide) rfl ?_
        refine sw_iload O (xx_dt dd_X14_runAnew 18 rfl) rfl ?_
        refine sw_callVL (ci := 6) (as := [.int (nI i13)]) (st := [.ref 8000]) (st2 := [.ref (5200 + i13), .ref 8000]) O (ct_get hl hbs (lm_5003 (σ := s13) (K := K) (((congrFun (hP13.2.2.2.2.2.1 _ (by omega)) 900).trans (congrFun (fr_Kinit (by omega)) 900)).trans hK) (by omega)) (by omega) (i := i13) (x := 5200 + i13) (by omega) (by omega) rfl) ce_Jx4a65c_get_915e3 ml_X14_61 iv_Jx4a65c_get_915e3 cl_Jx4a65c rfl (lm_5003 (σ := s13) (K := K) (((congrFun (hP13.2.2.2.2.2.1 _ (by omega)) 900).trans (congrFun (fr_Kinit (by omega)) 900)).trans hK) (by omega)) (xx_dt dd_X14_runAnew 19 rfl) (by decide) rfl rfl (Nat.le_of_ble_eq_true rfl) rfl ?_
        refine sw_castO O (xx_dt dd_X14_runAnew 20 rfl) cl_X13 (lm_rnd (σ := s13) (K := K) (((congrFun (hP13.2.2.2.2.2.1 _ (by omega)) 900).trans (congrFun (fr_Kinit (by omega)) 900)).trans hK) (by omega) (j := i13) (by omega)) cw_X14_172 ?_
        refine sw_get (v := .ref (6100 + i13)) O (xx_dt dd_X14_runAnew 21 rfl) cl_X13 fl_X14_184 (lm_rnd (σ := s13) (K := K) (((congrFun (hP13.2.2.2.2.2.1 _ (by omega)) 900).trans (congrFun (fr_Kinit (by omega)) 900)).trans hK) (by omega) (j := i13) (by omega)) (by decide) (congrArg Value.ref (show 5200 + i13 + 700 + 100 * 2 = 6100 + i13 by omega)) ?_
        refine xx_wid (k' := kA + 7 + 1) (n' := nA + 2 * (i13 + i13 / 2) + 49 + 6) (by omega) (by omega) (sw_clone (k := kA + 7) (n := nA + 2 * (i13 + i13 / 2) + 49) (t := 100) (N := 6) (r2 := 8000 + 500 + (2 * i13 + 1)) O (.inl rfl) rfl (xx_dt dd_X14_runAnew 22 rfl) cn_X14_179 cx_I ((im_rwi (z := z) (σ := s13) (K := K) (((congrFun (hP13.2.2.2.2.2.1 _ (by omega)) 900).trans (congrFun (fr_Kinit (by omega)) 900)).trans hK) (by omega) (j := i13) (by omega)).get _) (fun _ _ _ => rfl) (no_wsh (z := z) (σ := s13) (b := 8000) (.inr rfl) hP13.1 (fun r9 a9 b9 => hfr r9 (by omega) (by omega)) (n := 2 * i13) hP13.2.2.2.1 (by omega)) (by omega) (Nat.le_of_ble_eq_true rfl) (Nat.le_of_ble_eq_true rfl) ?_)
        rw [xx_blk_up]
        obtain ⟨kB, ekB⟩ : ∃ k, k = kA + 7 := ⟨_, rfl⟩
        obtain ⟨nB, enB⟩ : ∃ k, k = nA + 2 * (i13 + i13 / 2) + 49 := ⟨_, rfl⟩
        refine xx_wid (k' := kB) (n' := nB) (by omega) (by omega) ?_
        refine sw_castA (t := 100) O (xx_dt dd_X14_runAnew 23 rfl) (.inl rfl) (xx_up_eq _ _ _) cw_X14_180 ?_
        refine sw_put (h2 := setM z (u2 (uR s13 (8000 + 500 + (2 * i13 + 1)) (s13 (6100 + i13))) 8000 23 (nI (2 * i13 + 1))) h) O (xx_dt dd_X14_runAnew 24 rfl) cl_X11 fl_X14_145 ((xx_up_ne (by omega)).trans (lm_clk (σ := s13) (b := 8000) (.inr rfl) (fl1 hP13.1) (g := 2 * i13) hP13.2.2.2.1 (by omega) (w := 2 * i13) hP13.2.2.2.2.1 (by omega))) (by decide) (by omega) rfl (fun _ => ⟨rfl, rfl⟩) (new_wsh (z := z) (σ := s13) (h := h) (b := 8000) (.inr rfl) hP13.1 (n := 2 * i13) hP13.2.2.2.1 (by omega) (w := 2 * i13) hP13.2.2.2.2.1 (by omega) (f := s13 (6100 + i13))) ?_
        refine sw_aload O (xx_dt dd_X14_runAnew 25 rfl) rfl ?_
        refine sw_aload_n O (xx_dt dd_X14_runAnew 26 rfl) rfl ?_
        refine sw_get (v := .ref 5003) O (xx_dt dd_X14_runAnew 27 rfl) cl_X14 fl_X14_30 (lm_mod (σ := u2 (uR s13 (8000 + 500 + (2 * i13 + 1)) (s13 (6100 + i13))) 8000 23 (nI (2 * i13 + 1)))) (by decide) rfl ?_
        refine sw_iload O (xx_dt dd_X14_runAnew 28 rfl) rfl ?_
        refine sw_callVL (ci := 6) (as := [.int (nI i13)]) (st := [.ref 8000]) (st2 := [.ref (5200 + i13), .ref 8000]) O (ct_get hl hbs (lm_5003 (σ := u2 (uR s13 (8000 + 500 + (2 * i13 + 1)) (s13 (6100 + i13))) 8000 23 (nI (2 * i13 + 1))) (K := K) (((((congrFun (u2_ne (by omega)) 900).trans (congrFun (uR_ne (by omega)) 900)).trans (congrFun (hP13.2.2.2.2.2.1 _ (by omega)) 900)).trans (congrFun (fr_Kinit (by omega)) 900)).trans hK) (by omega)) (by omega) (i := i13) (x := 5200 + i13) (by omega) (by omega) rfl) ce_Jx4a65c_get_915e3 ml_X14_61 iv_Jx4a65c_get_915e3 cl_Jx4a65c rfl (lm_5003 (σ := u2 (uR s13 (8000 + 500 + (2 * i13 + 1)) (s13 (6100 + i13))) 8000 23 (nI (2 * i13 + 1))) (K := K) (((((congrFun (u2_ne (by omega)) 900).trans (congrFun (uR_ne (by omega)) 900)).trans (congrFun (hP13.2.2.2.2.2.1 _ (by omega)) 900)).trans (congrFun (fr_Kinit (by omega)) 900)).trans hK) (by omega)) (xx_dt dd_X14_runAnew 29 rfl) (by decide) rfl rfl (Nat.le_of_ble_eq_true rfl) rfl ?_
        refine sw_castO O (xx_dt dd_X14_runAnew 30 rfl) cl_X13 (lm_rnd (σ := u2 (uR s13 (8000 + 500 + (2 * i13 + 1)) (s13 (6100 + i13))) 8000 23 (nI (2 * i13 + 1))) (K := K) (((((congrFun (u2_ne (by omega)) 900).trans (congrFun (uR_ne (by omega)) 900)).trans (congrFun (hP13.2.2.2.2.2.1 _ (by omega)) 900)).trans (congrFun (fr_Kinit (by omega)) 900)).trans hK) (by omega) (j := i13) (by omega)) cw_X14_172 ?_
        refine sw_get (v := .ref (6300 + i13)) O (xx_dt dd_X14_runAnew 31 rfl) cl_X13 fl_X14_187 (lm_rnd (σ := u2 (uR s13 (8000 + 500 + (2 * i13 + 1)) (s13 (6100 + i13))) 8000 23 (nI (2 * i13 + 1))) (K := K) (((((congrFun (u2_ne (by omega)) 900).trans (congrFun (uR_ne (by omega)) 900)).trans (congrFun (hP13.2.2.2.2.2.1 _ (by omega)) 900)).trans (congrFun (fr_Kinit (by omega)) 900)).trans hK) (by omega) (j := i13) (by omega)) (by decide) (congrArg Value.ref (show 5200 + i13 + 700 + 100 * 4 = 6300 + i13 by omega)) ?_
        refine xx_wid (k' := kA + 6 + 1) (n' := nA + 2 * (i13 + i13 / 2) + 43 + 6) (by omega) (by omega) (sw_clone (k := kA + 6) (n := nA + 2 * (i13 + i13 / 2) + 43) (t := 101) (N := 6) (r2 := 8000 + 700 + (2 * i13 + 1)) O (.inr (.inl rfl)) rfl (xx_dt dd_X14_runAnew 32 rfl) cn_X14_185 cx_Z (lm_rwa (σ := u2 (uR s13 (8000 + 500 + (2 * i13 + 1)) (s13 (6100 + i13))) 8000 23 (nI (2 * i13 + 1))) (K := K) (((((congrFun (u2_ne (by omega)) 900).trans (congrFun (uR_ne (by omega)) 900)).trans (congrFun (hP13.2.2.2.2.2.1 _ (by omega)) 900)).trans (congrFun (fr_Kinit (by omega)) 900)).trans hK) (by omega) (j := i13) (by omega)) (fun j9 hj9 ρ9 => by have e8 : (u2 (uR s13 (8000 + 500 + (2 * i13 + 1)) (s13 (6100 + i13))) 8000 23 (nI (2 * i13 + 1))) (6300 + i13) j9 = σ (6300 + i13) j9 := ((((congrFun (u2_ne (by omega)) j9).trans (congrFun (uR_ne (by omega)) j9)).trans (congrFun (hP13.2.2.2.2.2.1 _ (by omega)) j9)).trans (congrFun (fr_Kinit (by omega)) j9)); show fits _ (.int ((u2 (uR s13 (8000 + 500 + (2 * i13 + 1)) (s13 (6100 + i13))) 8000 23 (nI (2 * i13 + 1))) (6300 + i13) j9)) = true; rw [e8]; rcases hlw i13 j9 (by omega) hj9 with e9 | e9 <;> rw [e9] <;> rfl) (no_hwa (z := z) (σ := u2 (uR s13 (8000 + 500 + (2 * i13 + 1)) (s13 (6100 + i13))) 8000 23 (nI (2 * i13 + 1))) (b := 8000) (.inr rfl) (((u2_oi (by decide)).trans (congrFun (uR_ne (by omega)) 20)).trans hP13.1) (fun r9 a9 b9 => hfr r9 (by omega) (by omega)) (n := 2 * i13) (((u2_oi (by decide)).trans (congrFun (uR_ne (by omega)) 24)).trans hP13.2.2.2.2.1) (by omega)) (by omega) (Nat.le_of_ble_eq_true rfl) (Nat.le_of_ble_eq_true rfl) ?_)
        rw [xx_blk_up]
        obtain ⟨kB, ekB⟩ : ∃ k, k = kA + 6 := ⟨_, rfl⟩
        obtain ⟨nB, enB⟩ : ∃ k, k = nA + 2 * (i13 + i13 / 2) + 43 := ⟨_, rfl⟩
        refine xx_wid (k' := kB) (n' := nB) (by omega) (by omega) ?_
        refine sw_castA (t := 101) O (xx_dt dd_X14_runAnew 33 rfl) (.inr (.inl rfl)) (xx_up_eq _ _ _) cw_X14_186 ?_
        refine sw_put (h2 := setM z (u2 (uR (u2 (uR s13 (8000 + 500 + (2 * i13 + 1)) (s13 (6100 + i13))) 8000 23 (nI (2 * i13 + 1))) (8000 + 700 + (2 * i13 + 1)) ((u2 (uR s13 (8000 + 500 + (2 * i13 + 1)) (s13 (6100 + i13))) 8000 23 (nI (2 * i13 + 1))) (6300 + i13))) 8000 24 (nI (2 * i13 + 1))) h) O (xx_dt dd_X14_runAnew 34 rfl) cl_X11 fl_X14_165 ((xx_up_ne (by omega)).trans (lm_clk (σ := u2 (uR s13 (8000 + 500 + (2 * i13 + 1)) (s13 (6100 + i13))) 8000 23 (nI (2 * i13 + 1))) (b := 8000) (.inr rfl) (fl1 (((u2_oi (by decide)).trans (congrFun (uR_ne (by omega)) 20)).trans hP13.1)) (g := 2 * i13 + 1) rfl (by omega) (w := 2 * i13) (((u2_oi (by decide)).trans (congrFun (uR_ne (by omega)) 24)).trans hP13.2.2.2.2.1) (by omega))) (by decide) (by omega) rfl (fun _ => ⟨rfl, rfl⟩) (new_hwa (z := z) (σ := u2 (uR s13 (8000 + 500 + (2 * i13 + 1)) (s13 (6100 + i13))) 8000 23 (nI (2 * i13 + 1))) (h := h) (b := 8000) (.inr rfl) (((u2_oi (by decide)).trans (congrFun (uR_ne (by omega)) 20)).trans hP13.1) (n := 2 * i13) (((u2_oi (by decide)).trans (congrFun (uR_ne (by omega)) 24)).trans hP13.2.2.2.2.1) (by omega) (g0 := 2 * i13 + 1) rfl (by omega) (f := (u2 (uR s13 (8000 + 500 + (2 * i13 + 1)) (s13 (6100 + i13))) 8000 23 (nI (2 * i13 + 1))) (6300 + i13))) ?_
        refine sw_iload O (xx_dt dd_X14_runAnew 35 rfl) rfl ?_
        refine sw_iload_n O (xx_dt dd_X14_runAnew 36 rfl) rfl ?_
        refine sw_iconst (x := 1) O (xx_dt dd_X14_runAnew 37 rfl) (by decide) ?_
        refine sw_isub O (xx_dt dd_X14_runAnew 38 rfl) ?_
        refine sw_icmp_ne (tgt := 113) O (xx_dt dd_X14_runAnew 39 rfl) (by decide) (fun q3 => ?_) (fun q3 => ?_)
        · refine sw_aload O (xx_dt dd_X14_runAnew 51 rfl) rfl ?_
          refine sw_aload_n O (xx_dt dd_X14_runAnew 52 rfl) rfl ?_
          refine sw_get (v := .ref 5003) O (xx_dt dd_X14_runAnew 53 rfl) cl_X14 fl_X14_30 (lm_mod (σ := u2 (uR (u2 (uR s13 (8000 + 500 + (2 * i13 + 1)) (s13 (6100 + i13))) 8000 23 (nI (2 * i13 + 1))) (8000 + 700 + (2 * i13 + 1)) ((u2 (uR s13 (8000 + 500 + (2 * i13 + 1)) (s13 (6100 + i13))) 8000 23 (nI (2 * i13 + 1))) (6300 + i13))) 8000 24 (nI (2 * i13 + 1)))) (by decide) rfl ?_
          refine sw_iload O (xx_dt dd_X14_runAnew 54 rfl) rfl ?_
          refine sw_callVL (ci := 6) (as := [.int (nI i13)]) (st := [.ref 8000]) (st2 := [.ref (5200 + i13), .ref 8000]) O (ct_get hl hbs (lm_5003 (σ := u2 (uR (u2 (uR s13 (8000 + 500 + (2 * i13 + 1)) (s13 (6100 + i13))) 8000 23 (nI (2 * i13 + 1))) (8000 + 700 + (2 * i13 + 1)) ((u2 (uR s13 (8000 + 500 + (2 * i13 + 1)) (s13 (6100 + i13))) 8000 23 (nI (2 * i13 + 1))) (6300 + i13))) 8000 24 (nI (2 * i13 + 1))) (K := K) (((((((congrFun (u2_ne (by omega)) 900).trans (congrFun (uR_ne (by omega)) 900)).trans (congrFun (u2_ne (by omega)) 900)).trans (congrFun (uR_ne (by omega)) 900)).trans (congrFun (hP13.2.2.2.2.2.1 _ (by omega)) 900)).trans (congrFun (fr_Kinit (by omega)) 900)).trans hK) (by omega)) (by omega) (i := i13) (x := 5200 + i13) (by omega) (by omega) rfl) ce_Jx4a65c_get_915e3 ml_X14_61 iv_Jx4a65c_get_915e3 cl_Jx4a65c rfl (lm_5003 (σ := u2 (uR (u2 (uR s13 (8000 + 500 + (2 * i13 + 1)) (s13 (6100 + i13))) 8000 23 (nI (2 * i13 + 1))) (8000 + 700 + (2 * i13 + 1)) ((u2 (uR s13 (8000 + 500 + (2 * i13 + 1)) (s13 (6100 + i13))) 8000 23 (nI (2 * i13 + 1))) (6300 + i13))) 8000 24 (nI (2 * i13 + 1))) (K := K) (((((((congrFun (u2_ne (by omega)) 900).trans (congrFun (uR_ne (by omega)) 900)).trans (congrFun (u2_ne (by omega)) 900)).trans (congrFun (uR_ne (by omega)) 900)).trans (congrFun (hP13.2.2.2.2.2.1 _ (by omega)) 900)).trans (congrFun (fr_Kinit (by omega)) 900)).trans hK) (by omega)) (xx_dt dd_X14_runAnew 55 rfl) (by decide) rfl rfl (Nat.le_of_ble_eq_true rfl) rfl ?_
          refine sw_castO O (xx_dt dd_X14_runAnew 56 rfl) cl_X13 (lm_rnd (σ := u2 (uR (u2 (uR s13 (8000 + 500 + (2 * i13 + 1)) (s13 (6100 + i13))) 8000 23 (nI (2 * i13 + 1))) (8000 + 700 + (2 * i13 + 1)) ((u2 (uR s13 (8000 + 500 + (2 * i13 + 1)) (s13 (6100 + i13))) 8000 23 (nI (2 * i13 + 1))) (6300 + i13))) 8000 24 (nI (2 * i13 + 1))) (K := K) (((((((congrFun (u2_ne (by omega)) 900).trans (congrFun (uR_ne (by omega)) 900)).trans (congrFun (u2_ne (by omega)) 900)).trans (congrFun (uR_ne (by omega)) 900)).trans (congrFun (hP13.2.2.2.2.2.1 _ (by omega)) 900)).trans (congrFun (fr_Kinit (by omega)) 900)).trans hK) (by omega) (j := i13) (by omega)) cw_X14_172 ?_
          refine sw_get (v := .int (σ (5200 + i13) 0)) O (xx_dt dd_X14_runAnew 57 rfl) cl_X13 fl_X14_175 (lm_rnd (σ := u2 (uR (u2 (uR s13 (8000 + 500 + (2 * i13 + 1)) (s13 (6100 + i13))) 8000 23 (nI (2 * i13 + 1))) (8000 + 700 + (2 * i13 + 1)) ((u2 (uR s13 (8000 + 500 + (2 * i13 + 1)) (s13 (6100 + i13))) 8000 23 (nI (2 * i13 + 1))) (6300 + i13))) 8000 24 (nI (2 * i13 + 1))) (K := K) (((((((congrFun (u2_ne (by omega)) 900).trans (congrFun (uR_ne (by omega)) 900)).trans (congrFun (u2_ne (by omega)) 900)).trans (congrFun (uR_ne (by omega)) 900)).trans (congrFun (hP13.2.2.2.2.2.1 _ (by omega)) 900)).trans (congrFun (fr_Kinit (by omega)) 900)).trans hK) (by omega) (j := i13) (by omega)) (by decide) (congrArg Value.int ((((((congrFun (u2_ne (by omega)) 0).trans (congrFun (uR_ne (by omega)) 0)).trans (congrFun (u2_ne (by omega)) 0)).trans (congrFun (uR_ne (by omega)) 0)).trans (congrFun (hP13.2.2.2.2.2.1 _ (by omega)) 0)).trans (congrFun (fr_Kinit (by omega)) 0))) ?_
          refine xx_wid (k' := kA + 6) (n' := nA + (23 + 2 * (i13 + i13 / 2 + 10))) (by omega) (by omega) ?_
          refine sw_callVx (k' := 6) (n' := 23 + 2 * (i13 + i13 / 2 + 10)) (as := [.int (σ (5200 + i13) 0)]) (st := []) (st2 := []) O (ct_X11_close hl (z := z) (σ := u2 (uR (u2 (uR s13 (8000 + 500 + (2 * i13 + 1)) (s13 (6100 + i13))) 8000 23 (nI (2 * i13 + 1))) (8000 + 700 + (2 * i13 + 1)) ((u2 (uR s13 (8000 + 500 + (2 * i13 + 1)) (s13 (6100 + i13))) 8000 23 (nI (2 * i13 + 1))) (6300 + i13))) 8000 24 (nI (2 * i13 + 1))) hbs (b := 8000) (fun r9 a9 b9 => hfr r9 (by omega) (by omega)) (.inr rfl) (((((u2_oi (by decide)).trans (congrFun (uR_ne (by omega)) 20)).trans (u2_oi (by decide))).trans (congrFun (uR_ne (by omega)) 20)).trans hP13.1) (g := 2 * i13 + 1) (((u2_oi (by decide)).trans (congrFun (uR_ne (by omega)) 23)).trans rfl) (by omega) (w := 2 * i13 + 1) rfl (by omega) (R := R) (((((((congrFun (u2_ne (by omega)) 900).trans (congrFun (uR_ne (by omega)) 900)).trans (congrFun (u2_ne (by omega)) 900)).trans (congrFun (uR_ne (by omega)) 900)).trans (congrFun (hP13.2.2.2.2.2.1 _ (by omega)) 900)).trans (congrFun (fr_Kinit (by omega)) 900)).trans hR) (by omega) (B := B) (((((((congrFun (u2_ne (by omega)) 900).trans (congrFun (uR_ne (by omega)) 900)).trans (congrFun (u2_ne (by omega)) 900)).trans (congrFun (uR_ne (by omega)) 900)).trans (congrFun (hP13.2.2.2.2.2.1 _ (by omega)) 900)).trans (congrFun (fr_Kinit (by omega)) 900)).trans hB) (by omega) (n := i13) (((((u2_oi (by decide)).trans (congrFun (uR_ne (by omega)) 21)).trans (u2_oi (by decide))).trans (congrFun (uR_ne (by omega)) 21)).trans hP13.2.1) (by omega) (((((u2_oi (by decide)).trans (congrFun (uR_ne (by omega)) 22)).trans (u2_oi (by decide))).trans (congrFun (uR_ne (by omega)) 22)).trans hP13.2.2.1) (x := σ (5200 + i13) 0) (hA1 i13 s13 hi13 hP13.2.2.2.2.2.2)) ce_X11_close ml_X14_188 iv_X11_close cl_X11 rfl ((setM_of (by omega) (lq_clk (.inr rfl) (fl1 (((((u2_oi (by decide)).trans (congrFun (uR_ne (by omega)) 20)).trans (u2_oi (by decide))).trans (congrFun (uR_ne (by omega)) 20)).trans hP13.1)) (g := 2 * i13 + 1) (((u2_oi (by decide)).trans (congrFun (uR_ne (by omega)) 23)).trans rfl) (by omega) (w := 2 * i13 + 1) rfl (by omega) _))) (xx_dt dd_X14_runAnew 58 rfl) (by decide) rfl rfl (Nat.le_of_ble_eq_true rfl) rfl ?_
          refine sw_iinc (y := nI (i13 + 1)) (ls2 := [.ref 5000, .int x, .int (nI j), .int (nI r), .int u, .ref 8000, .int (nI (i13 + 1))]) O (xx_dt dd_X14_runAnew 59 rfl) rfl (nI_1 _) (by decide) rfl ?_
          refine sw_goto (tgt := 13) O (xx_dt dd_X14_runAnew 60 rfl) (by decide) ?_
          refine xx_wid (k' := 0 + 8 * (K - (i13 + 1))) (n' := rmN (K - (i13 + 1)) (i13 + 1)) (by omega) (by omega) ?_
          exact kk13 (g_Kclose (u2 (uR (u2 (uR s13 (8000 + 500 + (2 * i13 + 1)) (s13 (6100 + i13))) 8000 23 (nI (2 * i13 + 1))) (8000 + 700 + (2 * i13 + 1)) ((u2 (uR s13 (8000 + 500 + (2 * i13 + 1)) (s13 (6100 + i13))) 8000 23 (nI (2 * i13 + 1))) (6300 + i13))) 8000 24 (nI (2 * i13 + 1))) (σ (5200 + i13) 0) 8000 R B (2 * i13 + 1) (2 * i13 + 1) i13) (by simp only [if_pos q2, if_neg q3])
        · refine sw_aload O (xx_dt dd_X14_runAnew 40 rfl) rfl ?_
          refine sw_get (v := .ref (8000 + 500 + (2 * i13 + 1))) O (xx_dt dd_X14_runAnew 41 rfl) cl_X11 fl_X14_145 (lm_clk (σ := u2 (uR (u2 (uR s13 (8000 + 500 + (2 * i13 + 1)) (s13 (6100 + i13))) 8000 23 (nI (2 * i13 + 1))) (8000 + 700 + (2 * i13 + 1)) ((u2 (uR s13 (8000 + 500 + (2 * i13 + 1)) (s13 (6100 + i13))) 8000 23 (nI (2 * i13 + 1))) (6300 + i13))) 8000 24 (nI (2 * i13 + 1))) (b := 8000) (.inr rfl) (fl1 (((((u2_oi (by decide)).trans (congrFun (uR_ne (by omega)) 20)).trans (u2_oi (by decide))).trans (congrFun (uR_ne (by omega)) 20)).trans hP13.1)) (g := 2 * i13 + 1) (((u2_oi (by decide)).trans (congrFun (uR_ne (by omega)) 23)).trans rfl) (by omega) (w := 2 * i13 + 1) rfl (by omega)) (by decide) rfl ?_
          refine sw_iload_n O (xx_dt dd_X14_runAnew 42 rfl) rfl ?_
          refine sw_aload O (xx_dt dd_X14_runAnew 43 rfl) rfl ?_
          refine sw_get (v := .ref (8000 + 500 + (2 * i13 + 1))) O (xx_dt dd_X14_runAnew 44 rfl) cl_X11 fl_X14_145 (lm_clk (σ := u2 (uR (u2 (uR s13 (8000 + 500 + (2 * i13 + 1)) (s13 (6100 + i13))) 8000 23 (nI (2 * i13 + 1))) (8000 + 700 + (2 * i13 + 1)) ((u2 (uR s13 (8000 + 500 + (2 * i13 + 1)) (s13 (6100 + i13))) 8000 23 (nI (2 * i13 + 1))) (6300 + i13))) 8000 24 (nI (2 * i13 + 1))) (b := 8000) (.inr rfl) (fl1 (((((u2_oi (by decide)).trans (congrFun (uR_ne (by omega)) 20)).trans (u2_oi (by decide))).trans (congrFun (uR_ne (by omega)) 20)).trans hP13.1)) (g := 2 * i13 + 1) (((u2_oi (by decide)).trans (congrFun (uR_ne (by omega)) 23)).trans rfl) (by omega) (w := 2 * i13 + 1) rfl (by omega)) (by decide) rfl ?_
          refine sw_iload_n O (xx_dt dd_X14_runAnew 45 rfl) rfl ?_
          refine sw_iaload (v := .int ((uR s13 (8000 + 500 + (2 * i13 + 1)) (s13 (6100 + i13))) (8000 + 500 + (2 * i13 + 1)) j)) O (xx_dt dd_X14_runAnew 46 rfl) ((im_wsh (z := z) (σ := u2 (uR (u2 (uR s13 (8000 + 500 + (2 * i13 + 1)) (s13 (6100 + i13))) 8000 23 (nI (2 * i13 + 1))) (8000 + 700 + (2 * i13 + 1)) ((u2 (uR s13 (8000 + 500 + (2 * i13 + 1)) (s13 (6100 + i13))) 8000 23 (nI (2 * i13 + 1))) (6300 + i13))) 8000 24 (nI (2 * i13 + 1))) (b := 8000) (.inr rfl) (((((u2_oi (by decide)).trans (congrFun (uR_ne (by omega)) 20)).trans (u2_oi (by decide))).trans (congrFun (uR_ne (by omega)) 20)).trans hP13.1) (g := 2 * i13 + 1) (((u2_oi (by decide)).trans (congrFun (uR_ne (by omega)) 23)).trans rfl) (by omega) (j := (2 * i13 + 1)) (by omega)).get _) (pk_in j _ (by omega)) (by rw [nI_clamp (by omega)]; exact (congrArg Value.int (((congrFun (u2_ne (by omega)) j).trans (congrFun (uR_ne (by omega)) j)).trans (congrFun (u2_ne (by omega)) j)))) ?_
          refine sw_iload_n O (xx_dt dd_X14_runAnew 47 rfl) rfl ?_
          refine sw_iload O (xx_dt dd_X14_runAnew 48 rfl) rfl ?_
          refine sw_callSx (as := [.int ((uR s13 (8000 + 500 + (2 * i13 + 1)) (s13 (6100 + i13))) (8000 + 500 + (2 * i13 + 1)) j), .int (nI r), .int u]) (st := [.int (nI j), .ref (8000 + 500 + (2 * i13 + 1))]) (st2 := [.int (f_with ((uR s13 (8000 + 500 + (2 * i13 + 1)) (s13 (6100 + i13))) (8000 + 500 + (2 * i13 + 1)) j) r u), .int (nI j), .ref (8000 + 500 + (2 * i13 + 1))]) O (ct_X14_with hl (c := (uR s13 (8000 + 500 + (2 * i13 + 1)) (s13 (6100 + i13))) (8000 + 500 + (2 * i13 + 1)) j) (r := r) (m := u) (by omega)) ce_X14_with ml_X14_148 st_X14_with (xx_dt dd_X14_runAnew 49 rfl) (by decide) rfl rfl (Nat.le_of_ble_eq_true rfl) rfl ?_
          refine sw_iastore (h2 := setM z (u2 (u2 (uR (u2 (uR s13 (8000 + 500 + (2 * i13 + 1)) (s13 (6100 + i13))) 8000 23 (nI (2 * i13 + 1))) (8000 + 700 + (2 * i13 + 1)) ((u2 (uR s13 (8000 + 500 + (2 * i13 + 1)) (s13 (6100 + i13))) 8000 23 (nI (2 * i13 + 1))) (6300 + i13))) 8000 24 (nI (2 * i13 + 1))) (8000 + 500 + (2 * i13 + 1)) j (f_with ((uR s13 (8000 + 500 + (2 * i13 + 1)) (s13 (6100 + i13))) (8000 + 500 + (2 * i13 + 1)) j) r u)) h) O (xx_dt dd_X14_runAnew 50 rfl) ((im_wsh (z := z) (σ := u2 (uR (u2 (uR s13 (8000 + 500 + (2 * i13 + 1)) (s13 (6100 + i13))) 8000 23 (nI (2 * i13 + 1))) (8000 + 700 + (2 * i13 + 1)) ((u2 (uR s13 (8000 + 500 + (2 * i13 + 1)) (s13 (6100 + i13))) 8000 23 (nI (2 * i13 + 1))) (6300 + i13))) 8000 24 (nI (2 * i13 + 1))) (b := 8000) (.inr rfl) (((((u2_oi (by decide)).trans (congrFun (uR_ne (by omega)) 20)).trans (u2_oi (by decide))).trans (congrFun (uR_ne (by omega)) 20)).trans hP13.1) (g := 2 * i13 + 1) (((u2_oi (by decide)).trans (congrFun (uR_ne (by omega)) 23)).trans rfl) (by omega) (j := (2 * i13 + 1)) (by omega)).get _) (pk_in j _ (by omega)) (by omega) (by rw [nI_clamp (by omega)]; exact ((im_wsh (z := z) (σ := u2 (uR (u2 (uR s13 (8000 + 500 + (2 * i13 + 1)) (s13 (6100 + i13))) 8000 23 (nI (2 * i13 + 1))) (8000 + 700 + (2 * i13 + 1)) ((u2 (uR s13 (8000 + 500 + (2 * i13 + 1)) (s13 (6100 + i13))) 8000 23 (nI (2 * i13 + 1))) (6300 + i13))) 8000 24 (nI (2 * i13 + 1))) (b := 8000) (.inr rfl) (((((u2_oi (by decide)).trans (congrFun (uR_ne (by omega)) 20)).trans (u2_oi (by decide))).trans (congrFun (uR_ne (by omega)) 20)).trans hP13.1) (g := 2 * i13 + 1) (((u2_oi (by decide)).trans (congrFun (uR_ne (by omega)) 23)).trans rfl) (by omega) (j := (2 * i13 + 1)) (by omega)).put (by omega))) ?_
          refine sw_aload O (xx_dt dd_X14_runAnew 51 rfl) rfl ?_
          refine sw_aload_n O (xx_dt dd_X14_runAnew 52 rfl) rfl ?_
          refine sw_get (v := .ref 5003) O (xx_dt dd_X14_runAnew 53 rfl) cl_X14 fl_X14_30 (lm_mod (σ := u2 (u2 (uR (u2 (uR s13 (8000 + 500 + (2 * i13 + 1)) (s13 (6100 + i13))) 8000 23 (nI (2 * i13 + 1))) (8000 + 700 + (2 * i13 + 1)) ((u2 (uR s13 (8000 + 500 + (2 * i13 + 1)) (s13 (6100 + i13))) 8000 23 (nI (2 * i13 + 1))) (6300 + i13))) 8000 24 (nI (2 * i13 + 1))) (8000 + 500 + (2 * i13 + 1)) j (f_with ((uR s13 (8000 + 500 + (2 * i13 + 1)) (s13 (6100 + i13))) (8000 + 500 + (2 * i13 + 1)) j) r u))) (by decide) rfl ?_
          refine sw_iload O (xx_dt dd_X14_runAnew 54 rfl) rfl ?_
          refine sw_callVL (ci := 6) (as := [.int (nI i13)]) (st := [.ref 8000]) (st2 := [.ref (5200 + i13), .ref 8000]) O (ct_get hl hbs (lm_5003 (σ := u2 (u2 (uR (u2 (uR s13 (8000 + 500 + (2 * i13 + 1)) (s13 (6100 + i13))) 8000 23 (nI (2 * i13 + 1))) (8000 + 700 + (2 * i13 + 1)) ((u2 (uR s13 (8000 + 500 + (2 * i13 + 1)) (s13 (6100 + i13))) 8000 23 (nI (2 * i13 + 1))) (6300 + i13))) 8000 24 (nI (2 * i13 + 1))) (8000 + 500 + (2 * i13 + 1)) j (f_with ((uR s13 (8000 + 500 + (2 * i13 + 1)) (s13 (6100 + i13))) (8000 + 500 + (2 * i13 + 1)) j) r u)) (K := K) ((((((((congrFun (u2_ne (by omega)) 900).trans (congrFun (u2_ne (by omega)) 900)).trans (congrFun (uR_ne (by omega)) 900)).trans (congrFun (u2_ne (by omega)) 900)).trans (congrFun (uR_ne (by omega)) 900)).trans (congrFun (hP13.2.2.2.2.2.1 _ (by omega)) 900)).trans (congrFun (fr_Kinit (by omega)) 900)).trans hK) (by omega)) (by omega) (i := i13) (x := 5200 + i13) (by omega) (by omega) rfl) ce_Jx4a65c_get_915e3 ml_X14_61 iv_Jx4a65c_get_915e3 cl_Jx4a65c rfl (lm_5003 (σ := u2 (u2 (uR (u2 (uR s13 (8000 + 500 + (2 * i13 + 1)) (s13 (6100 + i13))) 8000 23 (nI (2 * i13 + 1))) (8000 + 700 + (2 * i13 + 1)) ((u2 (uR s13 (8000 + 500 + (2 * i13 + 1)) (s13 (6100 + i13))) 8000 23 (nI (2 * i13 + 1))) (6300 + i13))) 8000 24 (nI (2 * i13 + 1))) (8000 + 500 + (2 * i13 + 1)) j (f_with ((uR s13 (8000 + 500 + (2 * i13 + 1)) (s13 (6100 + i13))) (8000 + 500 + (2 * i13 + 1)) j) r u)) (K := K) ((((((((congrFun (u2_ne (by omega)) 900).trans (congrFun (u2_ne (by omega)) 900)).trans (congrFun (uR_ne (by omega)) 900)).trans (congrFun (u2_ne (by omega)) 900)).trans (congrFun (uR_ne (by omega)) 900)).trans (congrFun (hP13.2.2.2.2.2.1 _ (by omega)) 900)).trans (congrFun (fr_Kinit (by omega)) 900)).trans hK) (by omega)) (xx_dt dd_X14_runAnew 55 rfl) (by decide) rfl rfl (Nat.le_of_ble_eq_true rfl) rfl ?_
          refine sw_castO O (xx_dt dd_X14_runAnew 56 rfl) cl_X13 (lm_rnd (σ := u2 (u2 (uR (u2 (uR s13 (8000 + 500 + (2 * i13 + 1)) (s13 (6100 + i13))) 8000 23 (nI (2 * i13 + 1))) (8000 + 700 + (2 * i13 + 1)) ((u2 (uR s13 (8000 + 500 + (2 * i13 + 1)) (s13 (6100 + i13))) 8000 23 (nI (2 * i13 + 1))) (6300 + i13))) 8000 24 (nI (2 * i13 + 1))) (8000 + 500 + (2 * i13 + 1)) j (f_with ((uR s13 (8000 + 500 + (2 * i13 + 1)) (s13 (6100 + i13))) (8000 + 500 + (2 * i13 + 1)) j) r u)) (K := K) ((((((((congrFun (u2_ne (by omega)) 900).trans (congrFun (u2_ne (by omega)) 900)).trans (congrFun (uR_ne (by omega)) 900)).trans (congrFun (u2_ne (by omega)) 900)).trans (congrFun (uR_ne (by omega)) 900)).trans (congrFun (hP13.2.2.2.2.2.1 _ (by omega)) 900)).trans (congrFun (fr_Kinit (by omega)) 900)).trans hK) (by omega) (j := i13) (by omega)) cw_X14_172 ?_
          refine sw_get (v := .int (σ (5200 + i13) 0)) O (xx_dt dd_X14_runAnew 57 rfl) cl_X13 fl_X14_175 (lm_rnd (σ := u2 (u2 (uR (u2 (uR s13 (8000 + 500 + (2 * i13 + 1)) (s13 (6100 + i13))) 8000 23 (nI (2 * i13 + 1))) (8000 + 700 + (2 * i13 + 1)) ((u2 (uR s13 (8000 + 500 + (2 * i13 + 1)) (s13 (6100 + i13))) 8000 23 (nI (2 * i13 + 1))) (6300 + i13))) 8000 24 (nI (2 * i13 + 1))) (8000 + 500 + (2 * i13 + 1)) j (f_with ((uR s13 (8000 + 500 + (2 * i13 + 1)) (s13 (6100 + i13))) (8000 + 500 + (2 * i13 + 1)) j) r u)) (K := K) ((((((((congrFun (u2_ne (by omega)) 900).trans (congrFun (u2_ne (by omega)) 900)).trans (congrFun (uR_ne (by omega)) 900)).trans (congrFun (u2_ne (by omega)) 900)).trans (congrFun (uR_ne (by omega)) 900)).trans (congrFun (hP13.2.2.2.2.2.1 _ (by omega)) 900)).trans (congrFun (fr_Kinit (by omega)) 900)).trans hK) (by omega) (j := i13) (by omega)) (by decide) (congrArg Value.int (((((((congrFun (u2_ne (by omega)) 0).trans (congrFun (u2_ne (by omega)) 0)).trans (congrFun (uR_ne (by omega)) 0)).trans (congrFun (u2_ne (by omega)) 0)).trans (congrFun (uR_ne (by omega)) 0)).trans (congrFun (hP13.2.2.2.2.2.1 _ (by omega)) 0)).trans (congrFun (fr_Kinit (by omega)) 0))) ?_
          refine xx_wid (k' := kA + 6) (n' := nA + (23 + 2 * (i13 + i13 / 2 + 10))) (by omega) (by omega) ?_
          refine sw_callVx (k' := 6) (n' := 23 + 2 * (i13 + i13 / 2 + 10)) (as := [.int (σ (5200 + i13) 0)]) (st := []) (st2 := []) O (ct_X11_close hl (z := z) (σ := u2 (u2 (uR (u2 (uR s13 (8000 + 500 + (2 * i13 + 1)) (s13 (6100 + i13))) 8000 23 (nI (2 * i13 + 1))) (8000 + 700 + (2 * i13 + 1)) ((u2 (uR s13 (8000 + 500 + (2 * i13 + 1)) (s13 (6100 + i13))) 8000 23 (nI (2 * i13 + 1))) (6300 + i13))) 8000 24 (nI (2 * i13 + 1))) (8000 + 500 + (2 * i13 + 1)) j (f_with ((uR s13 (8000 + 500 + (2 * i13 + 1)) (s13 (6100 + i13))) (8000 + 500 + (2 * i13 + 1)) j) r u)) hbs (b := 8000) (fun r9 a9 b9 => hfr r9 (by omega) (by omega)) (.inr rfl) ((((((congrFun (u2_ne (by omega)) 20).trans (u2_oi (by decide))).trans (congrFun (uR_ne (by omega)) 20)).trans (u2_oi (by decide))).trans (congrFun (uR_ne (by omega)) 20)).trans hP13.1) (g := 2 * i13 + 1) ((((congrFun (u2_ne (by omega)) 23).trans (u2_oi (by decide))).trans (congrFun (uR_ne (by omega)) 23)).trans rfl) (by omega) (w := 2 * i13 + 1) ((congrFun (u2_ne (by omega)) 24).trans rfl) (by omega) (R := R) ((((((((congrFun (u2_ne (by omega)) 900).trans (congrFun (u2_ne (by omega)) 900)).trans (congrFun (uR_ne (by omega)) 900)).trans (congrFun (u2_ne (by omega)) 900)).trans (congrFun (uR_ne (by omega)) 900)).trans (congrFun (hP13.2.2.2.2.2.1 _ (by omega)) 900)).trans (congrFun (fr_Kinit (by omega)) 900)).trans hR) (by omega) (B := B) ((((((((congrFun (u2_ne (by omega)) 900).trans (congrFun (u2_ne (by omega)) 900)).trans (congrFun (uR_ne (by omega)) 900)).trans (congrFun (u2_ne (by omega)) 900)).trans (congrFun (uR_ne (by omega)) 900)).trans (congrFun (hP13.2.2.2.2.2.1 _ (by omega)) 900)).trans (congrFun (fr_Kinit (by omega)) 900)).trans hB) (by omega) (n := i13) ((((((congrFun (u2_ne (by omega)) 21).trans (u2_oi (by decide))).trans (congrFun (uR_ne (by omega)) 21)).trans (u2_oi (by decide))).trans (congrFun (uR_ne (by omega)) 21)).trans hP13.2.1) (by omega) ((((((congrFun (u2_ne (by omega)) 22).trans (u2_oi (by decide))).trans (congrFun (uR_ne (by omega)) 22)).trans (u2_oi (by decide))).trans (congrFun (uR_ne (by omega)) 22)).trans hP13.2.2.1) (x := σ (5200 + i13) 0) (hA2 i13 s13 hi13 hP13.2.2.2.2.2.2)) ce_X11_close ml_X14_188 iv_X11_close cl_X11 rfl ((setM_of (by omega) (lq_clk (.inr rfl) (fl1 ((((((congrFun (u2_ne (by omega)) 20).trans (u2_oi (by decide))).trans (congrFun (uR_ne (by omega)) 20)).trans (u2_oi (by decide))).trans (congrFun (uR_ne (by omega)) 20)).trans hP13.1)) (g := 2 * i13 + 1) ((((congrFun (u2_ne (by omega)) 23).trans (u2_oi (by decide))).trans (congrFun (uR_ne (by omega)) 23)).trans rfl) (by omega) (w := 2 * i13 + 1) ((congrFun (u2_ne (by omega)) 24).trans rfl) (by omega) _))) (xx_dt dd_X14_runAnew 58 rfl) (by decide) rfl rfl (Nat.le_of_ble_eq_true rfl) rfl ?_
          refine sw_iinc (y := nI (i13 + 1)) (ls2 := [.ref 5000, .int x, .int (nI j), .int (nI r), .int u, .ref 8000, .int (nI (i13 + 1))]) O (xx_dt dd_X14_runAnew 59 rfl) rfl (nI_1 _) (by decide) rfl ?_
          refine sw_goto (tgt := 13) O (xx_dt dd_X14_runAnew 60 rfl) (by decide) ?_
          refine xx_wid (k' := 0 + 8 * (K - (i13 + 1))) (n' := rmN (K - (i13 + 1)) (i13 + 1)) (by omega) (by omega) ?_
          exact kk13 (g_Kclose (u2 (u2 (uR (u2 (uR s13 (8000 + 500 + (2 * i13 + 1)) (s13 (6100 + i13))) 8000 23 (nI (2 * i13 + 1))) (8000 + 700 + (2 * i13 + 1)) ((u2 (uR s13 (8000 + 500 + (2 * i13 + 1)) (s13 (6100 + i13))) 8000 23 (nI (2 * i13 + 1))) (6300 + i13))) 8000 24 (nI (2 * i13 + 1))) (8000 + 500 + (2 * i13 + 1)) j (f_with ((uR s13 (8000 + 500 + (2 * i13 + 1)) (s13 (6100 + i13))) (8000 + 500 + (2 * i13 + 1)) j) r u)) (σ (5200 + i13) 0) 8000 R B (2 * i13 + 1) (2 * i13 + 1) i13) (by simp only [if_pos q2, if_pos q3])
  · show SW Y _ _ (setM z s13 h) 13 [.ref 5000, .int x, .int (nI j), .int (nI r), .int u, .ref 8000, .int (nI K)] []
    refine xx_wid (k' := 0) (n' := 0) (by show _ ≤ 0 + 8 * (K - K); omega) (by show _ ≤ rmN (K - K) K; omega) ?_
    have hZ13 := hP13
    refine sw_iload O (xx_dt dd_X14_runAnew 7 rfl) rfl ?_
    refine sw_aload_n O (xx_dt dd_X14_runAnew 8 rfl) rfl ?_
    refine sw_get (v := .ref 5003) O (xx_dt dd_X14_runAnew 9 rfl) cl_X14 fl_X14_30 (lm_mod (σ := s13)) (by decide) rfl ?_
    refine sw_callVL (ci := 6) (as := []) (st := [.int (nI K)]) (st2 := [.int (nI K), .int (nI K)]) O (ct_AL_size hl (lm_5003 (σ := s13) (K := K) (((congrFun (hP13.2.2.2.2.2.1 _ (by omega)) 900).trans (congrFun (fr_Kinit (by omega)) 900)).trans hK) (by omega))) ce_Jx4a65c_size_8abf5 ml_X14_57 iv_Jx4a65c_size_8abf5 cl_Jx4a65c rfl (lm_5003 (σ := s13) (K := K) (((congrFun (hP13.2.2.2.2.2.1 _ (by omega)) 900).trans (congrFun (fr_Kinit (by omega)) 900)).trans hK) (by omega)) (xx_dt dd_X14_runAnew 10 rfl) (by decide) rfl rfl (Nat.le_of_ble_eq_true rfl) rfl ?_
    refine sw_icmp_ge (tgt := 139) O (xx_dt dd_X14_runAnew 11 rfl) (by decide) (fun q1 => ?_) (fun q1 => ?_)
    · refine sw_dum (ls2 := [.ref 5000, .int x, .int (nI j), .int (nI r), .int u, .ref 8000, xx_d]) ⟨.inr rfl, .inr rfl, .inr rfl, .inr rfl, .inr rfl, .inr rfl, .inl rfl, trivial⟩ ?_
      refine xx_wid (k' := 0) (n' := 0) (by omega) (by omega) ?_
      exact kx13
    · exact absurd (Int32.le_refl _) q1
  · show SW Y _ _ (setM z (x_MrunAnew_13 σ x j r u R B K (g_Kinit σ 8000 R B)) h) 139 [.ref 5000, .int x, .int (nI j), .int (nI r), .int u, .ref 8000, xx_d] []
    refine sw_aload O (xx_dt dd_X14_runAnew 61 rfl) rfl ?_
    exact sw_aret O (xx_dt dd_X14_runAnew 62 rfl) rfl (.inl ⟨_, rfl⟩) (by rw [hQ]; exact ⟨rfl, by unfold g_MrunAnew; rfl⟩)
end
