/-! ===== the reference: a clock is made ===== -/
theorem ct_codes {l : Launch} {h : XH} (hl : l.stackTraces = false) {a : Nat} (ha : h a = none) (h1 : 1000 ≤ a)  : XEx l m_X14_codes 0 1 6 [] (h) (some (.ref a)) (xx_up h a (100, 6, fun _ => .int 0)) := by
  refine XMet.of hl rfl rfl (Nat.le_of_ble_eq_true rfl) (fun Y O hh hQ => ?_)
  show SW Y 1 6 (h) 0 [] []
  refine sw_bipush (x := 6) O (xx_dt dd_X14_codes 0 rfl) (by decide) ?_
  refine sw_newarray (k := 0) (n := 0) (t := 100) (N := 6) (r := a) O (xx_dt dd_X14_codes 1 rfl) ⟨⟨by omega, by omega⟩, rfl⟩ ac_int (by decide) rfl (by decide) ha h1 ?_
  rw [xx_blk_up, def0]
  exact sw_aret O (xx_dt dd_X14_codes 2 rfl) rfl (.inr ⟨_, rfl⟩) (by rw [hQ]; exact ⟨rfl, rfl⟩)
theorem lyQ_K {z : Int64} {b : Nat} {C C' : XS9} {r : Nat} {s : Nat → Int32} (hb : b = 7000 ∨ b = 8000) (h1 : ∀ q i, q ≠ b → C q i = C' q i) (h5 : C b 25 = C' b 25) (h2 : r < b ∨ b + 1000 ≤ r) : lyQ z C r s = lyQ z C' r s := by
  have e1 : ∀ i, C 5001 i = C' 5001 i := fun i => h1 _ _ (by omega)
  have e2 : ∀ i, C 5002 i = C' 5002 i := fun i => h1 _ _ (by omega)
  have e3 : ∀ i, C 5003 i = C' 5003 i := fun i => h1 _ _ (by omega)
  have e4 : ∀ i, C 5004 i = C' 5004 i := fun i => h1 _ _ (by omega)
  have e9 : ∀ i, C 9000 i = C' 9000 i := fun i => h1 _ _ (by omega)
  have er : ∀ i, C r i = C' r i := fun i => h1 _ _ (by omega)
  have e75 : C 7000 25 = C' 7000 25 := by
    rcases hb with rfl | rfl
    · exact h5
    · exact h1 _ _ (by omega)
  by_cases h3 : r < 20000
  · have ep : ∀ i, C (5030 + (r - 10000) / 20) i = C' (5030 + (r - 10000) / 20) i := fun i => h1 _ _ (by omega)
    by_cases w : r < 7000
    · unfold lyQ lyB nmS
      simp only [e1, e2, e3, e4, e9, er, e75, if_pos w]
    · by_cases w2 : 9000 ≤ r
      · unfold lyQ lyB nmS
        simp only [e1, e2, e3, e4, e9, er, ep, e75, if_neg (show ¬ r < 8000 by omega), if_neg (show ¬ r < 9000 by omega)]
      · rcases hb with rfl | rfl
        · have e8 : ∀ i, C 8000 i = C' 8000 i := fun i => h1 _ _ (by omega)
          unfold lyQ lyB nmS
          simp only [e1, e2, e3, e4, e8, e9, er, ep, e75, if_neg (show ¬ r < 8000 by omega), if_pos (show r < 9000 by omega)]
        · have e7 : ∀ i, C 7000 i = C' 7000 i := fun i => h1 _ _ (by omega)
          unfold lyQ lyB nmS
          simp only [e1, e2, e3, e4, e7, e9, er, ep, e75, if_pos (show r < 8000 by omega)]
  · by_cases h4 : r < 20010
    · rw [lq_tmp (by omega), lq_tmp (by omega), er, er]
    · unfold lyQ
      rw [if_neg (by omega), if_neg (by omega), if_neg (by omega), if_neg (by omega), if_neg (by omega), if_neg (by omega), if_neg (by omega), if_neg (by omega), if_neg (by omega), if_neg (by omega), if_neg (by omega), if_neg (by omega), if_neg (by omega), if_neg (by omega), if_neg (by omega), if_neg (by omega), if_neg (by omega), if_neg (by omega), if_neg (by omega), if_neg (by omega), if_neg (by omega), if_neg (by omega), if_neg (by omega), if_neg (by omega), if_neg (by omega), if_neg (by omega), if_neg (by omega), if_neg (by omega), if_neg (by omega), if_neg (by omega), if_neg (by omega), if_neg (by omega), if_neg (by omega), if_neg (by omega), if_neg (by omega), if_neg (by omega), if_neg (by omega), if_neg (by omega), if_neg (by omega), if_neg (by omega)]
def g_clk0 (σ : XS9) (b : Nat) : XS9 := fun q => if q = b then (fun i => if i = 20 then 1 else if i = 25 then σ b 25 else 0) else if q = b + 1 ∨ q = b + 2 ∨ q = b + 3 ∨ q = b + 4 ∨ q = b + 5 ∨ q = b + 500 + 0 ∨ q = b + 700 + 0 then (fun _ => 0) else σ q
theorem fr_clk0 {σ : XS9} {b q : Nat} (h : q < b ∨ b + 1000 ≤ q) : g_clk0 σ b q = σ q := by
  unfold g_clk0
  rw [if_neg (by omega), if_neg (by omega)]
theorem clk0_b {σ : XS9} {b : Nat} : g_clk0 σ b b 20 = nI 1 ∧ g_clk0 σ b b 21 = nI 0 ∧ g_clk0 σ b b 22 = nI 0 ∧ g_clk0 σ b b 23 = nI 0 ∧ g_clk0 σ b b 24 = nI 0 ∧ g_clk0 σ b b 25 = σ b 25 ∧ g_clk0 σ b b 9 = 0 := by
  unfold g_clk0
  rw [if_pos rfl]
  exact ⟨rfl, rfl, rfl, rfl, rfl, rfl, rfl⟩
theorem noq_K {z : Int64} {σ : XS9} {b i : Nat} (hb : b = 7000 ∨ b = 8000) (h0 : σ b 20 = 0) (hi : i < 1000) (s : Nat → Int32) : lyQ z (ctl σ) (b + i) s = none := by
  unfold lyQ
  rcases hb with rfl | rfl
  · have e : ctl σ 7000 20 = 0 := h0
    rw [if_neg (by omega), if_neg (by omega), if_neg (by omega), if_neg (by omega), if_neg (by omega), if_neg (by omega), if_neg (by omega), if_neg (by omega), if_neg (by omega), if_neg (by omega), if_neg (by omega), if_neg (by omega), if_pos (by omega), e, if_pos rfl]
  · have e : ctl σ 8000 20 = 0 := h0
    rw [if_neg (by omega), if_neg (by omega), if_neg (by omega), if_neg (by omega), if_neg (by omega), if_neg (by omega), if_neg (by omega), if_neg (by omega), if_neg (by omega), if_neg (by omega), if_neg (by omega), if_neg (by omega), if_neg (by omega), if_pos (by omega), e, if_pos rfl]
abbrev clk_F (b : Nat) : Nat → Value := fun k => match k with | 0 => .ref (b + 1) | 1 => .ref (b + 2) | 2 => .ref (b + 500 + 0) | 3 => .ref (b + 700 + 0) | 4 => .ref (b + 3) | 5 => .ref (b + 4) | 6 => .ref (b + 5) | 7 => .ref (b + 6) | 8 => .ref (b + 7) | 9 => .int 0 | 10 => .ref 5000 | _ => .null
theorem new_clk {z : Int64} {σ : XS9} {h : XH} {b R : Nat} (hb : b = 7000 ∨ b = 8000) (hfr : ∀ r, 5000 ≤ r → r < 20010 → h r = none) (h0 : σ b 20 = 0) (hR : σ 5001 900 = nI R) (hR5 : R ≤ 5) :
    xx_up (xx_up (xx_up (xx_up (xx_up (xx_up (xx_up (xx_up (xx_up (xx_up (setM z σ h) (b + 1) (100, R, fun _ => .int 0)) (b + 2) (100, 6, fun _ => .int 0)) (b + 500 + 0) (100, 6, fun _ => .int 0)) (b + 700 + 0) (101, 6, fun _ => .int 0)) (b + 3) (100, 6, fun _ => .int 0)) (b + 4) (100, 6, fun _ => .int 0)) (b + 5) (100, 6, fun _ => .int 0)) (b + 6) (206, 0, fun k => .ref (b + 100 + k))) (b + 7) (206, 0, fun k => .ref (b + 200 + k))) b (17, 11, clk_F b) = setM z (g_clk0 σ b) h := by
  obtain ⟨k1, k2, k3, k4, k5, k6, k7⟩ := clk0_b (σ := σ) (b := b)
  have hf := fl1 k1
  have hR' : g_clk0 σ b 5001 900 = nI R := by rw [fr_clk0 (by omega)]; exact hR
  have row : ∀ q, (q = b + 1 ∨ q = b + 2 ∨ q = b + 3 ∨ q = b + 4 ∨ q = b + 5 ∨ q = b + 500 + 0 ∨ q = b + 700 + 0) → ∀ j, g_clk0 σ b q j = 0 := fun q hq j => by
    unfold g_clk0
    rw [if_neg (by omega), if_pos hq]
  have hz : ∀ (r t n : Nat), (∀ j, g_clk0 σ b r j = 0) → (some (t, n, fun _ => Value.int 0) : Option XC) = some (t, n, fun k => .int (g_clk0 σ b r k)) := fun r t n h => by
    congr 3
    funext k
    rw [h]
  funext q
  unfold xx_up
  by_cases a0 : q = b
  · rw [if_pos a0, a0, lm_clk hb hf k4 (by omega) k5 (by omega)]
    congr 3
    funext k
    unfold clk_F
    match k with
    | 0 | 1 | 2 | 3 | 4 | 5 | 6 | 7 | 8 | 10 => rfl
    | 9 => exact congrArg Value.int k7.symm
    | _ + 11 => rfl
  rw [if_neg a0]
  by_cases a7 : q = b + 7
  · rw [if_pos a7, a7, lm_koh hb hf k3 (by omega)]
  rw [if_neg a7]
  by_cases a6 : q = b + 6
  · rw [if_pos a6, a6, lm_kop hb hf k2 (by omega)]
  rw [if_neg a6]
  by_cases a5 : q = b + 5
  · rw [if_pos a5, a5, lm_kco hb hf]; exact hz _ _ _ (row _ (by omega))
  rw [if_neg a5]
  by_cases a4 : q = b + 4
  · rw [if_pos a4, a4, lm_kwv hb hf]; exact hz _ _ _ (row _ (by omega))
  rw [if_neg a4]
  by_cases a3 : q = b + 3
  · rw [if_pos a3, a3, lm_kel hb hf]; exact hz _ _ _ (row _ (by omega))
  rw [if_neg a3]
  by_cases a9 : q = b + 700 + 0
  · rw [if_pos a9, a9, lm_hwa hb hf k5 (by omega) (by omega)]; exact hz _ _ _ (row _ (by omega))
  rw [if_neg a9]
  by_cases a8 : q = b + 500 + 0
  · rw [if_pos a8, a8, lm_wsh hb hf k4 (by omega) (by omega)]; exact hz _ _ _ (row _ (by omega))
  rw [if_neg a8]
  by_cases a2 : q = b + 2
  · rw [if_pos a2, a2, lm_khe hb hf]; exact hz _ _ _ (row _ (by omega))
  rw [if_neg a2]
  by_cases a1 : q = b + 1
  · rw [if_pos a1, a1, lm_kpr hb hf hR' hR5]; exact hz _ _ _ (row _ (by omega))
  rw [if_neg a1]
  by_cases hr : q < b ∨ b + 1000 ≤ q
  · unfold setM
    rw [fr_clk0 hr, lyQ_K (C := ctl (g_clk0 σ b)) (C' := ctl σ) hb (fun r i e => by
      unfold ctl
      by_cases er : r < b ∨ b + 1000 ≤ r
      · rw [fr_clk0 er]
      · have : isCtl r i = false := notCtl (by omega) i
        simp only [this]
        rfl) (by rw [ct_b hb (by omega), ct_b hb (by omega)]; exact k6) hr]
  · obtain ⟨i, rfl⟩ : ∃ i, q = b + i := ⟨q - b, by omega⟩
    rw [setM_no (noq_K hb h0 (by omega) _), hfr _ (by omega) (by omega)]
    symm
    refine (setM_no ?_).trans (hfr _ (by omega) (by omega))
    rw [lq_B hb hf (by omega)]
    have c1 : cn (ctl (g_clk0 σ b) b 21) = 0 := by rw [ct_b hb (by omega), k2]; rfl
    have c2 : cn (ctl (g_clk0 σ b) b 22) = 0 := by rw [ct_b hb (by omega), k3]; rfl
    have c3 : cn (ctl (g_clk0 σ b) b 23) = 0 := by rw [ct_b hb (by omega), k4]; rfl
    have c4 : cn (ctl (g_clk0 σ b) b 24) = 0 := by rw [ct_b hb (by omega), k5]; rfl
    unfold lyB
    rw [c1, c2, c3, c4, if_neg (by omega)]
    split
    · rw [if_neg (by omega)]
    · split
      · rw [if_neg (by omega)]
      · split
        · rw [if_neg (by omega)]
        · split
          · rw [if_neg (by omega)]
          · rfl
