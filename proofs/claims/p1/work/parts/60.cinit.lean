section
/-! ===== the reference: a choice is made ===== -/
theorem lyQ_9 {z : Int64} {C C' : XS9} {r : Nat} {s : Nat → Int32} (h1 : ∀ q i, q ≠ 9000 → C q i = C' q i) (h2 : r < 9000 ∨ 9010 ≤ r) : lyQ z C r s = lyQ z C' r s := by
  have e1 : ∀ i, C 5001 i = C' 5001 i := fun i => h1 _ _ (by omega)
  have e2 : ∀ i, C 5002 i = C' 5002 i := fun i => h1 _ _ (by omega)
  have e3 : ∀ i, C 5003 i = C' 5003 i := fun i => h1 _ _ (by omega)
  have e4 : ∀ i, C 5004 i = C' 5004 i := fun i => h1 _ _ (by omega)
  have e7 : ∀ i, C 7000 i = C' 7000 i := fun i => h1 _ _ (by omega)
  have e8 : ∀ i, C 8000 i = C' 8000 i := fun i => h1 _ _ (by omega)
  have er : ∀ i, C r i = C' r i := fun i => h1 _ _ (by omega)
  by_cases h3 : r < 20000
  · have ep : ∀ i, C (5030 + (r - 10000) / 20) i = C' (5030 + (r - 10000) / 20) i := fun i => h1 _ _ (by omega)
    rcases h2 with h2 | h2
    · unfold lyQ lyB nmS
      simp only [e1, e2, e3, e4, e7, e8, er, if_pos h2]
    · unfold lyQ lyB nmS
      simp only [e1, e2, e3, e4, e7, e8, er, ep, if_neg (show ¬ r < 9010 by omega)]
  · by_cases h4 : r < 20010
    · rw [lq_tmp (by omega), lq_tmp (by omega), er, er]
    · unfold lyQ
      rw [if_neg (by omega), if_neg (by omega), if_neg (by omega), if_neg (by omega), if_neg (by omega), if_neg (by omega), if_neg (by omega), if_neg (by omega), if_neg (by omega), if_neg (by omega), if_neg (by omega), if_neg (by omega), if_neg (by omega), if_neg (by omega), if_neg (by omega), if_neg (by omega), if_neg (by omega), if_neg (by omega), if_neg (by omega), if_neg (by omega), if_neg (by omega), if_neg (by omega), if_neg (by omega), if_neg (by omega), if_neg (by omega), if_neg (by omega), if_neg (by omega), if_neg (by omega), if_neg (by omega), if_neg (by omega), if_neg (by omega), if_neg (by omega), if_neg (by omega), if_neg (by omega), if_neg (by omega), if_neg (by omega), if_neg (by omega), if_neg (by omega), if_neg (by omega), if_neg (by omega)]
theorem lyQ_8 {z : Int64} {C C' : XS9} {r : Nat} {s : Nat → Int32} (h1 : ∀ q i, q ≠ 8000 → C q i = C' q i) (h2 : r < 8000 ∨ 9000 ≤ r) : lyQ z C r s = lyQ z C' r s := by
  have e1 : ∀ i, C 5001 i = C' 5001 i := fun i => h1 _ _ (by omega)
  have e2 : ∀ i, C 5002 i = C' 5002 i := fun i => h1 _ _ (by omega)
  have e3 : ∀ i, C 5003 i = C' 5003 i := fun i => h1 _ _ (by omega)
  have e4 : ∀ i, C 5004 i = C' 5004 i := fun i => h1 _ _ (by omega)
  have e7 : ∀ i, C 7000 i = C' 7000 i := fun i => h1 _ _ (by omega)
  have e9 : ∀ i, C 9000 i = C' 9000 i := fun i => h1 _ _ (by omega)
  have er : ∀ i, C r i = C' r i := fun i => h1 _ _ (by omega)
  by_cases h3 : r < 20000
  · have ep : ∀ i, C (5030 + (r - 10000) / 20) i = C' (5030 + (r - 10000) / 20) i := fun i => h1 _ _ (by omega)
    rcases h2 with h2 | h2
    · unfold lyQ lyB nmS
      simp only [e1, e2, e3, e4, e7, e9, er, if_pos h2]
    · unfold lyQ lyB nmS
      simp only [e1, e2, e3, e4, e7, e9, er, ep, if_neg (show ¬ r < 8000 by omega), if_neg (show ¬ r < 9000 by omega)]
  · by_cases h4 : r < 20010
    · rw [lq_tmp (by omega), lq_tmp (by omega), er, er]
    · unfold lyQ
      rw [if_neg (by omega), if_neg (by omega), if_neg (by omega), if_neg (by omega), if_neg (by omega), if_neg (by omega), if_neg (by omega), if_neg (by omega), if_neg (by omega), if_neg (by omega), if_neg (by omega), if_neg (by omega), if_neg (by omega), if_neg (by omega), if_neg (by omega), if_neg (by omega), if_neg (by omega), if_neg (by omega), if_neg (by omega), if_neg (by omega), if_neg (by omega), if_neg (by omega), if_neg (by omega), if_neg (by omega), if_neg (by omega), if_neg (by omega), if_neg (by omega), if_neg (by omega), if_neg (by omega), if_neg (by omega), if_neg (by omega), if_neg (by omega), if_neg (by omega), if_neg (by omega), if_neg (by omega), if_neg (by omega), if_neg (by omega), if_neg (by omega), if_neg (by omega), if_neg (by omega)]
def g_cho0 (σ : XS9) : XS9 := fun q => if q = 9000 then (fun i => if i = 20 then 1 else 0) else if q = 9001 ∨ q = 9002 ∨ q = 9003 ∨ q = 9004 ∨ q = 9005 then (fun _ => 0) else σ q
theorem fr_cho0 {σ : XS9} {q : Nat} (h : q < 9000 ∨ 9005 < q) : g_cho0 σ q = σ q := by
  unfold g_cho0
  rw [if_neg (by omega), if_neg (by omega)]
abbrev cho_F : Nat → Value := fun k => match k with | 0 => .ref 9001 | 1 => .ref 9002 | 2 => .ref 9003 | 3 => .ref 9004 | 4 => .ref 9005 | 6 => .ref 5000 | k => .int (if k = 20 then 1 else 0)
theorem new_cho {z : Int64} {σ : XS9} {h : XH} : xx_up (xx_up (xx_up (xx_up (xx_up (xx_up (setM z σ h) 9001 (100, 6, fun _ => .int 0)) 9002 (100, 6, fun _ => .int 0)) 9003 (100, 64, fun _ => .int 0)) 9004 (100, 5, fun _ => .int 0)) 9005 (100, 20, fun _ => .int 0)) 9000 (16, 7, cho_F) = setM z (g_cho0 σ) h := by
  funext q
  have hc : ctl (g_cho0 σ) 9000 20 = 1 := rfl
  have hf : ¬ g_cho0 σ 9000 20 = 0 := by show ¬ (1 : Int32) = 0; decide
  unfold xx_up
  by_cases a0 : q = 9000
  · rw [if_pos a0, a0, lm_9000 hf]
    rfl
  rw [if_neg a0]
  by_cases a5 : q = 9005
  · rw [if_pos a5, a5]; exact (lm_9005 hf).symm
  rw [if_neg a5]
  by_cases a4 : q = 9004
  · rw [if_pos a4, a4]; exact (lm_9004 hf).symm
  rw [if_neg a4]
  by_cases a3 : q = 9003
  · rw [if_pos a3, a3]; exact (lm_9003 hf).symm
  rw [if_neg a3]
  by_cases a2 : q = 9002
  · rw [if_pos a2, a2]; exact (lm_9002 hf).symm
  rw [if_neg a2]
  by_cases a1 : q = 9001
  · rw [if_pos a1, a1]; exact (lm_9001 hf).symm
  rw [if_neg a1]
  unfold setM
  by_cases hr : q < 9000 ∨ 9010 ≤ q
  · rw [lyQ_9 (C := ctl (g_cho0 σ)) (C' := ctl σ) (fun r i e => by
      unfold ctl
      by_cases er : r < 9000 ∨ 9005 < r
      · rw [fr_cho0 er]
      · have : isCtl r i = false := notCtl (by omega) i
        simp only [this]
        rfl) hr, fr_cho0 (by omega)]
  · have e1 : ∀ C s, lyQ z C q s = none := fun C s => by
      have e2 : q - 9000 ≠ 0 ∧ q - 9000 ≠ 1 ∧ q - 9000 ≠ 2 ∧ q - 9000 ≠ 3 ∧ q - 9000 ≠ 4 ∧ q - 9000 ≠ 5 := by omega
      unfold lyQ
      rw [if_neg (by omega), if_neg (by omega), if_neg (by omega), if_neg (by omega), if_neg (by omega), if_neg (by omega), if_neg (by omega), if_neg (by omega), if_neg (by omega), if_neg (by omega), if_neg (by omega), if_neg (by omega), if_neg (by omega), if_neg (by omega), if_pos (by omega)]
      split
      · rfl
      · split <;> first | rfl | omega
    rw [e1, e1]
theorem setM_c0 {z : Int64} {σ : XS9} {h : XH} {r : Nat} (h0 : σ 9000 20 = 0) (hr : 9000 ≤ r ∧ r < 9010) : setM z σ h r = h r := by
  refine setM_no ?_
  have e : ctl σ 9000 20 = 0 := h0
  unfold lyQ
  rw [if_neg (by omega), if_neg (by omega), if_neg (by omega), if_neg (by omega), if_neg (by omega), if_neg (by omega), if_neg (by omega), if_neg (by omega), if_neg (by omega), if_neg (by omega), if_neg (by omega), if_neg (by omega), if_neg (by omega), if_neg (by omega), if_pos (by omega), e, if_pos rfl]
theorem setM_over {z : Int64} {σ : XS9} {h : XH} {r : Nat} {c c2 : XC} (h1 : 5000 ≤ r ∧ r < 20010) (e : lyQ z (ctl σ) r (σ r) = some c2) : setM z σ (xx_up h r c) = setM z σ h := by
  funext q
  by_cases eq : q = r
  · subst eq
    rw [setM_of h1 e, setM_of h1 e]
  · unfold setM
    rw [xx_up_ne eq]
theorem def0 : (fun _ => defaultValue (newarray.typeOf .int) : Nat → Value) = fun _ => Value.int 0 := rfl
theorem defZ0 : (fun _ => defaultValue (newarray.typeOf .boolean) : Nat → Value) = fun _ => Value.int 0 := rfl
def x_CinitA_55 (σ : XS9) (R : Nat) (s0 : XS9) : XS9 := xit (fun i55 s55 => u2 s55 9004 i55 (σ (5010 + i55) 0)) R 0 s0
def x_CinitA_109 (σ : XS9) (s0 : Unit) : Unit := xit (fun i109 s109 => ()) 6 0 s0
def x_CinitA_149 (σ : XS9) (i138 : Nat) (s0 : XS9) : XS9 := xit (fun i149 s149 => (if (((nI i138) >>> ((nI i149) &&& 31)) &&& 1) = 1 then u2 s149 9003 i138 (if (s149 9003 i138) < (s149 9003 (bclr i138 i149)) then (s149 9003 (bclr i138 i149)) else (s149 9003 i138)) else s149)) 6 0 s0
theorem fx_CinitA_149 {σ : XS9} {i138 : Nat} {s0 : XS9} {q : Nat} (h : q ≠ 9003) : x_CinitA_149 σ i138 s0 q = s0 q := xit_keep (fun s : XS9 => s q) (fun i s => by (try dsimp only); (repeat' split) <;> first | rfl | simp (disch := omega) only [u2_ne]) _ _ _
def x_CinitA_138 (σ : XS9) (s0 : XS9) : XS9 := xit (fun i138 s138 => (x_CinitA_149 σ i138 s138)) 64 0 s0
def g_CinitA (σ : XS9) (R B : Nat) (pk gr : Nat → Nat) (cd : Nat → Nat → Nat) : XS9 := (x_CinitA_138 σ (g_Cpick B pk gr cd B 0 (x_CinitA_55 σ R (u2 (g_cho0 σ) 9000 5 (-1))) 0 0))
theorem ct_CinitA {l : Launch} {h : XH} (hl : l.stackTraces = false) {z : Int64} {σ : XS9} (hbs : xx_bs h) (hfr : ∀ r, 5000 ≤ r → r < 20010 → h r = none) (hc0 : σ 9000 20 = 0) {R : Nat} (hR : σ 5001 900 = nI R) (hR5 : R ≤ 5) {B : Nat} (hB : σ 5002 900 = nI B) (hB6 : B ≤ 6) {pk : Nat → Nat} (hpk : ∀ j, j < B → σ (5030 + j) 900 = nI (2 * pk j) ∧ pk j ≤ 6) {gr : Nat → Nat} (hgr : ∀ j, j < B → σ (5020 + j) 3 = nI (gr j) ∧ gr j < 4) {cd : Nat → Nat → Nat} (hcd : ∀ j k, j < B → k < pk j → σ (5030 + j) (2 * k) = nI (cd j k) ∧ cd j k < 7776) (hst : ¬ σ 5000 1 ≤ 1) (hst2 : (2 : Int32) ≤ σ 5000 1) : XEx l m_X10_init 20 5 101 [.ref 9000, .ref 5000] (xx_up (setM z σ h) 9000 (16, 7, fun j => defaultValue (tyX10 j))) none (setM z (g_CinitA σ R B pk gr cd) h) := by
  refine XMet.of hl rfl rfl (Nat.le_of_ble_eq_true rfl) (fun Y O hh hQ => ?_)
  show SW Y 5 101 (xx_up (setM z σ h) 9000 (16, 7, fun j => defaultValue (tyX10 j))) 0 [.ref 9000, .ref 5000, xx_d, xx_d] []
  refine sw_aload_n O (xx_dt dd_X10_init 0 rfl) rfl ?_
  refine sw_aload_n O (xx_dt dd_X10_init 1 rfl) rfl ?_
  refine sw_putF (h2 := xx_up (setM z σ h) 9000 (16, 7, updV (fun j => defaultValue (tyX10 j)) 6 (.ref 5000))) O (xx_dt dd_X10_init 2 rfl) cl_X10 fz_X10_3 (xx_up_eq _ _ _) (by decide) (by omega) rfl rfl (fun _ => ⟨rfl, rfl⟩) xx_up_up ?_
  refine sw_aload_n O (xx_dt dd_X10_init 3 rfl) rfl ?_
  refine sw_objInit O oi_X10_9 (xx_dt dd_X10_init 4 rfl) (by omega) (Nat.le_of_ble_eq_true rfl) ?_
  refine sw_aload_n O (xx_dt dd_X10_init 5 rfl) rfl ?_
  refine sw_bipush (x := 6) O (xx_dt dd_X10_init 6 rfl) (by decide) ?_
  refine sw_newarray (k := 4) (n := 95) (t := 100) (N := 6) (r := 9001) O (xx_dt dd_X10_init 7 rfl) ⟨⟨by omega, by omega⟩, rfl⟩ ac_int (by first | decide | (have h9 := xx_nlt0 6 (by omega); exact h9)) (by first | rfl | exact nI_clamp (by omega)) (by show 6 * 4 ≤ _; omega) ((xx_up_ne (by omega)).trans ((setM_c0 hc0 (by omega)).trans (hfr 9001 (by omega) (by omega)))) (by omega) ?_
  rw [xx_blk_up, def0, xx_up_sw (by omega)]
  refine sw_putF (h2 := xx_up (xx_up (setM z σ h) 9001 (100, 6, fun _ => .int 0)) 9000 (16, 7, updV (updV (fun j => defaultValue (tyX10 j)) 6 (.ref 5000)) 0 (.ref 9001))) O (xx_dt dd_X10_init 8 rfl) cl_X10 fz_X10_15 (xx_up_eq _ _ _) (by decide) (by omega) rfl rfl (fun _ => ⟨rfl, rfl⟩) xx_up_up ?_
  refine sw_aload_n O (xx_dt dd_X10_init 9 rfl) rfl ?_
  refine sw_bipush (x := 6) O (xx_dt dd_X10_init 10 rfl) (by decide) ?_
  refine sw_newarray (k := 3) (n := 89) (t := 100) (N := 6) (r := 9002) O (xx_dt dd_X10_init 11 rfl) ⟨⟨by omega, by omega⟩, rfl⟩ ac_int (by first | decide | (have h9 := xx_nlt0 6 (by omega); exact h9)) (by first | rfl | exact nI_clamp (by omega)) (by show 6 * 4 ≤ _; omega) ((xx_up_ne (by omega)).trans ((xx_up_ne (by omega)).trans ((setM_c0 hc0 (by omega)).trans (hfr 9002 (by omega) (by omega))))) (by omega) ?_
  rw [xx_blk_up, def0, xx_up_sw (by omega)]
  refine sw_putF (h2 := xx_up (xx_up (xx_up (setM z σ h) 9001 (100, 6, fun _ => .int 0)) 9002 (100, 6, fun _ => .int 0)) 9000 (16, 7, updV (updV (updV (fun j => defaultValue (tyX10 j)) 6 (.ref 5000)) 0 (.ref 9001)) 1 (.ref 9002))) O (xx_dt dd_X10_init 12 rfl) cl_X10 fz_X10_19 (xx_up_eq _ _ _) (by decide) (by omega) rfl rfl (fun _ => ⟨rfl, rfl⟩) xx_up_up ?_
  refine sw_aload_n O (xx_dt dd_X10_init 13 rfl) rfl ?_
  refine sw_bipush (x := 64) O (xx_dt dd_X10_init 14 rfl) (by decide) ?_
  refine sw_newarray (k := 2) (n := 25) (t := 100) (N := 64) (r := 9003) O (xx_dt dd_X10_init 15 rfl) ⟨⟨by omega, by omega⟩, rfl⟩ ac_int (by first | decide | (have h9 := xx_nlt0 64 (by omega); exact h9)) (by first | rfl | exact nI_clamp (by omega)) (by show 64 * 4 ≤ _; omega) ((xx_up_ne (by omega)).trans ((xx_up_ne (by omega)).trans ((xx_up_ne (by omega)).trans ((setM_c0 hc0 (by omega)).trans (hfr 9003 (by omega) (by omega)))))) (by omega) ?_
  rw [xx_blk_up, def0, xx_up_sw (by omega)]
  refine sw_putF (h2 := xx_up (xx_up (xx_up (xx_up (setM z σ h) 9001 (100, 6, fun _ => .int 0)) 9002 (100, 6, fun _ => .int 0)) 9003 (100, 64, fun _ => .int 0)) 9000 (16, 7, updV (updV (updV (updV (fun j => defaultValue (tyX10 j)) 6 (.ref 5000)) 0 (.ref 9001)) 1 (.ref 9002)) 2 (.ref 9003))) O (xx_dt dd_X10_init 16 rfl) cl_X10 fz_X10_22 (xx_up_eq _ _ _) (by decide) (by omega) rfl rfl (fun _ => ⟨rfl, rfl⟩) xx_up_up ?_
  refine sw_aload_n O (xx_dt dd_X10_init 17 rfl) rfl ?_
  refine sw_iconst (x := 5) O (xx_dt dd_X10_init 18 rfl) (by decide) ?_
  refine sw_newarray (k := 1) (n := 20) (t := 100) (N := 5) (r := 9004) O (xx_dt dd_X10_init 19 rfl) ⟨⟨by omega, by omega⟩, rfl⟩ ac_int (by first | decide | (have h9 := xx_nlt0 5 (by omega); exact h9)) (by first | rfl | exact nI_clamp (by omega)) (by show 5 * 4 ≤ _; omega) ((xx_up_ne (by omega)).trans ((xx_up_ne (by omega)).trans ((xx_up_ne (by omega)).trans ((xx_up_ne (by omega)).trans ((setM_c0 hc0 (by omega)).trans (hfr 9004 (by omega) (by omega))))))) (by omega) ?_
  rw [xx_blk_up, def0, xx_up_sw (by omega)]
  refine sw_putF (h2 := xx_up (xx_up (xx_up (xx_up (xx_up (setM z σ h) 9001 (100, 6, fun _ => .int 0)) 9002 (100, 6, fun _ => .int 0)) 9003 (100, 64, fun _ => .int 0)) 9004 (100, 5, fun _ => .int 0)) 9000 (16, 7, updV (updV (updV (updV (updV (fun j => defaultValue (tyX10 j)) 6 (.ref 5000)) 0 (.ref 9001)) 1 (.ref 9002)) 2 (.ref 9003)) 3 (.ref 9004))) O (xx_dt dd_X10_init 20 rfl) cl_X10 fz_X10_25 (xx_up_eq _ _ _) (by decide) (by omega) rfl rfl (fun _ => ⟨rfl, rfl⟩) xx_up_up ?_
  refine sw_aload_n O (xx_dt dd_X10_init 21 rfl) rfl ?_
  refine sw_bipush (x := 20) O (xx_dt dd_X10_init 22 rfl) (by decide) ?_
  refine sw_newarray (k := 0) (n := 0) (t := 100) (N := 20) (r := 9005) O (xx_dt dd_X10_init 23 rfl) ⟨⟨by omega, by omega⟩, rfl⟩ ac_int (by first | decide | (have h9 := xx_nlt0 20 (by omega); exact h9)) (by first | rfl | exact nI_clamp (by omega)) (by show 20 * 4 ≤ _; omega) ((xx_up_ne (by omega)).trans ((xx_up_ne (by omega)).trans ((xx_up_ne (by omega)).trans ((xx_up_ne (by omega)).trans ((xx_up_ne (by omega)).trans ((setM_c0 hc0 (by omega)).trans (hfr 9005 (by omega) (by omega)))))))) (by omega) ?_
  rw [xx_blk_up, def0, xx_up_sw (by omega)]
  refine sw_putF (h2 := xx_up (xx_up (xx_up (xx_up (xx_up (xx_up (setM z σ h) 9001 (100, 6, fun _ => .int 0)) 9002 (100, 6, fun _ => .int 0)) 9003 (100, 64, fun _ => .int 0)) 9004 (100, 5, fun _ => .int 0)) 9005 (100, 20, fun _ => .int 0)) 9000 (16, 7, updV (updV (updV (updV (updV (updV (fun j => defaultValue (tyX10 j)) 6 (.ref 5000)) 0 (.ref 9001)) 1 (.ref 9002)) 2 (.ref 9003)) 3 (.ref 9004)) 4 (.ref 9005))) O (xx_dt dd_X10_init 24 rfl) cl_X10 fz_X10_28 (xx_up_eq _ _ _) (by decide) (by omega) rfl rfl (fun _ => ⟨rfl, rfl⟩) xx_up_up ?_
  refine sw_alter (F2 := cho_F) (xx_up_eq _ _ _) (fun j hj => by match j, hj with | 0, _ => rfl | 1, _ => rfl | 2, _ => rfl | 3, _ => rfl | 4, _ => rfl | 5, _ => rfl | 6, _ => rfl) ?_
  rw [xx_up_up, new_cho]
  refine sw_aload_n O (xx_dt dd_X10_init 25 rfl) rfl ?_
  refine sw_iconst (x := (-1)) O (xx_dt dd_X10_init 26 rfl) (by decide) ?_
  refine sw_put (h2 := setM z (u2 (g_cho0 σ) 9000 5 (-1)) h) O (xx_dt dd_X10_init 27 rfl) cl_X10 fl_X10_31 (lm_9000 (σ := g_cho0 σ) (fl1 rfl)) (by decide) (by omega) rfl (fun _ => ⟨rfl, rfl⟩) (pm_cho (σ := g_cho0 σ) rfl) ?_
  refine sw_iconst (x := 0) O (xx_dt dd_X10_init 28 rfl) (by decide) ?_
  refine sw_istore_n (ls2 := [.ref 9000, .ref 5000, .int 0, xx_d]) O (xx_dt dd_X10_init 29 rfl) (by decide) rfl ?_
  refine sw_for (S := XS9) (fun i55 s55 => u2 s55 9004 i55 (σ (5010 + i55) 0)) (fun _ s55 => s55 9000 20 = nI 1 ∧ (∀ q, q ≠ 9004 → s55 q = (u2 (g_cho0 σ) 9000 5 (-1)) q)) (hp := fun s55 => setM z s55 h) (hd := 55) (lc := fun i55 s55 => [.ref 9000, .ref 5000, .int (nI i55), xx_d]) (N := R) (fun i55 s55 hi55 hP55 => ⟨(by (try dsimp only); (repeat' split) <;> (refine ⟨?_, ?_⟩ <;> (first | exact hP55.1 | exact hP55.2 | exact (fun q9 hq9 => by (simp (disch := omega) only [u2_ne, uR_ne, fr_fill, fr_Ctake, fx_CinitA_149]); exact hP55.2 q9 hq9) | exact hi55 | exact .inl rfl | exact .inr rfl | (simp (disch := omega) only [u2_ne, uR_ne, fr_fill, fr_Ctake, fx_CinitA_149]; first | exact hP55.1 | exact hP55.2 | exact (fun q9 hq9 => by (simp (disch := omega) only [u2_ne, uR_ne, fr_fill, fr_Ctake, fx_CinitA_149]); exact hP55.2 q9 hq9))))), fun kk55 => ?_⟩) R 0 (u2 (g_cho0 σ) 9000 5 (-1)) (by omega) (⟨(show (u2 (g_cho0 σ) 9000 5 (-1)) 9000 20 = nI 1 from rfl), (fun _ _ => rfl)⟩) (fun hP55 => ?_)
  · refine sw_iload_n O (xx_dt dd_X10_init 30 rfl) rfl ?_
    refine sw_aload_n O (xx_dt dd_X10_init 31 rfl) rfl ?_
    refine sw_get (v := .ref 5001) O (xx_dt dd_X10_init 32 rfl) cl_X14 fl_X10_35 (lm_mod (σ := s55)) (by decide) rfl ?_
    refine sw_callVL (ci := 6) (as := []) (st := [.int (nI i55)]) (st2 := [.int (nI R), .int (nI i55)]) O (ct_AL_size hl (lm_5001 (σ := s55) (R := R) ((((congrFun (hP55.2 _ (by omega)) 900).trans (congrFun (u2_ne (by omega)) 900)).trans (congrFun (fr_cho0 (by omega)) 900)).trans hR) (by omega))) ce_Jx4a65c_size_8abf5 ml_X10_39 iv_Jx4a65c_size_8abf5 cl_Jx4a65c rfl (lm_5001 (σ := s55) (R := R) ((((congrFun (hP55.2 _ (by omega)) 900).trans (congrFun (u2_ne (by omega)) 900)).trans (congrFun (fr_cho0 (by omega)) 900)).trans hR) (by omega)) (xx_dt dd_X10_init 33 rfl) (by omega) rfl rfl (Nat.le_of_ble_eq_true rfl) rfl ?_
    refine sw_icmp_ge (tgt := 92) O (xx_dt dd_X10_init 34 rfl) (by decide) (fun q1 => ?_) (fun q1 => ?_)
    · exact absurd q1 (nI_ge (b := R) hi55 (by omega))
    · refine sw_aload_n O (xx_dt dd_X10_init 35 rfl) rfl ?_
      refine sw_get (v := .ref 9004) O (xx_dt dd_X10_init 36 rfl) cl_X10 fl_X10_25 (lm_9000 (σ := s55) (fl1 ((congrFun (hP55.2 _ (by omega)) 20).trans rfl))) (by decide) rfl ?_
      refine sw_iload_n O (xx_dt dd_X10_init 37 rfl) rfl ?_
      refine sw_aload_n O (xx_dt dd_X10_init 38 rfl) rfl ?_
      refine sw_get (v := .ref 5001) O (xx_dt dd_X10_init 39 rfl) cl_X14 fl_X10_35 (lm_mod (σ := s55)) (by decide) rfl ?_
      refine sw_iload_n O (xx_dt dd_X10_init 40 rfl) rfl ?_
      refine sw_callVL (ci := 6) (as := [.int (nI i55)]) (st := [.int (nI i55), .ref 9004]) (st2 := [.ref (5010 + i55), .int (nI i55), .ref 9004]) O (ct_get hl hbs (lm_5001 (σ := s55) (R := R) ((((congrFun (hP55.2 _ (by omega)) 900).trans (congrFun (u2_ne (by omega)) 900)).trans (congrFun (fr_cho0 (by omega)) 900)).trans hR) (by omega)) (by omega) (i := i55) (x := 5010 + i55) (by omega) (by omega) rfl) ce_Jx4a65c_get_915e3 ml_X10_45 iv_Jx4a65c_get_915e3 cl_Jx4a65c rfl (lm_5001 (σ := s55) (R := R) ((((congrFun (hP55.2 _ (by omega)) 900).trans (congrFun (u2_ne (by omega)) 900)).trans (congrFun (fr_cho0 (by omega)) 900)).trans hR) (by omega)) (xx_dt dd_X10_init 41 rfl) (by omega) rfl rfl (Nat.le_of_ble_eq_true rfl) rfl ?_
      refine sw_castO O (xx_dt dd_X10_init 42 rfl) cl_X12 (lm_reg (σ := s55) (R := R) ((((congrFun (hP55.2 _ (by omega)) 900).trans (congrFun (u2_ne (by omega)) 900)).trans (congrFun (fr_cho0 (by omega)) 900)).trans hR) (by omega) (j := i55) (by omega)) cw_X10_49 ?_
      refine sw_get (v := .int (σ (5010 + i55) 0)) O (xx_dt dd_X10_init 43 rfl) cl_X12 fl_X10_51 (lm_reg (σ := s55) (R := R) ((((congrFun (hP55.2 _ (by omega)) 900).trans (congrFun (u2_ne (by omega)) 900)).trans (congrFun (fr_cho0 (by omega)) 900)).trans hR) (by omega) (j := i55) (by omega)) (by decide) (congrArg Value.int (((congrFun (hP55.2 _ (by omega)) 0).trans (congrFun (u2_ne (by omega)) 0)).trans (congrFun (fr_cho0 (by omega)) 0))) ?_
      refine sw_iastore (h2 := setM z (u2 s55 9004 i55 (σ (5010 + i55) 0)) h) O (xx_dt dd_X10_init 44 rfl) ((im_9004 (z := z) (σ := s55) ((congrFun (hP55.2 _ (by omega)) 20).trans rfl)).get _) (pk_in i55 _ (by omega)) (by omega) (by rw [nI_clamp (by omega)]; exact ((im_9004 (z := z) (σ := s55) ((congrFun (hP55.2 _ (by omega)) 20).trans rfl)).put (by omega))) ?_
      refine sw_iinc (y := nI (i55 + 1)) (ls2 := [.ref 9000, .ref 5000, .int (nI (i55 + 1)), xx_d]) O (xx_dt dd_X10_init 45 rfl) rfl (nI_1 _) (by decide) rfl ?_
      refine sw_goto (tgt := 55) O (xx_dt dd_X10_init 46 rfl) (by decide) ?_
      exact kk55
  · show SW Y _ _ (setM z (x_CinitA_55 σ R (u2 (g_cho0 σ) 9000 5 (-1))) h) 55 [.ref 9000, .ref 5000, .int (nI R), xx_d] []
    have hP55 : (x_CinitA_55 σ R (u2 (g_cho0 σ) 9000 5 (-1))) 9000 20 = nI 1 ∧ (∀ q, q ≠ 9004 → (x_CinitA_55 σ R (u2 (g_cho0 σ) 9000 5 (-1))) q = (u2 (g_cho0 σ) 9000 5 (-1)) q) := hP55
    refine sw_iload_n O (xx_dt dd_X10_init 30 rfl) rfl ?_
    refine sw_aload_n O (xx_dt dd_X10_init 31 rfl) rfl ?_
    refine sw_get (v := .ref 5001) O (xx_dt dd_X10_init 32 rfl) cl_X14 fl_X10_35 (lm_mod (σ := (x_CinitA_55 σ R (u2 (g_cho0 σ) 9000 5 (-1))))) (by decide) rfl ?_
    refine sw_callVL (ci := 6) (as := []) (st := [.int (nI R)]) (st2 := [.int (nI R), .int (nI R)]) O (ct_AL_size hl (lm_5001 (σ := (x_CinitA_55 σ R (u2 (g_cho0 σ) 9000 5 (-1)))) (R := R) ((((congrFun (hP55.2 _ (by omega)) 900).trans (congrFun (u2_ne (by omega)) 900)).trans (congrFun (fr_cho0 (by omega)) 900)).trans hR) (by omega))) ce_Jx4a65c_size_8abf5 ml_X10_39 iv_Jx4a65c_size_8abf5 cl_Jx4a65c rfl (lm_5001 (σ := (x_CinitA_55 σ R (u2 (g_cho0 σ) 9000 5 (-1)))) (R := R) ((((congrFun (hP55.2 _ (by omega)) 900).trans (congrFun (u2_ne (by omega)) 900)).trans (congrFun (fr_cho0 (by omega)) 900)).trans hR) (by omega)) (xx_dt dd_X10_init 33 rfl) (by omega) rfl rfl (Nat.le_of_ble_eq_true rfl) rfl ?_
    refine sw_icmp_ge (tgt := 92) O (xx_dt dd_X10_init 34 rfl) (by decide) (fun q1 => ?_) (fun q1 => ?_)
    · refine sw_aload_n O (xx_dt dd_X10_init 47 rfl) rfl ?_
      refine sw_get (v := .int (σ 5000 1)) O (xx_dt dd_X10_init 48 rfl) cl_X14 fl_X10_54 (lm_mod (σ := (x_CinitA_55 σ R (u2 (g_cho0 σ) 9000 5 (-1))))) (by decide) (congrArg Value.int (((congrFun (hP55.2 _ (by omega)) 1).trans (congrFun (u2_ne (by omega)) 1)).trans (congrFun (fr_cho0 (by omega)) 1))) ?_
      refine sw_iconst (x := 1) O (xx_dt dd_X10_init 49 rfl) (by decide) ?_
      refine sw_icmp_le (tgt := 107) O (xx_dt dd_X10_init 50 rfl) (by decide) (fun q2 => ?_) (fun q2 => ?_)
      · exact absurd q2 hst
      · refine sw_aload_n O (xx_dt dd_X10_init 51 rfl) rfl ?_
        refine sw_iconst (x := 0) O (xx_dt dd_X10_init 52 rfl) (by decide) ?_
        refine sw_iconst (x := 0) O (xx_dt dd_X10_init 53 rfl) (by decide) ?_
        refine sw_iconst (x := 0) O (xx_dt dd_X10_init 54 rfl) (by decide) ?_
        refine sw_callVx (as := [.int 0, .int 0, .int 0]) (st := []) (st2 := []) O (ct_Cpick hl hbs hB6 B 0 (by omega) ((x_CinitA_55 σ R (u2 (g_cho0 σ) 9000 5 (-1)))) 0 0 0 rfl (by omega) ((congrFun (hP55.2 _ (by omega)) 20).trans rfl) ((((congrFun (hP55.2 _ (by omega)) 900).trans (congrFun (u2_ne (by omega)) 900)).trans (congrFun (fr_cho0 (by omega)) 900)).trans hB) (fun j9 hj9 => by rw [(((hP55.2 _ (by omega)).trans (u2_ne (by omega))).trans (fr_cho0 (by omega)))]; exact hpk j9 hj9) (fun j9 hj9 => by rw [show (x_CinitA_55 σ R (u2 (g_cho0 σ) 9000 5 (-1))) (5020 + j9) 3 = σ (5020 + j9) 3 from (((congrFun (hP55.2 _ (by omega)) 3).trans (congrFun (u2_ne (by omega)) 3)).trans (congrFun (fr_cho0 (by omega)) 3))]; exact hgr j9 hj9) (fun j9 k9 hj9 hk9 => by rw [(((hP55.2 _ (by omega)).trans (u2_ne (by omega))).trans (fr_cho0 (by omega)))]; exact hcd j9 k9 hj9 hk9)) ce_X10_pick ml_X10_57 iv_X10_pick cl_X10 rfl (lm_9000 (σ := (x_CinitA_55 σ R (u2 (g_cho0 σ) 9000 5 (-1)))) (fl1 ((congrFun (hP55.2 _ (by omega)) 20).trans rfl))) (xx_dt dd_X10_init 55 rfl) (by omega) rfl rfl (Nat.le_of_ble_eq_true rfl) rfl ?_
        refine sw_iconst (x := 0) O (xx_dt dd_X10_init 56 rfl) (by decide) ?_
        refine sw_istore_n (ls2 := [.ref 9000, .ref 5000, .int 0, xx_d]) O (xx_dt dd_X10_init 57 rfl) (by decide) rfl ?_
        refine sw_for (S := Unit) (fun i109 s109 => ()) (fun _ _ => True) (hp := fun _ => setM z (g_Cpick B pk gr cd B 0 (x_CinitA_55 σ R (u2 (g_cho0 σ) 9000 5 (-1))) 0 0) h) (hd := 109) (lc := fun i109 s109 => [.ref 9000, .ref 5000, .int (nI i109), xx_d]) (N := 6) (fun i109 s109 hi109 hP109 => ⟨trivial, fun kk109 => ?_⟩) 6 0 () (by omega) (trivial) (fun hP109 => ?_)
        · refine sw_iload_n O (xx_dt dd_X10_init 58 rfl) rfl ?_
          refine sw_bipush (x := 6) O (xx_dt dd_X10_init 59 rfl) (by decide) ?_
          refine sw_icmp_ge (tgt := 136) O (xx_dt dd_X10_init 60 rfl) (by decide) (fun q3 => ?_) (fun q3 => ?_)
          · exact absurd q3 (nI_ge (b := 6) hi109 (by omega))
          · refine sw_aload_n O (xx_dt dd_X10_init 61 rfl) rfl ?_
            refine sw_get (v := .int (σ 5000 1)) O (xx_dt dd_X10_init 62 rfl) cl_X14 fl_X10_54 (lm_mod (σ := g_Cpick B pk gr cd B 0 (x_CinitA_55 σ R (u2 (g_cho0 σ) 9000 5 (-1))) 0 0)) (by decide) (congrArg Value.int ((((congrFun (fr_Cpick (by omega)) 1).trans (congrFun (hP55.2 _ (by omega)) 1)).trans (congrFun (u2_ne (by omega)) 1)).trans (congrFun (fr_cho0 (by omega)) 1))) ?_
            refine sw_iconst (x := 2) O (xx_dt dd_X10_init 63 rfl) (by decide) ?_
            refine sw_icmp_ge (tgt := 130) O (xx_dt dd_X10_init 64 rfl) (by decide) (fun q4 => ?_) (fun q4 => ?_)
            · refine sw_iinc (y := nI (i109 + 1)) (ls2 := [.ref 9000, .ref 5000, .int (nI (i109 + 1)), xx_d]) O (xx_dt dd_X10_init 70 rfl) rfl (nI_1 _) (by decide) rfl ?_
              refine sw_goto (tgt := 109) O (xx_dt dd_X10_init 71 rfl) (by decide) ?_
              exact kk109
            · exact absurd q4 (fun e => e hst2)
        · show SW Y _ _ (setM z (g_Cpick B pk gr cd B 0 (x_CinitA_55 σ R (u2 (g_cho0 σ) 9000 5 (-1))) 0 0) h) 109 [.ref 9000, .ref 5000, .int (nI 6), xx_d] []
          refine sw_iload_n O (xx_dt dd_X10_init 58 rfl) rfl ?_
          refine sw_bipush (x := 6) O (xx_dt dd_X10_init 59 rfl) (by decide) ?_
          refine sw_icmp_ge (tgt := 136) O (xx_dt dd_X10_init 60 rfl) (by decide) (fun q3 => ?_) (fun q3 => ?_)
          · refine sw_iconst (x := 0) O (xx_dt dd_X10_init 72 rfl) (by decide) ?_
            refine sw_istore_n (ls2 := [.ref 9000, .ref 5000, .int 0, xx_d]) O (xx_dt dd_X10_init 73 rfl) (by decide) rfl ?_
            refine sw_for (S := XS9) (fun i138 s138 => (x_CinitA_149 σ i138 s138)) (fun _ s138 => s138 9000 20 = nI 1 ∧ (∀ q, q ≠ 9003 → s138 q = (g_Cpick B pk gr cd B 0 (x_CinitA_55 σ R (u2 (g_cho0 σ) 9000 5 (-1))) 0 0) q)) (hp := fun s138 => setM z s138 h) (hd := 138) (lc := fun i138 s138 => [.ref 9000, .ref 5000, .int (nI i138), xx_d]) (N := 64) (fun i138 s138 hi138 hP138 => ⟨(by (try dsimp only); (repeat' split) <;> (refine ⟨?_, ?_⟩ <;> (first | exact hP138.1 | exact hP138.2 | exact (fun q9 hq9 => by (simp (disch := omega) only [u2_ne, uR_ne, fr_fill, fr_Ctake, fx_CinitA_149]); exact hP138.2 q9 hq9) | exact hi138 | exact .inl rfl | exact .inr rfl | (simp (disch := omega) only [u2_ne, uR_ne, fr_fill, fr_Ctake, fx_CinitA_149]; first | exact hP138.1 | exact hP138.2 | exact (fun q9 hq9 => by (simp (disch := omega) only [u2_ne, uR_ne, fr_fill, fr_Ctake, fx_CinitA_149]); exact hP138.2 q9 hq9))))), fun kk138 => ?_⟩) 64 0 (g_Cpick B pk gr cd B 0 (x_CinitA_55 σ R (u2 (g_cho0 σ) 9000 5 (-1))) 0 0) (by omega) (⟨(show (g_Cpick B pk gr cd B 0 (x_CinitA_55 σ R (u2 (g_cho0 σ) 9000 5 (-1))) 0 0) 9000 20 = nI 1 from ((((fr2_Cpick _ _ (q := 0)).2).trans (congrFun (hP55.2 _ (by omega)) 20)).trans rfl)), (fun _ _ => rfl)⟩) (fun hP138 => ?_)
            · refine sw_iload_n O (xx_dt dd_X10_init 74 rfl) rfl ?_
              refine sw_aload_n O (xx_dt dd_X10_init 75 rfl) rfl ?_
              refine sw_get (v := .ref 9003) O (xx_dt dd_X10_init 76 rfl) cl_X10 fl_X10_22 (lm_9000 (σ := s138) (fl1 ((((congrFun (hP138.2 _ (by omega)) 20).trans ((fr2_Cpick _ _ (q := 0)).2)).trans (congrFun (hP55.2 _ (by omega)) 20)).trans rfl))) (by decide) rfl ?_
              refine sw_alen O (xx_dt dd_X10_init 77 rfl) (by omega) (by omega) ((im_9003 (z := z) (σ := s138) ((((congrFun (hP138.2 _ (by omega)) 20).trans ((fr2_Cpick _ _ (q := 0)).2)).trans (congrFun (hP55.2 _ (by omega)) 20)).trans rfl)).get _) ?_
              refine sw_icmp_ge (tgt := 203) O (xx_dt dd_X10_init 78 rfl) (by decide) (fun q5 => ?_) (fun q5 => ?_)
              · exact absurd q5 (nI_ge (b := 64) hi138 (by omega))
              · refine sw_iconst (x := 0) O (xx_dt dd_X10_init 79 rfl) (by decide) ?_
                refine sw_istore_n (ls2 := [.ref 9000, .ref 5000, .int (nI i138), .int 0]) O (xx_dt dd_X10_init 80 rfl) (by decide) rfl ?_
                refine sw_for (S := XS9) (fun i149 s149 => (if (((nI i138) >>> ((nI i149) &&& 31)) &&& 1) = 1 then u2 s149 9003 i138 (if (s149 9003 i138) < (s149 9003 (bclr i138 i149)) then (s149 9003 (bclr i138 i149)) else (s149 9003 i138)) else s149)) (fun _ s149 => s149 9000 20 = nI 1 ∧ (∀ q, q ≠ 9003 → s149 q = s138 q)) (hp := fun s149 => setM z s149 h) (hd := 149) (lc := fun i149 s149 => [.ref 9000, .ref 5000, .int (nI i138), .int (nI i149)]) (N := 6) (fun i149 s149 hi149 hP149 => ⟨(by (try dsimp only); (repeat' split) <;> (refine ⟨?_, ?_⟩ <;> (first | exact hP149.1 | exact hP149.2 | exact (fun q9 hq9 => by (simp (disch := omega) only [u2_ne, uR_ne, fr_fill, fr_Ctake, fx_CinitA_149]); exact hP149.2 q9 hq9) | exact hi149 | exact .inl rfl | exact .inr rfl | (simp (disch := omega) only [u2_ne, uR_ne, fr_fill, fr_Ctake, fx_CinitA_149]; first | exact hP149.1 | exact hP149.2 | exact (fun q9 hq9 => by (simp (disch := omega) only [u2_ne, uR_ne, fr_fill, fr_Ctake, fx_CinitA_149]); exact hP149.2 q9 hq9))))), fun kk149 => ?_⟩) 6 0 s138 (by omega) (⟨(show s138 9000 20 = nI 1 from ((((congrFun (hP138.2 _ (by omega)) 20).trans ((fr2_Cpick _ _ (q := 0)).2)).trans (congrFun (hP55.2 _ (by omega)) 20)).trans rfl)), (fun _ _ => rfl)⟩) (fun hP149 => ?_)
                · refine sw_iload_n O (xx_dt dd_X10_init 81 rfl) rfl ?_
                  refine sw_bipush (x := 6) O (xx_dt dd_X10_init 82 rfl) (by decide) ?_
                  refine sw_icmp_ge (tgt := 197) O (xx_dt dd_X10_init 83 rfl) (by decide) (fun q6 => ?_) (fun q6 => ?_)
                  · exact absurd q6 (nI_ge (b := 6) hi149 (by omega))
                  · refine sw_iload_n O (xx_dt dd_X10_init 84 rfl) rfl ?_
                    refine sw_iload_n O (xx_dt dd_X10_init 85 rfl) rfl ?_
                    refine sw_ishr O (xx_dt dd_X10_init 86 rfl) ?_
                    refine sw_iconst (x := 1) O (xx_dt dd_X10_init 87 rfl) (by decide) ?_
                    refine sw_iand O (xx_dt dd_X10_init 88 rfl) ?_
                    refine sw_iconst (x := 1) O (xx_dt dd_X10_init 89 rfl) (by decide) ?_
                    refine sw_icmp_ne (tgt := 191) O (xx_dt dd_X10_init 90 rfl) (by decide) (fun q7 => ?_) (fun q7 => ?_)
                    · refine sw_iinc (y := nI (i149 + 1)) (ls2 := [.ref 9000, .ref 5000, .int (nI i138), .int (nI (i149 + 1))]) O (xx_dt dd_X10_init 110 rfl) rfl (nI_1 _) (by decide) rfl ?_
                      refine sw_goto (tgt := 149) O (xx_dt dd_X10_init 111 rfl) (by decide) ?_
                      simp only [if_neg q7] at kk149
                      exact kk149
                    · refine sw_aload_n O (xx_dt dd_X10_init 91 rfl) rfl ?_
                      refine sw_get (v := .ref 9003) O (xx_dt dd_X10_init 92 rfl) cl_X10 fl_X10_22 (lm_9000 (σ := s149) (fl1 (((((congrFun (hP149.2 _ (by omega)) 20).trans (congrFun (hP138.2 _ (by omega)) 20)).trans ((fr2_Cpick _ _ (q := 0)).2)).trans (congrFun (hP55.2 _ (by omega)) 20)).trans rfl))) (by decide) rfl ?_
                      refine sw_iload_n O (xx_dt dd_X10_init 93 rfl) rfl ?_
                      refine sw_aload_n O (xx_dt dd_X10_init 94 rfl) rfl ?_
                      refine sw_get (v := .ref 9003) O (xx_dt dd_X10_init 95 rfl) cl_X10 fl_X10_22 (lm_9000 (σ := s149) (fl1 (((((congrFun (hP149.2 _ (by omega)) 20).trans (congrFun (hP138.2 _ (by omega)) 20)).trans ((fr2_Cpick _ _ (q := 0)).2)).trans (congrFun (hP55.2 _ (by omega)) 20)).trans rfl))) (by decide) rfl ?_
                      refine sw_iload_n O (xx_dt dd_X10_init 96 rfl) rfl ?_
                      refine sw_iaload (v := .int (s149 9003 i138)) O (xx_dt dd_X10_init 97 rfl) ((im_9003 (z := z) (σ := s149) (((((congrFun (hP149.2 _ (by omega)) 20).trans (congrFun (hP138.2 _ (by omega)) 20)).trans ((fr2_Cpick _ _ (q := 0)).2)).trans (congrFun (hP55.2 _ (by omega)) 20)).trans rfl)).get _) (pk_in i138 _ (by omega)) (by rw [nI_clamp (by omega)]; try exact rfl) ?_
                      refine sw_aload_n O (xx_dt dd_X10_init 98 rfl) rfl ?_
                      refine sw_get (v := .ref 9003) O (xx_dt dd_X10_init 99 rfl) cl_X10 fl_X10_22 (lm_9000 (σ := s149) (fl1 (((((congrFun (hP149.2 _ (by omega)) 20).trans (congrFun (hP138.2 _ (by omega)) 20)).trans ((fr2_Cpick _ _ (q := 0)).2)).trans (congrFun (hP55.2 _ (by omega)) 20)).trans rfl))) (by decide) rfl ?_
                      refine sw_iload_n O (xx_dt dd_X10_init 100 rfl) rfl ?_
                      refine sw_iconst (x := 1) O (xx_dt dd_X10_init 101 rfl) (by decide) ?_
                      refine sw_iload_n O (xx_dt dd_X10_init 102 rfl) rfl ?_
                      refine sw_ishl O (xx_dt dd_X10_init 103 rfl) ?_
                      refine sw_iconst (x := (-1)) O (xx_dt dd_X10_init 104 rfl) (by decide) ?_
                      refine sw_ixor O (xx_dt dd_X10_init 105 rfl) ?_
                      refine sw_iand O (xx_dt dd_X10_init 106 rfl) ?_
                      have hx185 := bclr_lt (S := i138) (k := i149) (by omega)
                      rw [bclr_eq (S := i138) (k := i149) (by omega) (by omega)]
                      refine sw_iaload (v := .int (s149 9003 (bclr i138 i149))) O (xx_dt dd_X10_init 107 rfl) ((im_9003 (z := z) (σ := s149) (((((congrFun (hP149.2 _ (by omega)) 20).trans (congrFun (hP138.2 _ (by omega)) 20)).trans ((fr2_Cpick _ _ (q := 0)).2)).trans (congrFun (hP55.2 _ (by omega)) 20)).trans rfl)).get _) (pk_in (bclr i138 i149) _ (by omega)) (by rw [nI_clamp (by omega)]; try exact rfl) ?_
                      refine sw_max O mm_X10_61 (xx_dt dd_X10_init 108 rfl) (by omega) (Nat.le_of_ble_eq_true rfl) ?_
                      refine sw_iastore (h2 := setM z (u2 s149 9003 i138 (if (s149 9003 i138) < (s149 9003 (bclr i138 i149)) then (s149 9003 (bclr i138 i149)) else (s149 9003 i138))) h) O (xx_dt dd_X10_init 109 rfl) ((im_9003 (z := z) (σ := s149) (((((congrFun (hP149.2 _ (by omega)) 20).trans (congrFun (hP138.2 _ (by omega)) 20)).trans ((fr2_Cpick _ _ (q := 0)).2)).trans (congrFun (hP55.2 _ (by omega)) 20)).trans rfl)).get _) (pk_in i138 _ (by omega)) (by omega) (by rw [nI_clamp (by omega)]; exact ((im_9003 (z := z) (σ := s149) (((((congrFun (hP149.2 _ (by omega)) 20).trans (congrFun (hP138.2 _ (by omega)) 20)).trans ((fr2_Cpick _ _ (q := 0)).2)).trans (congrFun (hP55.2 _ (by omega)) 20)).trans rfl)).put (by omega))) ?_
                      refine sw_iinc (y := nI (i149 + 1)) (ls2 := [.ref 9000, .ref 5000, .int (nI i138), .int (nI (i149 + 1))]) O (xx_dt dd_X10_init 110 rfl) rfl (nI_1 _) (by decide) rfl ?_
                      refine sw_goto (tgt := 149) O (xx_dt dd_X10_init 111 rfl) (by decide) ?_
                      simp only [if_pos q7] at kk149
                      exact kk149
                · show SW Y _ _ (setM z (x_CinitA_149 σ i138 s138) h) 149 [.ref 9000, .ref 5000, .int (nI i138), .int (nI 6)] []
                  have hP149 : (x_CinitA_149 σ i138 s138) 9000 20 = nI 1 ∧ (∀ q, q ≠ 9003 → (x_CinitA_149 σ i138 s138) q = s138 q) := hP149
                  refine sw_iload_n O (xx_dt dd_X10_init 81 rfl) rfl ?_
                  refine sw_bipush (x := 6) O (xx_dt dd_X10_init 82 rfl) (by decide) ?_
                  refine sw_icmp_ge (tgt := 197) O (xx_dt dd_X10_init 83 rfl) (by decide) (fun q6 => ?_) (fun q6 => ?_)
                  · refine sw_iinc (y := nI (i138 + 1)) (ls2 := [.ref 9000, .ref 5000, .int (nI (i138 + 1)), .int (nI 6)]) O (xx_dt dd_X10_init 112 rfl) rfl (nI_1 _) (by decide) rfl ?_
                    refine sw_goto (tgt := 138) O (xx_dt dd_X10_init 113 rfl) (by decide) ?_
                    refine sw_dum (ls2 := [.ref 9000, .ref 5000, .int (nI (i138 + 1)), xx_d]) ⟨.inr rfl, .inr rfl, .inr rfl, .inl rfl, trivial⟩ ?_
                    exact kk138
                  · exact absurd (Int32.le_refl _) q6
            · show SW Y _ _ (setM z (x_CinitA_138 σ (g_Cpick B pk gr cd B 0 (x_CinitA_55 σ R (u2 (g_cho0 σ) 9000 5 (-1))) 0 0)) h) 138 [.ref 9000, .ref 5000, .int (nI 64), xx_d] []
              have hP138 : (x_CinitA_138 σ (g_Cpick B pk gr cd B 0 (x_CinitA_55 σ R (u2 (g_cho0 σ) 9000 5 (-1))) 0 0)) 9000 20 = nI 1 ∧ (∀ q, q ≠ 9003 → (x_CinitA_138 σ (g_Cpick B pk gr cd B 0 (x_CinitA_55 σ R (u2 (g_cho0 σ) 9000 5 (-1))) 0 0)) q = (g_Cpick B pk gr cd B 0 (x_CinitA_55 σ R (u2 (g_cho0 σ) 9000 5 (-1))) 0 0) q) := hP138
              refine sw_iload_n O (xx_dt dd_X10_init 74 rfl) rfl ?_
              refine sw_aload_n O (xx_dt dd_X10_init 75 rfl) rfl ?_
              refine sw_get (v := .ref 9003) O (xx_dt dd_X10_init 76 rfl) cl_X10 fl_X10_22 (lm_9000 (σ := (x_CinitA_138 σ (g_Cpick B pk gr cd B 0 (x_CinitA_55 σ R (u2 (g_cho0 σ) 9000 5 (-1))) 0 0))) (fl1 ((((congrFun (hP138.2 _ (by omega)) 20).trans ((fr2_Cpick _ _ (q := 0)).2)).trans (congrFun (hP55.2 _ (by omega)) 20)).trans rfl))) (by decide) rfl ?_
              refine sw_alen O (xx_dt dd_X10_init 77 rfl) (by omega) (by omega) ((im_9003 (z := z) (σ := (x_CinitA_138 σ (g_Cpick B pk gr cd B 0 (x_CinitA_55 σ R (u2 (g_cho0 σ) 9000 5 (-1))) 0 0))) ((((congrFun (hP138.2 _ (by omega)) 20).trans ((fr2_Cpick _ _ (q := 0)).2)).trans (congrFun (hP55.2 _ (by omega)) 20)).trans rfl)).get _) ?_
              refine sw_icmp_ge (tgt := 203) O (xx_dt dd_X10_init 78 rfl) (by decide) (fun q5 => ?_) (fun q5 => ?_)
              · exact sw_ret O (xx_dt dd_X10_init 114 rfl) rfl (by rw [hQ]; exact ⟨rfl, by unfold g_CinitA; rfl⟩)
              · exact absurd (Int32.le_refl _) q5
          · exact absurd (Int32.le_refl _) q3
    · exact absurd (Int32.le_refl _) q1
def x_CinitB_55 (σ : XS9) (R : Nat) (s0 : XS9) : XS9 := xit (fun i55 s55 => u2 s55 9004 i55 (σ (5010 + i55) 0)) R 0 s0
def x_CinitB_109 (σ : XS9) (s0 : XS9) : XS9 := xit (fun i109 s109 => u2 s109 9001 i109 (-1)) 6 0 s0
def x_CinitB_149 (σ : XS9) (i138 : Nat) (s0 : XS9) : XS9 := xit (fun i149 s149 => (if (((nI i138) >>> ((nI i149) &&& 31)) &&& 1) = 1 then u2 s149 9003 i138 (if (s149 9003 i138) < (s149 9003 (bclr i138 i149)) then (s149 9003 (bclr i138 i149)) else (s149 9003 i138)) else s149)) 6 0 s0
theorem fx_CinitB_149 {σ : XS9} {i138 : Nat} {s0 : XS9} {q : Nat} (h : q ≠ 9003) : x_CinitB_149 σ i138 s0 q = s0 q := xit_keep (fun s : XS9 => s q) (fun i s => by (try dsimp only); (repeat' split) <;> first | rfl | simp (disch := omega) only [u2_ne]) _ _ _
def x_CinitB_138 (σ : XS9) (s0 : XS9) : XS9 := xit (fun i138 s138 => (x_CinitB_149 σ i138 s138)) 64 0 s0
def g_CinitB (σ : XS9) (R B : Nat) (pk gr : Nat → Nat) (cd : Nat → Nat → Nat) : XS9 := (x_CinitB_138 σ (x_CinitB_109 σ (x_CinitB_55 σ R (u2 (g_cho0 σ) 9000 5 (-1)))))
theorem ct_CinitB {l : Launch} {h : XH} (hl : l.stackTraces = false) {z : Int64} {σ : XS9} (hbs : xx_bs h) (hfr : ∀ r, 5000 ≤ r → r < 20010 → h r = none) (hc0 : σ 9000 20 = 0) {R : Nat} (hR : σ 5001 900 = nI R) (hR5 : R ≤ 5) {B : Nat} (hB : σ 5002 900 = nI B) (hB6 : B ≤ 6) {pk : Nat → Nat} (hpk : ∀ j, j < B → σ (5030 + j) 900 = nI (2 * pk j) ∧ pk j ≤ 6) {gr : Nat → Nat} (hgr : ∀ j, j < B → σ (5020 + j) 3 = nI (gr j) ∧ gr j < 4) {cd : Nat → Nat → Nat} (hcd : ∀ j k, j < B → k < pk j → σ (5030 + j) (2 * k) = nI (cd j k) ∧ cd j k < 7776) (hst : σ 5000 1 ≤ 1) (hst2 : ¬ (2 : Int32) ≤ σ 5000 1) : XEx l m_X10_init 20 5 101 [.ref 9000, .ref 5000] (xx_up (setM z σ h) 9000 (16, 7, fun j => defaultValue (tyX10 j))) none (setM z (g_CinitB σ R B pk gr cd) h) := by
  refine XMet.of hl rfl rfl (Nat.le_of_ble_eq_true rfl) (fun Y O hh hQ => ?_)
  show SW Y 5 101 (xx_up (setM z σ h) 9000 (16, 7, fun j => defaultValue (tyX10 j))) 0 [.ref 9000, .ref 5000, xx_d, xx_d] []
  refine sw_aload_n O (xx_dt dd_X10_init 0 rfl) rfl ?_
  refine sw_aload_n O (xx_dt dd_X10_init 1 rfl) rfl ?_
  refine sw_putF (h2 := xx_up (setM z σ h) 9000 (16, 7, updV (fun j => defaultValue (tyX10 j)) 6 (.ref 5000))) O (xx_dt dd_X10_init 2 rfl) cl_X10 fz_X10_3 (xx_up_eq _ _ _) (by decide) (by omega) rfl rfl (fun _ => ⟨rfl, rfl⟩) xx_up_up ?_
  refine sw_aload_n O (xx_dt dd_X10_init 3 rfl) rfl ?_
  refine sw_objInit O oi_X10_9 (xx_dt dd_X10_init 4 rfl) (by omega) (Nat.le_of_ble_eq_true rfl) ?_
  refine sw_aload_n O (xx_dt dd_X10_init 5 rfl) rfl ?_
  refine sw_bipush (x := 6) O (xx_dt dd_X10_init 6 rfl) (by decide) ?_
  refine sw_newarray (k := 4) (n := 95) (t := 100) (N := 6) (r := 9001) O (xx_dt dd_X10_init 7 rfl) ⟨⟨by omega, by omega⟩, rfl⟩ ac_int (by first | decide | (have h9 := xx_nlt0 6 (by omega); exact h9)) (by first | rfl | exact nI_clamp (by omega)) (by show 6 * 4 ≤ _; omega) ((xx_up_ne (by omega)).trans ((setM_c0 hc0 (by omega)).trans (hfr 9001 (by omega) (by omega)))) (by omega) ?_
  rw [xx_blk_up, def0, xx_up_sw (by omega)]
  refine sw_putF (h2 := xx_up (xx_up (setM z σ h) 9001 (100, 6, fun _ => .int 0)) 9000 (16, 7, updV (updV (fun j => defaultValue (tyX10 j)) 6 (.ref 5000)) 0 (.ref 9001))) O (xx_dt dd_X10_init 8 rfl) cl_X10 fz_X10_15 (xx_up_eq _ _ _) (by decide) (by omega) rfl rfl (fun _ => ⟨rfl, rfl⟩) xx_up_up ?_
  refine sw_aload_n O (xx_dt dd_X10_init 9 rfl) rfl ?_
  refine sw_bipush (x := 6) O (xx_dt dd_X10_init 10 rfl) (by decide) ?_
  refine sw_newarray (k := 3) (n := 89) (t := 100) (N := 6) (r := 9002) O (xx_dt dd_X10_init 11 rfl) ⟨⟨by omega, by omega⟩, rfl⟩ ac_int (by first | decide | (have h9 := xx_nlt0 6 (by omega); exact h9)) (by first | rfl | exact nI_clamp (by omega)) (by show 6 * 4 ≤ _; omega) ((xx_up_ne (by omega)).trans ((xx_up_ne (by omega)).trans ((setM_c0 hc0 (by omega)).trans (hfr 9002 (by omega) (by omega))))) (by omega) ?_
  rw [xx_blk_up, def0, xx_up_sw (by omega)]
  refine sw_putF (h2 := xx_up (xx_up (xx_up (setM z σ h) 9001 (100, 6, fun _ => .int 0)) 9002 (100, 6, fun _ => .int 0)) 9000 (16, 7, updV (updV (updV (fun j => defaultValue (tyX10 j)) 6 (.ref 5000)) 0 (.ref 9001)) 1 (.ref 9002))) O (xx_dt dd_X10_init 12 rfl) cl_X10 fz_X10_19 (xx_up_eq _ _ _) (by decide) (by omega) rfl rfl (fun _ => ⟨rfl, rfl⟩) xx_up_up ?_
  refine sw_aload_n O (xx_dt dd_X10_init 13 rfl) rfl ?_
  refine sw_bipush (x := 64) O (xx_dt dd_X10_init 14 rfl) (by decide) ?_
  refine sw_newarray (k := 2) (n := 25) (t := 100) (N := 64) (r := 9003) O (xx_dt dd_X10_init 15 rfl) ⟨⟨by omega, by omega⟩, rfl⟩ ac_int (by first | decide | (have h9 := xx_nlt0 64 (by omega); exact h9)) (by first | rfl | exact nI_clamp (by omega)) (by show 64 * 4 ≤ _; omega) ((xx_up_ne (by omega)).trans ((xx_up_ne (by omega)).trans ((xx_up_ne (by omega)).trans ((setM_c0 hc0 (by omega)).trans (hfr 9003 (by omega) (by omega)))))) (by omega) ?_
  rw [xx_blk_up, def0, xx_up_sw (by omega)]
  refine sw_putF (h2 := xx_up (xx_up (xx_up (xx_up (setM z σ h) 9001 (100, 6, fun _ => .int 0)) 9002 (100, 6, fun _ => .int 0)) 9003 (100, 64, fun _ => .int 0)) 9000 (16, 7, updV (updV (updV (updV (fun j => defaultValue (tyX10 j)) 6 (.ref 5000)) 0 (.ref 9001)) 1 (.ref 9002)) 2 (.ref 9003))) O (xx_dt dd_X10_init 16 rfl) cl_X10 fz_X10_22 (xx_up_eq _ _ _) (by decide) (by omega) rfl rfl (fun _ => ⟨rfl, rfl⟩) xx_up_up ?_
  refine sw_aload_n O (xx_dt dd_X10_init 17 rfl) rfl ?_
  refine sw_iconst (x := 5) O (xx_dt dd_X10_init 18 rfl) (by decide) ?_
  refine sw_newarray (k := 1) (n := 20) (t := 100) (N := 5) (r := 9004) O (xx_dt dd_X10_init 19 rfl) ⟨⟨by omega, by omega⟩, rfl⟩ ac_int (by first | decide | (have h9 := xx_nlt0 5 (by omega); exact h9)) (by first | rfl | exact nI_clamp (by omega)) (by show 5 * 4 ≤ _; omega) ((xx_up_ne (by omega)).trans ((xx_up_ne (by omega)).trans ((xx_up_ne (by omega)).trans ((xx_up_ne (by omega)).trans ((setM_c0 hc0 (by omega)).trans (hfr 9004 (by omega) (by omega))))))) (by omega) ?_
  rw [xx_blk_up, def0, xx_up_sw (by omega)]
  refine sw_putF (h2 := xx_up (xx_up (xx_up (xx_up (xx_up (setM z σ h) 9001 (100, 6, fun _ => .int 0)) 9002 (100, 6, fun _ => .int 0)) 9003 (100, 64, fun _ => .int 0)) 9004 (100, 5, fun _ => .int 0)) 9000 (16, 7, updV (updV (updV (updV (updV (fun j => defaultValue (tyX10 j)) 6 (.ref 5000)) 0 (.ref 9001)) 1 (.ref 9002)) 2 (.ref 9003)) 3 (.ref 9004))) O (xx_dt dd_X10_init 20 rfl) cl_X10 fz_X10_25 (xx_up_eq _ _ _) (by decide) (by omega) rfl rfl (fun _ => ⟨rfl, rfl⟩) xx_up_up ?_
  refine sw_aload_n O (xx_dt dd_X10_init 21 rfl) rfl ?_
  refine sw_bipush (x := 20) O (xx_dt dd_X10_init 22 rfl) (by decide) ?_
  refine sw_newarray (k := 0) (n := 0) (t := 100) (N := 20) (r := 9005) O (xx_dt dd_X10_init 23 rfl) ⟨⟨by omega, by omega⟩, rfl⟩ ac_int (by first | decide | (have h9 := xx_nlt0 20 (by omega); exact h9)) (by first | rfl | exact nI_clamp (by omega)) (by show 20 * 4 ≤ _; omega) ((xx_up_ne (by omega)).trans ((xx_up_ne (by omega)).trans ((xx_up_ne (by omega)).trans ((xx_up_ne (by omega)).trans ((xx_up_ne (by omega)).trans ((setM_c0 hc0 (by omega)).trans (hfr 9005 (by omega) (by omega)))))))) (by omega) ?_
  rw [xx_blk_up, def0, xx_up_sw (by omega)]
  refine sw_putF (h2 := xx_up (xx_up (xx_up (xx_up (xx_up (xx_up (setM z σ h) 9001 (100, 6, fun _ => .int 0)) 9002 (100, 6, fun _ => .int 0)) 9003 (100, 64, fun _ => .int 0)) 9004 (100, 5, fun _ => .int 0)) 9005 (100, 20, fun _ => .int 0)) 9000 (16, 7, updV (updV (updV (updV (updV (updV (fun j => defaultValue (tyX10 j)) 6 (.ref 5000)) 0 (.ref 9001)) 1 (.ref 9002)) 2 (.ref 9003)) 3 (.ref 9004)) 4 (.ref 9005))) O (xx_dt dd_X10_init 24 rfl) cl_X10 fz_X10_28 (xx_up_eq _ _ _) (by decide) (by omega) rfl rfl (fun _ => ⟨rfl, rfl⟩) xx_up_up ?_
  refine sw_alter (F2 := cho_F) (xx_up_eq _ _ _) (fun j hj => by match j, hj with | 0, _ => rfl | 1, _ => rfl | 2, _ => rfl | 3, _ => rfl | 4, _ => rfl | 5, _ => rfl | 6, _ => rfl) ?_
  rw [xx_up_up, new_cho]
  refine sw_aload_n O (xx_dt dd_X10_init 25 rfl) rfl ?_
  refine sw_iconst (x := (-1)) O (xx_dt dd_X10_init 26 rfl) (by decide) ?_
  refine sw_put (h2 := setM z (u2 (g_cho0 σ) 9000 5 (-1)) h) O (xx_dt dd_X10_init 27 rfl) cl_X10 fl_X10_31 (lm_9000 (σ := g_cho0 σ) (fl1 rfl)) (by decide) (by omega) rfl (fun _ => ⟨rfl, rfl⟩) (pm_cho (σ := g_cho0 σ) rfl) ?_
  refine sw_iconst (x := 0) O (xx_dt dd_X10_init 28 rfl) (by decide) ?_
  refine sw_istore_n (ls2 := [.ref 9000, .ref 5000, .int 0, xx_d]) O (xx_dt dd_X10_init 29 rfl) (by decide) rfl ?_
  refine sw_for (S := XS9) (fun i55 s55 => u2 s55 9004 i55 (σ (5010 + i55) 0)) (fun _ s55 => s55 9000 20 = nI 1 ∧ (∀ q, q ≠ 9004 → s55 q = (u2 (g_cho0 σ) 9000 5 (-1)) q)) (hp := fun s55 => setM z s55 h) (hd := 55) (lc := fun i55 s55 => [.ref 9000, .ref 5000, .int (nI i55), xx_d]) (N := R) (fun i55 s55 hi55 hP55 => ⟨(by (try dsimp only); (repeat' split) <;> (refine ⟨?_, ?_⟩ <;> (first | exact hP55.1 | exact hP55.2 | exact (fun q9 hq9 => by (simp (disch := omega) only [u2_ne, uR_ne, fr_fill, fr_Ctake, fx_CinitB_149]); exact hP55.2 q9 hq9) | exact hi55 | exact .inl rfl | exact .inr rfl | (simp (disch := omega) only [u2_ne, uR_ne, fr_fill, fr_Ctake, fx_CinitB_149]; first | exact hP55.1 | exact hP55.2 | exact (fun q9 hq9 => by (simp (disch := omega) only [u2_ne, uR_ne, fr_fill, fr_Ctake, fx_CinitB_149]); exact hP55.2 q9 hq9))))), fun kk55 => ?_⟩) R 0 (u2 (g_cho0 σ) 9000 5 (-1)) (by omega) (⟨(show (u2 (g_cho0 σ) 9000 5 (-1)) 9000 20 = nI 1 from rfl), (fun _ _ => rfl)⟩) (fun hP55 => ?_)
  · refine sw_iload_n O (xx_dt dd_X10_init 30 rfl) rfl ?_
    refine sw_aload_n O (xx_dt dd_X10_init 31 rfl) rfl ?_
    refine sw_get (v := .ref 5001) O (xx_dt dd_X10_init 32 rfl) cl_X14 fl_X10_35 (lm_mod (σ := s55)) (by decide) rfl ?_
    refine sw_callVL (ci := 6) (as := []) (st := [.int (nI i55)]) (st2 := [.int (nI R), .int (nI i55)]) O (ct_AL_size hl (lm_5001 (σ := s55) (R := R) ((((congrFun (hP55.2 _ (by omega)) 900).trans (congrFun (u2_ne (by omega)) 900)).trans (congrFun (fr_cho0 (by omega)) 900)).trans hR) (by omega))) ce_Jx4a65c_size_8abf5 ml_X10_39 iv_Jx4a65c_size_8abf5 cl_Jx4a65c rfl (lm_5001 (σ := s55) (R := R) ((((congrFun (hP55.2 _ (by omega)) 900).trans (congrFun (u2_ne (by omega)) 900)).trans (congrFun (fr_cho0 (by omega)) 900)).trans hR) (by omega)) (xx_dt dd_X10_init 33 rfl) (by omega) rfl rfl (Nat.le_of_ble_eq_true rfl) rfl ?_
    refine sw_icmp_ge (tgt := 92) O (xx_dt dd_X10_init 34 rfl) (by decide) (fun q1 => ?_) (fun q1 => ?_)
    · exact absurd q1 (nI_ge (b := R) hi55 (by omega))
    · refine sw_aload_n O (xx_dt dd_X10_init 35 rfl) rfl ?_
      refine sw_get (v := .ref 9004) O (xx_dt dd_X10_init 36 rfl) cl_X10 fl_X10_25 (lm_9000 (σ := s55) (fl1 ((congrFun (hP55.2 _ (by omega)) 20).trans rfl))) (by decide) rfl ?_
      refine sw_iload_n O (xx_dt dd_X10_init 37 rfl) rfl ?_
      refine sw_aload_n O (xx_dt dd_X10_init 38 rfl) rfl ?_
      refine sw_get (v := .ref 5001) O (xx_dt dd_X10_init 39 rfl) cl_X14 fl_X10_35 (lm_mod (σ := s55)) (by decide) rfl ?_
      refine sw_iload_n O (xx_dt dd_X10_init 40 rfl) rfl ?_
      refine sw_callVL (ci := 6) (as := [.int (nI i55)]) (st := [.int (nI i55), .ref 9004]) (st2 := [.ref (5010 + i55), .int (nI i55), .ref 9004]) O (ct_get hl hbs (lm_5001 (σ := s55) (R := R) ((((congrFun (hP55.2 _ (by omega)) 900).trans (congrFun (u2_ne (by omega)) 900)).trans (congrFun (fr_cho0 (by omega)) 900)).trans hR) (by omega)) (by omega) (i := i55) (x := 5010 + i55) (by omega) (by omega) rfl) ce_Jx4a65c_get_915e3 ml_X10_45 iv_Jx4a65c_get_915e3 cl_Jx4a65c rfl (lm_5001 (σ := s55) (R := R) ((((congrFun (hP55.2 _ (by omega)) 900).trans (congrFun (u2_ne (by omega)) 900)).trans (congrFun (fr_cho0 (by omega)) 900)).trans hR) (by omega)) (xx_dt dd_X10_init 41 rfl) (by omega) rfl rfl (Nat.le_of_ble_eq_true rfl) rfl ?_
      refine sw_castO O (xx_dt dd_X10_init 42 rfl) cl_X12 (lm_reg (σ := s55) (R := R) ((((congrFun (hP55.2 _ (by omega)) 900).trans (congrFun (u2_ne (by omega)) 900)).trans (congrFun (fr_cho0 (by omega)) 900)).trans hR) (by omega) (j := i55) (by omega)) cw_X10_49 ?_
      refine sw_get (v := .int (σ (5010 + i55) 0)) O (xx_dt dd_X10_init 43 rfl) cl_X12 fl_X10_51 (lm_reg (σ := s55) (R := R) ((((congrFun (hP55.2 _ (by omega)) 900).trans (congrFun (u2_ne (by omega)) 900)).trans (congrFun (fr_cho0 (by omega)) 900)).trans hR) (by omega) (j := i55) (by omega)) (by decide) (congrArg Value.int (((congrFun (hP55.2 _ (by omega)) 0).trans (congrFun (u2_ne (by omega)) 0)).trans (congrFun (fr_cho0 (by omega)) 0))) ?_
      refine sw_iastore (h2 := setM z (u2 s55 9004 i55 (σ (5010 + i55) 0)) h) O (xx_dt dd_X10_init 44 rfl) ((im_9004 (z := z) (σ := s55) ((congrFun (hP55.2 _ (by omega)) 20).trans rfl)).get _) (pk_in i55 _ (by omega)) (by omega) (by rw [nI_clamp (by omega)]; exact ((im_9004 (z := z) (σ := s55) ((congrFun (hP55.2 _ (by omega)) 20).trans rfl)).put (by omega))) ?_
      refine sw_iinc (y := nI (i55 + 1)) (ls2 := [.ref 9000, .ref 5000, .int (nI (i55 + 1)), xx_d]) O (xx_dt dd_X10_init 45 rfl) rfl (nI_1 _) (by decide) rfl ?_
      refine sw_goto (tgt := 55) O (xx_dt dd_X10_init 46 rfl) (by decide) ?_
      exact kk55
  · show SW Y _ _ (setM z (x_CinitB_55 σ R (u2 (g_cho0 σ) 9000 5 (-1))) h) 55 [.ref 9000, .ref 5000, .int (nI R), xx_d] []
    have hP55 : (x_CinitB_55 σ R (u2 (g_cho0 σ) 9000 5 (-1))) 9000 20 = nI 1 ∧ (∀ q, q ≠ 9004 → (x_CinitB_55 σ R (u2 (g_cho0 σ) 9000 5 (-1))) q = (u2 (g_cho0 σ) 9000 5 (-1)) q) := hP55
    refine sw_iload_n O (xx_dt dd_X10_init 30 rfl) rfl ?_
    refine sw_aload_n O (xx_dt dd_X10_init 31 rfl) rfl ?_
    refine sw_get (v := .ref 5001) O (xx_dt dd_X10_init 32 rfl) cl_X14 fl_X10_35 (lm_mod (σ := (x_CinitB_55 σ R (u2 (g_cho0 σ) 9000 5 (-1))))) (by decide) rfl ?_
    refine sw_callVL (ci := 6) (as := []) (st := [.int (nI R)]) (st2 := [.int (nI R), .int (nI R)]) O (ct_AL_size hl (lm_5001 (σ := (x_CinitB_55 σ R (u2 (g_cho0 σ) 9000 5 (-1)))) (R := R) ((((congrFun (hP55.2 _ (by omega)) 900).trans (congrFun (u2_ne (by omega)) 900)).trans (congrFun (fr_cho0 (by omega)) 900)).trans hR) (by omega))) ce_Jx4a65c_size_8abf5 ml_X10_39 iv_Jx4a65c_size_8abf5 cl_Jx4a65c rfl (lm_5001 (σ := (x_CinitB_55 σ R (u2 (g_cho0 σ) 9000 5 (-1)))) (R := R) ((((congrFun (hP55.2 _ (by omega)) 900).trans (congrFun (u2_ne (by omega)) 900)).trans (congrFun (fr_cho0 (by omega)) 900)).trans hR) (by omega)) (xx_dt dd_X10_init 33 rfl) (by omega) rfl rfl (Nat.le_of_ble_eq_true rfl) rfl ?_
    refine sw_icmp_ge (tgt := 92) O (xx_dt dd_X10_init 34 rfl) (by decide) (fun q1 => ?_) (fun q1 => ?_)
    · refine sw_aload_n O (xx_dt dd_X10_init 47 rfl) rfl ?_
      refine sw_get (v := .int (σ 5000 1)) O (xx_dt dd_X10_init 48 rfl) cl_X14 fl_X10_54 (lm_mod (σ := (x_CinitB_55 σ R (u2 (g_cho0 σ) 9000 5 (-1))))) (by decide) (congrArg Value.int (((congrFun (hP55.2 _ (by omega)) 1).trans (congrFun (u2_ne (by omega)) 1)).trans (congrFun (fr_cho0 (by omega)) 1))) ?_
      refine sw_iconst (x := 1) O (xx_dt dd_X10_init 49 rfl) (by decide) ?_
      refine sw_icmp_le (tgt := 107) O (xx_dt dd_X10_init 50 rfl) (by decide) (fun q2 => ?_) (fun q2 => ?_)
      · refine sw_iconst (x := 0) O (xx_dt dd_X10_init 56 rfl) (by decide) ?_
        refine sw_istore_n (ls2 := [.ref 9000, .ref 5000, .int 0, xx_d]) O (xx_dt dd_X10_init 57 rfl) (by decide) rfl ?_
        refine sw_for (S := XS9) (fun i109 s109 => u2 s109 9001 i109 (-1)) (fun _ s109 => s109 9000 20 = nI 1 ∧ (∀ q, q ≠ 9001 → s109 q = (x_CinitB_55 σ R (u2 (g_cho0 σ) 9000 5 (-1))) q)) (hp := fun s109 => setM z s109 h) (hd := 109) (lc := fun i109 s109 => [.ref 9000, .ref 5000, .int (nI i109), xx_d]) (N := 6) (fun i109 s109 hi109 hP109 => ⟨(by (try dsimp only); (repeat' split) <;> (refine ⟨?_, ?_⟩ <;> (first | exact hP109.1 | exact hP109.2 | exact (fun q9 hq9 => by (simp (disch := omega) only [u2_ne, uR_ne, fr_fill, fr_Ctake, fx_CinitB_149]); exact hP109.2 q9 hq9) | exact hi109 | exact .inl rfl | exact .inr rfl | (simp (disch := omega) only [u2_ne, uR_ne, fr_fill, fr_Ctake, fx_CinitB_149]; first | exact hP109.1 | exact hP109.2 | exact (fun q9 hq9 => by (simp (disch := omega) only [u2_ne, uR_ne, fr_fill, fr_Ctake, fx_CinitB_149]); exact hP109.2 q9 hq9))))), fun kk109 => ?_⟩) 6 0 (x_CinitB_55 σ R (u2 (g_cho0 σ) 9000 5 (-1))) (by omega) (⟨(show (x_CinitB_55 σ R (u2 (g_cho0 σ) 9000 5 (-1))) 9000 20 = nI 1 from ((congrFun (hP55.2 _ (by omega)) 20).trans rfl)), (fun _ _ => rfl)⟩) (fun hP109 => ?_)
        · refine sw_iload_n O (xx_dt dd_X10_init 58 rfl) rfl ?_
          refine sw_bipush (x := 6) O (xx_dt dd_X10_init 59 rfl) (by decide) ?_
          refine sw_icmp_ge (tgt := 136) O (xx_dt dd_X10_init 60 rfl) (by decide) (fun q3 => ?_) (fun q3 => ?_)
          · exact absurd q3 (nI_ge (b := 6) hi109 (by omega))
          · refine sw_aload_n O (xx_dt dd_X10_init 61 rfl) rfl ?_
            refine sw_get (v := .int (σ 5000 1)) O (xx_dt dd_X10_init 62 rfl) cl_X14 fl_X10_54 (lm_mod (σ := s109)) (by decide) (congrArg Value.int ((((congrFun (hP109.2 _ (by omega)) 1).trans (congrFun (hP55.2 _ (by omega)) 1)).trans (congrFun (u2_ne (by omega)) 1)).trans (congrFun (fr_cho0 (by omega)) 1))) ?_
            refine sw_iconst (x := 2) O (xx_dt dd_X10_init 63 rfl) (by decide) ?_
            refine sw_icmp_ge (tgt := 130) O (xx_dt dd_X10_init 64 rfl) (by decide) (fun q4 => ?_) (fun q4 => ?_)
            · exact absurd q4 hst2
            · refine sw_aload_n O (xx_dt dd_X10_init 65 rfl) rfl ?_
              refine sw_get (v := .ref 9001) O (xx_dt dd_X10_init 66 rfl) cl_X10 fl_X10_15 (lm_9000 (σ := s109) (fl1 (((congrFun (hP109.2 _ (by omega)) 20).trans (congrFun (hP55.2 _ (by omega)) 20)).trans rfl))) (by decide) rfl ?_
              refine sw_iload_n O (xx_dt dd_X10_init 67 rfl) rfl ?_
              refine sw_iconst (x := (-1)) O (xx_dt dd_X10_init 68 rfl) (by decide) ?_
              refine sw_iastore (h2 := setM z (u2 s109 9001 i109 (-1)) h) O (xx_dt dd_X10_init 69 rfl) ((im_9001 (z := z) (σ := s109) (((congrFun (hP109.2 _ (by omega)) 20).trans (congrFun (hP55.2 _ (by omega)) 20)).trans rfl)).get _) (pk_in i109 _ (by omega)) (by omega) (by rw [nI_clamp (by omega)]; exact ((im_9001 (z := z) (σ := s109) (((congrFun (hP109.2 _ (by omega)) 20).trans (congrFun (hP55.2 _ (by omega)) 20)).trans rfl)).put (by omega))) ?_
              refine sw_iinc (y := nI (i109 + 1)) (ls2 := [.ref 9000, .ref 5000, .int (nI (i109 + 1)), xx_d]) O (xx_dt dd_X10_init 70 rfl) rfl (nI_1 _) (by decide) rfl ?_
              refine sw_goto (tgt := 109) O (xx_dt dd_X10_init 71 rfl) (by decide) ?_
              exact kk109
        · show SW Y _ _ (setM z (x_CinitB_109 σ (x_CinitB_55 σ R (u2 (g_cho0 σ) 9000 5 (-1)))) h) 109 [.ref 9000, .ref 5000, .int (nI 6), xx_d] []
          have hP109 : (x_CinitB_109 σ (x_CinitB_55 σ R (u2 (g_cho0 σ) 9000 5 (-1)))) 9000 20 = nI 1 ∧ (∀ q, q ≠ 9001 → (x_CinitB_109 σ (x_CinitB_55 σ R (u2 (g_cho0 σ) 9000 5 (-1)))) q = (x_CinitB_55 σ R (u2 (g_cho0 σ) 9000 5 (-1))) q) := hP109
          refine sw_iload_n O (xx_dt dd_X10_init 58 rfl) rfl ?_
          refine sw_bipush (x := 6) O (xx_dt dd_X10_init 59 rfl) (by decide) ?_
          refine sw_icmp_ge (tgt := 136) O (xx_dt dd_X10_init 60 rfl) (by decide) (fun q3 => ?_) (fun q3 => ?_)
          · refine sw_iconst (x := 0) O (xx_dt dd_X10_init 72 rfl) (by decide) ?_
            refine sw_istore_n (ls2 := [.ref 9000, .ref 5000, .int 0, xx_d]) O (xx_dt dd_X10_init 73 rfl) (by decide) rfl ?_
            refine sw_for (S := XS9) (fun i138 s138 => (x_CinitB_149 σ i138 s138)) (fun _ s138 => s138 9000 20 = nI 1 ∧ (∀ q, q ≠ 9003 → s138 q = (x_CinitB_109 σ (x_CinitB_55 σ R (u2 (g_cho0 σ) 9000 5 (-1)))) q)) (hp := fun s138 => setM z s138 h) (hd := 138) (lc := fun i138 s138 => [.ref 9000, .ref 5000, .int (nI i138), xx_d]) (N := 64) (fun i138 s138 hi138 hP138 => ⟨(by (try dsimp only); (repeat' split) <;> (refine ⟨?_, ?_⟩ <;> (first | exact hP138.1 | exact hP138.2 | exact (fun q9 hq9 => by (simp (disch := omega) only [u2_ne, uR_ne, fr_fill, fr_Ctake, fx_CinitB_149]); exact hP138.2 q9 hq9) | exact hi138 | exact .inl rfl | exact .inr rfl | (simp (disch := omega) only [u2_ne, uR_ne, fr_fill, fr_Ctake, fx_CinitB_149]; first | exact hP138.1 | exact hP138.2 | exact (fun q9 hq9 => by (simp (disch := omega) only [u2_ne, uR_ne, fr_fill, fr_Ctake, fx_CinitB_149]); exact hP138.2 q9 hq9))))), fun kk138 => ?_⟩) 64 0 (x_CinitB_109 σ (x_CinitB_55 σ R (u2 (g_cho0 σ) 9000 5 (-1)))) (by omega) (⟨(show (x_CinitB_109 σ (x_CinitB_55 σ R (u2 (g_cho0 σ) 9000 5 (-1)))) 9000 20 = nI 1 from (((congrFun (hP109.2 _ (by omega)) 20).trans (congrFun (hP55.2 _ (by omega)) 20)).trans rfl)), (fun _ _ => rfl)⟩) (fun hP138 => ?_)
            · refine sw_iload_n O (xx_dt dd_X10_init 74 rfl) rfl ?_
              refine sw_aload_n O (xx_dt dd_X10_init 75 rfl) rfl ?_
              refine sw_get (v := .ref 9003) O (xx_dt dd_X10_init 76 rfl) cl_X10 fl_X10_22 (lm_9000 (σ := s138) (fl1 ((((congrFun (hP138.2 _ (by omega)) 20).trans (congrFun (hP109.2 _ (by omega)) 20)).trans (congrFun (hP55.2 _ (by omega)) 20)).trans rfl))) (by decide) rfl ?_
              refine sw_alen O (xx_dt dd_X10_init 77 rfl) (by omega) (by omega) ((im_9003 (z := z) (σ := s138) ((((congrFun (hP138.2 _ (by omega)) 20).trans (congrFun (hP109.2 _ (by omega)) 20)).trans (congrFun (hP55.2 _ (by omega)) 20)).trans rfl)).get _) ?_
              refine sw_icmp_ge (tgt := 203) O (xx_dt dd_X10_init 78 rfl) (by decide) (fun q5 => ?_) (fun q5 => ?_)
              · exact absurd q5 (nI_ge (b := 64) hi138 (by omega))
              · refine sw_iconst (x := 0) O (xx_dt dd_X10_init 79 rfl) (by decide) ?_
                refine sw_istore_n (ls2 := [.ref 9000, .ref 5000, .int (nI i138), .int 0]) O (xx_dt dd_X10_init 80 rfl) (by decide) rfl ?_
                refine sw_for (S := XS9) (fun i149 s149 => (if (((nI i138) >>> ((nI i149) &&& 31)) &&& 1) = 1 then u2 s149 9003 i138 (if (s149 9003 i138) < (s149 9003 (bclr i138 i149)) then (s149 9003 (bclr i138 i149)) else (s149 9003 i138)) else s149)) (fun _ s149 => s149 9000 20 = nI 1 ∧ (∀ q, q ≠ 9003 → s149 q = s138 q)) (hp := fun s149 => setM z s149 h) (hd := 149) (lc := fun i149 s149 => [.ref 9000, .ref 5000, .int (nI i138), .int (nI i149)]) (N := 6) (fun i149 s149 hi149 hP149 => ⟨(by (try dsimp only); (repeat' split) <;> (refine ⟨?_, ?_⟩ <;> (first | exact hP149.1 | exact hP149.2 | exact (fun q9 hq9 => by (simp (disch := omega) only [u2_ne, uR_ne, fr_fill, fr_Ctake, fx_CinitB_149]); exact hP149.2 q9 hq9) | exact hi149 | exact .inl rfl | exact .inr rfl | (simp (disch := omega) only [u2_ne, uR_ne, fr_fill, fr_Ctake, fx_CinitB_149]; first | exact hP149.1 | exact hP149.2 | exact (fun q9 hq9 => by (simp (disch := omega) only [u2_ne, uR_ne, fr_fill, fr_Ctake, fx_CinitB_149]); exact hP149.2 q9 hq9))))), fun kk149 => ?_⟩) 6 0 s138 (by omega) (⟨(show s138 9000 20 = nI 1 from ((((congrFun (hP138.2 _ (by omega)) 20).trans (congrFun (hP109.2 _ (by omega)) 20)).trans (congrFun (hP55.2 _ (by omega)) 20)).trans rfl)), (fun _ _ => rfl)⟩) (fun hP149 => ?_)
                · refine sw_iload_n O (xx_dt dd_X10_init 81 rfl) rfl ?_
                  refine sw_bipush (x := 6) O (xx_dt dd_X10_init 82 rfl) (by decide) ?_
                  refine sw_icmp_ge (tgt := 197) O (xx_dt dd_X10_init 83 rfl) (by decide) (fun q6 => ?_) (fun q6 => ?_)
                  · exact absurd q6 (nI_ge (b := 6) hi149 (by omega))
                  · refine sw_iload_n O (xx_dt dd_X10_init 84 rfl) rfl ?_
                    refine sw_iload_n O (xx_dt dd_X10_init 85 rfl) rfl ?_
                    refine sw_ishr O (xx_dt dd_X10_init 86 rfl) ?_
                    refine sw_iconst (x := 1) O (xx_dt dd_X10_init 87 rfl) (by decide) ?_
                    refine sw_iand O (xx_dt dd_X10_init 88 rfl) ?_
                    refine sw_iconst (x := 1) O (xx_dt dd_X10_init 89 rfl) (by decide) ?_
                    refine sw_icmp_ne (tgt := 191) O (xx_dt dd_X10_init 90 rfl) (by decide) (fun q7 => ?_) (fun q7 => ?_)
                    · refine sw_iinc (y := nI (i149 + 1)) (ls2 := [.ref 9000, .ref 5000, .int (nI i138), .int (nI (i149 + 1))]) O (xx_dt dd_X10_init 110 rfl) rfl (nI_1 _) (by decide) rfl ?_
                      refine sw_goto (tgt := 149) O (xx_dt dd_X10_init 111 rfl) (by decide) ?_
                      simp only [if_neg q7] at kk149
                      exact kk149
                    · refine sw_aload_n O (xx_dt dd_X10_init 91 rfl) rfl ?_
                      refine sw_get (v := .ref 9003) O (xx_dt dd_X10_init 92 rfl) cl_X10 fl_X10_22 (lm_9000 (σ := s149) (fl1 (((((congrFun (hP149.2 _ (by omega)) 20).trans (congrFun (hP138.2 _ (by omega)) 20)).trans (congrFun (hP109.2 _ (by omega)) 20)).trans (congrFun (hP55.2 _ (by omega)) 20)).trans rfl))) (by decide) rfl ?_
                      refine sw_iload_n O (xx_dt dd_X10_init 93 rfl) rfl ?_
                      refine sw_aload_n O (xx_dt dd_X10_init 94 rfl) rfl ?_
                      refine sw_get (v := .ref 9003) O (xx_dt dd_X10_init 95 rfl) cl_X10 fl_X10_22 (lm_9000 (σ := s149) (fl1 (((((congrFun (hP149.2 _ (by omega)) 20).trans (congrFun (hP138.2 _ (by omega)) 20)).trans (congrFun (hP109.2 _ (by omega)) 20)).trans (congrFun (hP55.2 _ (by omega)) 20)).trans rfl))) (by decide) rfl ?_
                      refine sw_iload_n O (xx_dt dd_X10_init 96 rfl) rfl ?_
                      refine sw_iaload (v := .int (s149 9003 i138)) O (xx_dt dd_X10_init 97 rfl) ((im_9003 (z := z) (σ := s149) (((((congrFun (hP149.2 _ (by omega)) 20).trans (congrFun (hP138.2 _ (by omega)) 20)).trans (congrFun (hP109.2 _ (by omega)) 20)).trans (congrFun (hP55.2 _ (by omega)) 20)).trans rfl)).get _) (pk_in i138 _ (by omega)) (by rw [nI_clamp (by omega)]; try exact rfl) ?_
                      refine sw_aload_n O (xx_dt dd_X10_init 98 rfl) rfl ?_
                      refine sw_get (v := .ref 9003) O (xx_dt dd_X10_init 99 rfl) cl_X10 fl_X10_22 (lm_9000 (σ := s149) (fl1 (((((congrFun (hP149.2 _ (by omega)) 20).trans (congrFun (hP138.2 _ (by omega)) 20)).trans (congrFun (hP109.2 _ (by omega)) 20)).trans (congrFun (hP55.2 _ (by omega)) 20)).trans rfl))) (by decide) rfl ?_
                      refine sw_iload_n O (xx_dt dd_X10_init 100 rfl) rfl ?_
                      refine sw_iconst (x := 1) O (xx_dt dd_X10_init 101 rfl) (by decide) ?_
                      refine sw_iload_n O (xx_dt dd_X10_init 102 rfl) rfl ?_
                      refine sw_ishl O (xx_dt dd_X10_init 103 rfl) ?_
                      refine sw_iconst (x := (-1)) O (xx_dt dd_X10_init 104 rfl) (by decide) ?_
                      refine sw_ixor O (xx_dt dd_X10_init 105 rfl) ?_
                      refine sw_iand O (xx_dt dd_X10_init 106 rfl) ?_
                      have hx185 := bclr_lt (S := i138) (k := i149) (by omega)
                      rw [bclr_eq (S := i138) (k := i149) (by omega) (by omega)]
                      refine sw_iaload (v := .int (s149 9003 (bclr i138 i149))) O (xx_dt dd_X10_init 107 rfl) ((im_9003 (z := z) (σ := s149) (((((congrFun (hP149.2 _ (by omega)) 20).trans (congrFun (hP138.2 _ (by omega)) 20)).trans (congrFun (hP109.2 _ (by omega)) 20)).trans (congrFun (hP55.2 _ (by omega)) 20)).trans rfl)).get _) (pk_in (bclr i138 i149) _ (by omega)) (by rw [nI_clamp (by omega)]; try exact rfl) ?_
                      refine sw_max O mm_X10_61 (xx_dt dd_X10_init 108 rfl) (by omega) (Nat.le_of_ble_eq_true rfl) ?_
                      refine sw_iastore (h2 := setM z (u2 s149 9003 i138 (if (s149 9003 i138) < (s149 9003 (bclr i138 i149)) then (s149 9003 (bclr i138 i149)) else (s149 9003 i138))) h) O (xx_dt dd_X10_init 109 rfl) ((im_9003 (z := z) (σ := s149) (((((congrFun (hP149.2 _ (by omega)) 20).trans (congrFun (hP138.2 _ (by omega)) 20)).trans (congrFun (hP109.2 _ (by omega)) 20)).trans (congrFun (hP55.2 _ (by omega)) 20)).trans rfl)).get _) (pk_in i138 _ (by omega)) (by omega) (by rw [nI_clamp (by omega)]; exact ((im_9003 (z := z) (σ := s149) (((((congrFun (hP149.2 _ (by omega)) 20).trans (congrFun (hP138.2 _ (by omega)) 20)).trans (congrFun (hP109.2 _ (by omega)) 20)).trans (congrFun (hP55.2 _ (by omega)) 20)).trans rfl)).put (by omega))) ?_
                      refine sw_iinc (y := nI (i149 + 1)) (ls2 := [.ref 9000, .ref 5000, .int (nI i138), .int (nI (i149 + 1))]) O (xx_dt dd_X10_init 110 rfl) rfl (nI_1 _) (by decide) rfl ?_
                      refine sw_goto (tgt := 149) O (xx_dt dd_X10_init 111 rfl) (by decide) ?_
                      simp only [if_pos q7] at kk149
                      exact kk149
                · show SW Y _ _ (setM z (x_CinitB_149 σ i138 s138) h) 149 [.ref 9000, .ref 5000, .int (nI i138), .int (nI 6)] []
                  have hP149 : (x_CinitB_149 σ i138 s138) 9000 20 = nI 1 ∧ (∀ q, q ≠ 9003 → (x_CinitB_149 σ i138 s138) q = s138 q) := hP149
                  refine sw_iload_n O (xx_dt dd_X10_init 81 rfl) rfl ?_
                  refine sw_bipush (x := 6) O (xx_dt dd_X10_init 82 rfl) (by decide) ?_
                  refine sw_icmp_ge (tgt := 197) O (xx_dt dd_X10_init 83 rfl) (by decide) (fun q6 => ?_) (fun q6 => ?_)
                  · refine sw_iinc (y := nI (i138 + 1)) (ls2 := [.ref 9000, .ref 5000, .int (nI (i138 + 1)), .int (nI 6)]) O (xx_dt dd_X10_init 112 rfl) rfl (nI_1 _) (by decide) rfl ?_
                    refine sw_goto (tgt := 138) O (xx_dt dd_X10_init 113 rfl) (by decide) ?_
                    refine sw_dum (ls2 := [.ref 9000, .ref 5000, .int (nI (i138 + 1)), xx_d]) ⟨.inr rfl, .inr rfl, .inr rfl, .inl rfl, trivial⟩ ?_
                    exact kk138
                  · exact absurd (Int32.le_refl _) q6
            · show SW Y _ _ (setM z (x_CinitB_138 σ (x_CinitB_109 σ (x_CinitB_55 σ R (u2 (g_cho0 σ) 9000 5 (-1))))) h) 138 [.ref 9000, .ref 5000, .int (nI 64), xx_d] []
              have hP138 : (x_CinitB_138 σ (x_CinitB_109 σ (x_CinitB_55 σ R (u2 (g_cho0 σ) 9000 5 (-1))))) 9000 20 = nI 1 ∧ (∀ q, q ≠ 9003 → (x_CinitB_138 σ (x_CinitB_109 σ (x_CinitB_55 σ R (u2 (g_cho0 σ) 9000 5 (-1))))) q = (x_CinitB_109 σ (x_CinitB_55 σ R (u2 (g_cho0 σ) 9000 5 (-1)))) q) := hP138
              refine sw_iload_n O (xx_dt dd_X10_init 74 rfl) rfl ?_
              refine sw_aload_n O (xx_dt dd_X10_init 75 rfl) rfl ?_
              refine sw_get (v := .ref 9003) O (xx_dt dd_X10_init 76 rfl) cl_X10 fl_X10_22 (lm_9000 (σ := (x_CinitB_138 σ (x_CinitB_109 σ (x_CinitB_55 σ R (u2 (g_cho0 σ) 9000 5 (-1)))))) (fl1 ((((congrFun (hP138.2 _ (by omega)) 20).trans (congrFun (hP109.2 _ (by omega)) 20)).trans (congrFun (hP55.2 _ (by omega)) 20)).trans rfl))) (by decide) rfl ?_
              refine sw_alen O (xx_dt dd_X10_init 77 rfl) (by omega) (by omega) ((im_9003 (z := z) (σ := (x_CinitB_138 σ (x_CinitB_109 σ (x_CinitB_55 σ R (u2 (g_cho0 σ) 9000 5 (-1)))))) ((((congrFun (hP138.2 _ (by omega)) 20).trans (congrFun (hP109.2 _ (by omega)) 20)).trans (congrFun (hP55.2 _ (by omega)) 20)).trans rfl)).get _) ?_
              refine sw_icmp_ge (tgt := 203) O (xx_dt dd_X10_init 78 rfl) (by decide) (fun q5 => ?_) (fun q5 => ?_)
              · exact sw_ret O (xx_dt dd_X10_init 114 rfl) rfl (by rw [hQ]; exact ⟨rfl, by unfold g_CinitB; rfl⟩)
              · exact absurd (Int32.le_refl _) q5
          · exact absurd (Int32.le_refl _) q3
      · exact absurd q2 (fun e => e hst)
    · exact absurd (Int32.le_refl _) q1
end
section
/-! ===== what was made is dropped ===== -/
theorem lyB_in {H : XH} {C : XS9} {b i : Nat} {s s' : Nat → Int32} : ∀ c, lyB C b i s = some c → ∃ c', lyB C b i s' = some c' ∧ c'.2.1 = c.2.1 ∧ ∀ j, xx_in H (c'.2.2 j) → xx_in H (c.2.2 j) := by
  intro c e
  unfold lyB at e ⊢
  by_cases w0 : i < 8
  · rw [if_pos w0] at e ⊢
    split at e <;> cases e <;> first | (exact ⟨_, rfl, rfl, fun j h => h⟩) | (exact ⟨_, rfl, rfl, fun j _ => trivial⟩) | (refine ⟨_, rfl, rfl, fun j => ?_⟩; (try dsimp only); (repeat' split) <;> first | exact id | exact fun _ => trivial)
  rw [if_neg w0] at e ⊢
  by_cases u0 : i < 200
  · rw [if_pos u0] at e ⊢
    by_cases v : 100 ≤ i ∧ i - 100 < cn (C b 21)
    · rw [if_pos v] at e ⊢
      cases e
      exact ⟨_, rfl, rfl, fun j _ => trivial⟩
    · rw [if_neg v] at e ⊢
      cases e
  rw [if_neg u0] at e ⊢
  by_cases u1 : i < 300
  · rw [if_pos u1] at e ⊢
    by_cases v : i - 200 < cn (C b 22)
    · rw [if_pos v] at e ⊢
      cases e
      exact ⟨_, rfl, rfl, fun j _ => trivial⟩
    · rw [if_neg v] at e ⊢
      cases e
  rw [if_neg u1] at e ⊢
  by_cases u2 : i < 700
  · rw [if_pos u2] at e ⊢
    by_cases v : 500 ≤ i ∧ i - 500 ≤ cn (C b 23)
    · rw [if_pos v] at e ⊢
      cases e
      exact ⟨_, rfl, rfl, fun j _ => trivial⟩
    · rw [if_neg v] at e ⊢
      cases e
  rw [if_neg u2] at e ⊢
  by_cases u3 : i < 900
  · rw [if_pos u3] at e ⊢
    by_cases v : i - 700 ≤ cn (C b 24)
    · rw [if_pos v] at e ⊢
      cases e
      exact ⟨_, rfl, rfl, fun j _ => trivial⟩
    · rw [if_neg v] at e ⊢
      cases e
  rw [if_neg u3] at e ⊢
  cases e
theorem lyQ_in {H : XH} {z : Int64} {C : XS9} {r : Nat} {s s' : Nat → Int32} : ∀ c, lyQ z C r s = some c → ∃ c', lyQ z C r s' = some c' ∧ c'.2.1 = c.2.1 ∧ ∀ j, xx_in H (c'.2.2 j) → xx_in H (c.2.2 j) := by
  intro c e
  unfold lyQ at e ⊢
  by_cases w0 : r < 5010
  · rw [if_pos w0] at e ⊢
    split at e <;> first | (cases e; done) | (cases e; first | (exact ⟨_, rfl, rfl, fun j h => h⟩) | (exact ⟨_, rfl, rfl, fun j _ => trivial⟩) | (refine ⟨_, rfl, rfl, fun j => ?_⟩; (try dsimp only); (repeat' split) <;> first | exact id | exact fun _ => trivial))
  rw [if_neg w0] at e ⊢
  by_cases u0 : r < 5020
  · rw [if_pos u0] at e ⊢
    by_cases v : r - 5010 < cn (C 5001 900)
    · rw [if_pos v] at e ⊢
      cases e
      exact ⟨_, rfl, rfl, fun j _ => trivial⟩
    · rw [if_neg v] at e ⊢
      cases e
  rw [if_neg u0] at e ⊢
  by_cases u1 : r < 5030
  · rw [if_pos u1] at e ⊢
    by_cases v : r - 5020 < cn (C 5002 900)
    · rw [if_pos v] at e ⊢
      cases e
      refine ⟨_, rfl, rfl, fun j => ?_⟩; (try dsimp only); (repeat' split) <;> first | exact id | exact fun _ => trivial
    · rw [if_neg v] at e ⊢
      cases e
  rw [if_neg u1] at e ⊢
  by_cases u2 : r < 5040
  · rw [if_pos u2] at e ⊢
    by_cases v : r - 5030 < cn (C 5002 900)
    · rw [if_pos v] at e ⊢
      cases e
      exact ⟨_, rfl, rfl, fun j h => h⟩
    · rw [if_neg v] at e ⊢
      cases e
  rw [if_neg u2] at e ⊢
  by_cases u3 : r < 5200
  · rw [if_pos u3] at e ⊢
    cases e
  rw [if_neg u3] at e ⊢
  by_cases u4 : r < 5300
  · rw [if_pos u4] at e ⊢
    by_cases v : r - 5200 < cn (C 5003 900)
    · rw [if_pos v] at e ⊢
      cases e
      refine ⟨_, rfl, rfl, fun j => ?_⟩; (try dsimp only); (repeat' split) <;> first | exact id | exact fun _ => trivial
    · rw [if_neg v] at e ⊢
      cases e
  rw [if_neg u4] at e ⊢
  by_cases u5 : r < 6000
  · rw [if_pos u5] at e ⊢
    cases e
  rw [if_neg u5] at e ⊢
  by_cases u6 : r < 6100
  · rw [if_pos u6] at e ⊢
    by_cases v : r - 6000 < cn (C 5003 900)
    · rw [if_pos v] at e ⊢
      cases e
      exact ⟨_, rfl, rfl, fun j _ => trivial⟩
    · rw [if_neg v] at e ⊢
      cases e
  rw [if_neg u6] at e ⊢
  by_cases u7 : r < 6200
  · rw [if_pos u7] at e ⊢
    by_cases v : r - 6100 < cn (C 5003 900)
    · rw [if_pos v] at e ⊢
      cases e
      exact ⟨_, rfl, rfl, fun j _ => trivial⟩
    · rw [if_neg v] at e ⊢
      cases e
  rw [if_neg u7] at e ⊢
  by_cases u8 : r < 6300
  · rw [if_pos u8] at e ⊢
    by_cases v : r - 6200 < cn (C 5003 900)
    · rw [if_pos v] at e ⊢
      cases e
      exact ⟨_, rfl, rfl, fun j _ => trivial⟩
    · rw [if_neg v] at e ⊢
      cases e
  rw [if_neg u8] at e ⊢
  by_cases u9 : r < 6400
  · rw [if_pos u9] at e ⊢
    by_cases v : r - 6300 < cn (C 5003 900)
    · rw [if_pos v] at e ⊢
      cases e
      exact ⟨_, rfl, rfl, fun j _ => trivial⟩
    · rw [if_neg v] at e ⊢
      cases e
  rw [if_neg u9] at e ⊢
  by_cases u10 : r < 7000
  · rw [if_pos u10] at e ⊢
    cases e
  rw [if_neg u10] at e ⊢
  by_cases u11 : r < 8000
  · rw [if_pos u11] at e ⊢
    by_cases v : C 7000 20 = 0
    · rw [if_pos v] at e ⊢
      cases e
    · rw [if_neg v] at e ⊢
      exact lyB_in c e
  rw [if_neg u11] at e ⊢
  by_cases u12 : r < 9000
  · rw [if_pos u12] at e ⊢
    by_cases v : C 8000 20 = 0
    · rw [if_pos v] at e ⊢
      cases e
    · rw [if_neg v] at e ⊢
      exact lyB_in c e
  rw [if_neg u12] at e ⊢
  by_cases u13 : r < 9010
  · rw [if_pos u13] at e ⊢
    by_cases v : C 9000 20 = 0
    · rw [if_pos v] at e ⊢
      cases e
    · rw [if_neg v] at e ⊢
      split at e <;> first | (cases e; done) | (cases e; first | (exact ⟨_, rfl, rfl, fun j _ => trivial⟩) | (refine ⟨_, rfl, rfl, fun j => ?_⟩; (try dsimp only); (repeat' split) <;> first | exact id | exact fun _ => trivial))
  rw [if_neg u13] at e ⊢
  by_cases u14 : r < 10000
  · rw [if_pos u14] at e ⊢
    cases e
  rw [if_neg u14] at e ⊢
  by_cases u15 : r < 10200
  · rw [if_pos u15] at e ⊢
    by_cases v : (r - 10000) / 20 < cn (C 5002 900) ∧ (r - 10000) % 20 < cn (C (5030 + (r - 10000) / 20) 900) ∧ ¬ xx_small (C (5030 + (r - 10000) / 20) ((r - 10000) % 20))
    · rw [if_pos v] at e ⊢
      cases e
      exact ⟨_, rfl, rfl, fun j h => h⟩
    · rw [if_neg v] at e ⊢
      cases e
  rw [if_neg u15] at e ⊢
  by_cases u16 : r < 10300
  · rw [if_pos u16] at e ⊢
    by_cases v : (r - 10200) / 2 < cn (C 5004 900) ∧ r = nmS C ((r - 10200) / 2) ∧ ¬ xx_small (C 5004 ((r - 10200) / 2))
    · rw [if_pos v] at e ⊢
      cases e
      exact ⟨_, rfl, rfl, fun j h => h⟩
    · rw [if_neg v] at e ⊢
      cases e
  rw [if_neg u16] at e ⊢
  by_cases u17 : r < 20000
  · rw [if_pos u17] at e ⊢
    cases e
  rw [if_neg u17] at e ⊢
  by_cases u18 : r < 20010
  · rw [if_pos u18] at e ⊢
    by_cases v : C r 20 = 0
    · rw [if_pos v] at e ⊢
      cases e
    · rw [if_neg v] at e ⊢
      cases e
      exact ⟨_, rfl, rfl, fun j _ => trivial⟩
  rw [if_neg u18] at e ⊢
  cases e
/-- the same but for ints, and for what is made and dropped -/
def mem_eq (σ τ : XS9) : Prop := (∀ q i, q < 20000 → q ≠ 9000 → q ≠ 8000 → ctl τ q i = ctl σ q i) ∧ ((τ 9000 20 = 0 ∧ σ 9000 20 = 0) ∧ τ 8000 20 = 0 ∧ σ 8000 20 = 0) ∧ ∀ q, 20000 ≤ q → q < 20010 → τ q 20 = 0 ∧ σ q 20 = 0
theorem mem_eq.lq {z : Int64} {σ τ : XS9} (e : mem_eq σ τ) (r : Nat) (s : Nat → Int32) : lyQ z (ctl τ) r s = lyQ z (ctl σ) r s := by
  by_cases hr : 20000 ≤ r ∧ r < 20010
  · have f1 : ∀ μ : XS9, μ r 20 = 0 → lyQ z (ctl μ) r s = none := fun μ hc => by
      rw [lq_tmp hr, if_pos ((ctl_at (by rw [tmpCtl hr]; rfl)).trans hc)]
    rw [f1 τ (e.2.2 r hr.1 hr.2).1, f1 σ (e.2.2 r hr.1 hr.2).2]
  · by_cases h9 : 9000 ≤ r ∧ r < 9010
    · have f1 : ∀ C : XS9, C 9000 20 = 0 → lyQ z C r s = none := fun C hc => by
        unfold lyQ
        rw [if_neg (by omega), if_neg (by omega), if_neg (by omega), if_neg (by omega), if_neg (by omega), if_neg (by omega), if_neg (by omega), if_neg (by omega), if_neg (by omega), if_neg (by omega), if_neg (by omega), if_neg (by omega), if_neg (by omega), if_neg (show ¬ r < 9000 by omega), if_pos (by omega), if_pos hc]
      rw [f1 (ctl τ) e.2.1.1.1, f1 (ctl σ) e.2.1.1.2]
    · by_cases h8 : 8000 ≤ r ∧ r < 9000
      · have f1 : ∀ C : XS9, C 8000 20 = 0 → lyQ z C r s = none := fun C hc => by
          unfold lyQ
          rw [if_neg (by omega), if_neg (by omega), if_neg (by omega), if_neg (by omega), if_neg (by omega), if_neg (by omega), if_neg (by omega), if_neg (by omega), if_neg (by omega), if_neg (by omega), if_neg (by omega), if_neg (by omega), if_neg (by omega), if_pos (by omega), if_pos hc]
        rw [f1 (ctl τ) e.2.1.2.1, f1 (ctl σ) e.2.1.2.2]
      · rw [lyQ_ctl (C := ctl τ) (C' := fun q i => if q = 9000 ∨ q = 8000 then ctl τ q i else ctl σ q i) (fun q i hq => by
          by_cases e9 : q = 9000 ∨ q = 8000
          · rw [if_pos e9]
          · rw [if_neg e9]
            exact e.1 q i hq (by omega) (by omega)) (by omega)]
        rw [lyQ_9 (C' := fun q i => if q = 8000 then ctl τ q i else ctl σ q i) (fun q i hq => by
          by_cases e8 : q = 8000
          · rw [if_pos e8, if_pos (.inr e8)]
          · rw [if_neg e8, if_neg (by omega)]) (by omega)]
        exact lyQ_8 (fun q i hq => if_neg hq) (by omega)
theorem mem_eq.dom {z : Int64} {σ τ : XS9} {h : XH} (e : mem_eq σ τ) {r : Nat} (hr : (setM z σ h r).isSome = true) : (setM z τ h r).isSome = true := by
  unfold setM at *
  split
  · rename_i e1
    rw [if_pos e1] at hr
    rw [e.lq]
    cases e2 : lyQ z (ctl σ) r (σ r) with
    | none =>
      rw [e2] at hr
      cases e3 : lyQ z (ctl σ) r (τ r) with
      | none => exact hr
      | some c => rfl
    | some c =>
      obtain ⟨c', e3, -⟩ := lyQ_in (H := fun _ => none) (s' := τ r) c e2
      rw [e3]
      rfl
  · rename_i e1
    rw [if_neg e1] at hr
    exact hr
theorem mem_eq.cls {z : Int64} {σ τ : XS9} {h : XH} (e : mem_eq σ τ) (hcl : xx_cls (setM z σ h)) : xx_cls (setM z τ h) := by
  have mono : ∀ v, xx_in (setM z σ h) v → xx_in (setM z τ h) v := fun v hv => xx_in_of (fun a ha => e.dom ha) hv
  intro r c j hc hj
  have hout : setM z σ h r = some c → xx_in (setM z τ h) (c.2.2 j) := fun q => mono _ (hcl r c j q hj)
  by_cases e1 : 5000 ≤ r ∧ r < 20010
  · unfold setM at hc
    rw [if_pos e1, e.lq] at hc
    cases e2 : lyQ z (ctl σ) r (τ r) with
    | none =>
      rw [e2] at hc
      have e3 : lyQ z (ctl σ) r (σ r) = none := by
        cases e4 : lyQ z (ctl σ) r (σ r) with
        | none => rfl
        | some d =>
          obtain ⟨c', e5, -⟩ := lyQ_in (H := fun _ => none) (s' := τ r) d e4
          rw [e2] at e5
          cases e5
      exact hout ((setM_no e3).trans hc)
    | some d =>
      rw [e2] at hc
      cases hc
      obtain ⟨c', e3, e4, e5⟩ := lyQ_in (H := setM z τ h) (s' := σ r) c e2
      exact e5 j (mono _ (hcl r c' j (setM_of e1 e3) (by rw [e4]; exact hj)))
  · exact hout ((setM_out e1).trans ((setM_out e1).symm.trans hc))
theorem drop9 {z : Int64} {τ : XS9} {h : XH} (hfr : ∀ r, 5000 ≤ r → r < 20010 → h r = none) : xx_sub (setM z (u2 τ 9000 20 0) h) (setM z τ h) := by
  intro r c hc
  by_cases e1 : 5000 ≤ r ∧ r < 20010
  · have hn := hfr r e1.1 e1.2
    unfold setM at hc ⊢
    rw [if_pos e1] at hc ⊢
    by_cases h9 : r < 9000 ∨ 9010 ≤ r
    · rw [u2_ne (by omega), lyQ_9 (C := ctl (u2 τ 9000 20 0)) (C' := ctl τ) (fun q i hq => by unfold ctl; rw [u2_ne hq]) h9] at hc
      exact hc
    · have f1 : lyQ z (ctl (u2 τ 9000 20 0)) r (u2 τ 9000 20 0 r) = none := by
        have e9 : ctl (u2 τ 9000 20 0) 9000 20 = 0 := rfl
        unfold lyQ
        rw [if_neg (by omega), if_neg (by omega), if_neg (by omega), if_neg (by omega), if_neg (by omega), if_neg (by omega), if_neg (by omega), if_neg (by omega), if_neg (by omega), if_neg (by omega), if_neg (by omega), if_neg (by omega), if_neg (by omega), if_neg (show ¬ r < 9000 by omega), if_pos (by omega), if_pos e9]
      rw [f1, hn] at hc
      cases hc
  · rw [setM_out e1] at hc ⊢
    exact hc
theorem dropT {z : Int64} {τ : XS9} {h : XH} {q : Nat} (hq : 20000 ≤ q ∧ q < 20010) (hfr : ∀ r, 5000 ≤ r → r < 20010 → h r = none) : xx_sub (setM z (u2 τ q 20 0) h) (setM z τ h) := by
  intro r c hc
  by_cases e1 : 5000 ≤ r ∧ r < 20010
  · have hn := hfr r e1.1 e1.2
    unfold setM at hc ⊢
    rw [if_pos e1] at hc ⊢
    have ho : ∀ a i, a ≠ q → ctl (u2 τ q 20 0) a i = ctl τ a i := fun a i hq => by unfold ctl; rw [u2_ne hq]
    by_cases h9 : r = q
    · have f1 : lyQ z (ctl (u2 τ q 20 0)) r (u2 τ q 20 0 r) = none := by
        rw [h9, lq_tmp hq, if_pos ((ctl_at (by rw [tmpCtl hq]; rfl)).trans (by rw [u2_eq]; rfl))]
      rw [f1, hn] at hc
      cases hc
    · rw [u2_ne h9, lyQ_ctl (C := ctl (u2 τ q 20 0)) (C' := ctl τ) (fun a i ha => ho a i (by omega)) (.inr (.inr fun i => ho r i h9))] at hc
      exact hc
  · rw [setM_out e1] at hc ⊢
    exact hc
theorem xx_sub.trans {a b c : XH} (h1 : xx_sub a b) (h2 : xx_sub b c) : xx_sub a c := fun r d e => h2 r d (h1 r d e)
theorem mem_eq.int {σ τ : XS9} {r i : Nat} {x : Int32} (e : mem_eq σ τ) (h : isCtl r i = false) : mem_eq σ (u2 τ r i x) := by
  refine ⟨fun q j h1 h2 h3 => by rw [ctl_u2 h]; exact e.1 q j h1 h2 h3, ⟨⟨?_, e.2.1.1.2⟩, ?_, e.2.1.2.2⟩, fun q h1 h2 => ⟨?_, (e.2.2 q h1 h2).2⟩⟩
  · have := e.2.1.1.1
    by_cases e9 : r = 9000
    · subst e9
      rw [u2_oi (by intro w; subst w; cases h)]
      exact this
    · rw [u2_ne (by omega)]
      exact this
  · have := e.2.1.2.1
    by_cases e9 : r = 8000
    · subst e9
      rw [u2_oi (by intro w; subst w; cases h)]
      exact this
    · rw [u2_ne (by omega)]
      exact this
  · have h3 := (e.2.2 q h1 h2).1
    by_cases e9 : q = r
    · subst e9
      rw [u2_oi (by intro w; subst w; rw [tmpCtl ⟨h1, h2⟩] at h; cases h)]
      exact h3
    · rw [u2_ne e9]
      exact h3
end
section
/-! ===== the reference: what wants a choice ===== -/
theorem two_le {x : Int32} (h : ¬ x ≤ 1) : (2 : Int32) ≤ x := by
  rw [i_le] at h ⊢
  have h1 : (1 : Int32).toInt = 1 := rfl
  have h2 : (2 : Int32).toInt = 2 := rfl
  omega
theorem not_two {x : Int32} (h : x ≤ 1) : ¬ (2 : Int32) ≤ x := by
  rw [i_le] at h ⊢
  have h1 : (1 : Int32).toInt = 1 := rfl
  have h2 : (2 : Int32).toInt = 2 := rfl
  omega
def xitBR {S R : Type} (step : Nat → S → S ⊕ (S ⊕ R)) : Nat → Nat → S → S ⊕ R
  | 0, _, s => .inl s
  | f + 1, i, s => match step i s with
    | .inl s' => xitBR step f (i + 1) s'
    | .inr (.inl s') => .inl s'
    | .inr (.inr r) => .inr r
theorem sw_forBR {Y : XY} {k n : Nat} {S R : Type} (step : Nat → S → S ⊕ (S ⊕ R)) (P : Nat → S → Prop) (PX : S → Prop) {FR : R → Prop} {hd ex : Nat} {hp : S → XH} {lc : Nat → S → List Value} {lx : S → List Value} {N : Nat}
    (hstep : ∀ i s, i < N → P i s → ((∀ s', step i s = .inl s' → P (i + 1) s') ∧ ∀ s', step i s = .inr (.inl s') → PX s') ∧ ((∀ s', step i s = .inl s' → SW Y k n (hp s') hd (lc (i + 1) s') []) → (∀ s', step i s = .inr (.inl s') → SW Y k n (hp s') ex (lx s') []) → (∀ r, step i s = .inr (.inr r) → FR r) → SW Y k n (hp s) hd (lc i s) []))
    (hexit : ∀ s, P N s → PX s ∧ (SW Y k n (hp s) ex (lx s) [] → SW Y k n (hp s) hd (lc N s) [])) :
    ∀ (f i : Nat) (s : S), i + f = N → P i s → (∀ s', xitBR step f i s = .inl s' → PX s' → SW Y k n (hp s') ex (lx s') []) → (∀ r, xitBR step f i s = .inr r → FR r) → SW Y k n (hp s) hd (lc i s) []
  | 0, i, s, e, hP, kk, kr => by
    obtain rfl : i = N := by omega
    exact (hexit s hP).2 (kk s rfl (hexit s hP).1)
  | f + 1, i, s, e, hP, kk, kr => by
    obtain ⟨⟨h1, h2⟩, h3⟩ := hstep i s (by omega) hP
    unfold xitBR at kk kr
    refine h3 (fun s' e' => ?_) (fun s' e' => ?_) (fun r e' => ?_)
    · rw [e'] at kk kr
      exact sw_forBR step P PX hstep hexit f (i + 1) s' (by omega) (h1 s' e') kk kr
    · rw [e'] at kk
      exact kk s' rfl (h2 s' e')
    · rw [e'] at kr
      exact kr r rfl
def g_Cinit (σ : XS9) (R B : Nat) (pk gr : Nat → Nat) (cd : Nat → Nat → Nat) : XS9 := if σ 5000 1 ≤ 1 then g_CinitB σ R B pk gr cd else g_CinitA σ R B pk gr cd
theorem ct_X10_init {l : Launch} {h : XH} (hl : l.stackTraces = false) {z : Int64} {σ : XS9} (hbs : xx_bs h) (hfr : ∀ r, 5000 ≤ r → r < 20010 → h r = none) (hc0 : σ 9000 20 = 0) {R : Nat} (hR : σ 5001 900 = nI R) (hR5 : R ≤ 5) {B : Nat} (hB : σ 5002 900 = nI B) (hB6 : B ≤ 6) {pk : Nat → Nat} (hpk : ∀ j, j < B → σ (5030 + j) 900 = nI (2 * pk j) ∧ pk j ≤ 6) {gr : Nat → Nat} (hgr : ∀ j, j < B → σ (5020 + j) 3 = nI (gr j) ∧ gr j < 4) {cd : Nat → Nat → Nat} (hcd : ∀ j k, j < B → k < pk j → σ (5030 + j) (2 * k) = nI (cd j k) ∧ cd j k < 7776) : XEx l m_X10_init 20 5 101 [.ref 9000, .ref 5000] (xx_up (setM z σ h) 9000 (16, 7, fun j => defaultValue (tyX10 j))) none (setM z (g_Cinit σ R B pk gr cd) h) := by
  unfold g_Cinit
  by_cases hst : σ 5000 1 ≤ 1
  · rw [if_pos hst]
    exact ct_CinitB hl hbs hfr hc0 hR hR5 hB hB6 hpk hgr hcd hst (not_two hst)
  · rw [if_neg hst]
    exact ct_CinitA hl hbs hfr hc0 hR hR5 hB hB6 hpk hgr hcd hst (two_le hst)
theorem fx_Cinit {σ : XS9} {R : Nat} {s0 : XS9} {q : Nat} (h : q < 9000 ∨ 9005 < q ∨ q = 9000) : x_CinitA_138 σ s0 q = s0 q ∧ x_CinitB_138 σ s0 q = s0 q ∧ x_CinitA_55 σ R s0 q = s0 q ∧ x_CinitB_55 σ R s0 q = s0 q ∧ x_CinitB_109 σ s0 q = s0 q := by
  refine ⟨?_, ?_, ?_, ?_, ?_⟩
  · exact xit_keep (fun s : XS9 => s q) (fun i s => by (try dsimp only); first | exact fx_CinitA_149 (by omega) | simp (disch := omega) only [u2_ne]) _ _ _
  · exact xit_keep (fun s : XS9 => s q) (fun i s => by (try dsimp only); first | exact fx_CinitB_149 (by omega) | simp (disch := omega) only [u2_ne]) _ _ _
  · exact xit_keep (fun s : XS9 => s q) (fun i s => by (try dsimp only); simp (disch := omega) only [u2_ne]) _ _ _
  · exact xit_keep (fun s : XS9 => s q) (fun i s => by (try dsimp only); simp (disch := omega) only [u2_ne]) _ _ _
  · exact xit_keep (fun s : XS9 => s q) (fun i s => by (try dsimp only); simp (disch := omega) only [u2_ne]) _ _ _
theorem fr_Cinit {σ : XS9} {R B : Nat} {pk gr : Nat → Nat} {cd : Nat → Nat → Nat} {q : Nat} (h : q < 9000 ∨ 9005 < q) : g_Cinit σ R B pk gr cd q = σ q := by
  unfold g_Cinit
  split
  · unfold g_CinitB
    rw [(fx_Cinit (R := R) (by omega)).2.1, (fx_Cinit (R := R) (by omega)).2.2.2.2, (fx_Cinit (by omega)).2.2.2.1, u2_ne (by omega), fr_cho0 h]
  · unfold g_CinitA
    rw [(fx_Cinit (R := R) (by omega)).1, fr_Cpick h, (fx_Cinit (by omega)).2.2.1, u2_ne (by omega), fr_cho0 h]
theorem cf_Cinit {σ : XS9} {R B : Nat} {pk gr : Nat → Nat} {cd : Nat → Nat → Nat} : g_Cinit σ R B pk gr cd 9000 20 = nI 1 := by
  unfold g_Cinit
  split
  · unfold g_CinitB
    rw [(fx_Cinit (R := R) (by omega)).2.1, (fx_Cinit (R := R) (by omega)).2.2.2.2, (fx_Cinit (by omega)).2.2.2.1]
    rfl
  · unfold g_CinitA
    rw [(fx_Cinit (R := R) (by omega)).1, (fr2_Cpick _ _ (q := 0)).2, (fx_Cinit (by omega)).2.2.1]
    rfl
theorem mem_eq.frame {σ τ0 τ' : XS9} (h : mem_eq σ τ0) (hf : ∀ q, (q < 9000 ∨ 9005 < q) → ¬ (20000 ≤ q ∧ q < 20010) → ¬ (5005 ≤ q ∧ q ≤ 5007) → τ' q = τ0 q) (h9 : τ' 9000 20 = 0) (hT : ∀ q, 20000 ≤ q → q < 20010 → τ' q 20 = 0) : mem_eq σ τ' := by
  refine ⟨fun q i h1 h2 h3 => ?_, ⟨⟨h9, h.2.1.1.2⟩, by rw [hf 8000 (by omega) (by omega) (by omega)]; exact h.2.1.2.1, h.2.1.2.2⟩, fun q h1 h2 => ⟨hT q h1 h2, (h.2.2 q h1 h2).2⟩⟩
  rw [← h.1 q i h1 h2 h3]
  unfold ctl
  by_cases e : (q < 9000 ∨ 9005 < q) ∧ ¬ (5005 ≤ q ∧ q ≤ 5007)
  · rw [hf q e.1 (by omega) e.2]
  · have : isCtl q i = false := notCtl (by omega) i
    rw [this]
    rfl
theorem xitR_inv {S : Type} {step : Nat → S → S ⊕ S} (P : S → Prop) (h : ∀ i s, P s → (∀ s', step i s = .inl s' → P s') ∧ ∀ s', step i s = .inr s' → P s') : ∀ (f i : Nat) (s : S), P s → (∀ s', xitR step f i s = .inl s' → P s') ∧ ∀ s', xitR step f i s = .inr s' → P s'
  | 0, _, _, hP => ⟨fun s' e => by have e9 := Sum.inl.inj e; subst e9; exact hP, fun s' e => by cases e⟩
  | f + 1, i, s, hP => by
    unfold xitR
    cases e : step i s with
    | inl s' => exact xitR_inv P h f (i + 1) s' ((h i s hP).1 s' e)
    | inr r => exact ⟨fun s' e2 => (by cases e2), fun s' e2 => by have e9 := Sum.inr.inj e2; subst e9; exact (h i s hP).2 r e⟩
theorem fr_Cpay1 {σ : XS9} {w qa B q : Nat} (h : q ≠ qa) : g_Cpay1 σ w qa B q = σ q := by
  have H : ∀ s0, x_Cpay1_7 σ w qa B s0 q = s0 q := fun s0 => xit_keep (fun s : XS9 => s q) (fun i s => by (try dsimp only); (repeat' split) <;> first | rfl | simp (disch := omega) only [u2_ne]) _ _ _
  unfold g_Cpay1
  rw [H, uR_ne h]
theorem fl_Cpay20 {σ : XS9} {qa B : Nat} (hB6 : B ≤ 6) : g_Cpay20 σ qa B qa 20 = nI 1 ∧ g_Cpay20 σ qa B qa 21 = nI 6 ∧ ∀ q, q ≠ qa → g_Cpay20 σ qa B q = σ q := by
  unfold g_Cpay20 x_Cpay2_7
  refine xit_inv (fun s : XS9 => s qa 20 = nI 1 ∧ s qa 21 = nI 6 ∧ ∀ q, q ≠ qa → s q = σ q) (N := B) (fun i s hi hP => ?_) B 0 _ (by omega) ⟨(congrFun (uR_eq _ _ _) 20), (congrFun (uR_eq _ _ _) 21), fun q hq => uR_ne hq⟩
  (try dsimp only)
  (repeat' split) <;> first | exact hP | exact ⟨by rw [u2_oi (by omega)]; exact hP.1, by rw [u2_oi (by omega)]; exact hP.2.1, fun q hq => by rw [u2_ne hq]; exact hP.2.2 q hq⟩
theorem in_Cpay2 {σ : XS9} {qa B : Nat} (hB6 : B ≤ 6) : g_Cpay2 σ qa B qa 20 = nI 1 ∧ g_Cpay2 σ qa B qa 21 = nI 6 ∧ ∀ q, q ≠ qa → g_Cpay2 σ qa B q = σ q := by
  have K := xitR_inv (step := p2_step qa B) (fun s : XS9 => s qa 20 = nI 1 ∧ s qa 21 = nI 6 ∧ ∀ q, q ≠ qa → s q = σ q) (fun i s hP => ⟨fun s' e => ?_, fun s' e => ?_⟩) 20000000 0 _ (fl_Cpay20 (σ := σ) hB6)
  · unfold g_Cpay2
    cases e : xitR (p2_step qa B) 20000000 0 (g_Cpay20 σ qa B) with
    | inl s => exact K.1 s e
    | inr s => exact K.2 s e
  · unfold p2_step at e
    revert e
    (try dsimp only)
    split <;> intro e <;> first | (cases e; done) | (have e9 := Sum.inl.inj e; subst e9; have hn := pos_nat (Int32.not_le.mpr (by assumption)); have H := raise_out (σ := s) (S := x_Cpay2_94 s qa B 0) (x := cn (f_Cobjection s (x_Cpay2_94 s qa B 0) qa B)) (qa := qa) (B := B) hB6 hn.2 hP.1 hP.2.1; exact ⟨H.1, H.2.1, fun q hq => (H.2.2 q hq).trans (hP.2.2 q hq)⟩)
  · unfold p2_step at e
    revert e
    (try dsimp only)
    split <;> intro e <;> first | (cases e; done) | (have e9 := Sum.inr.inj e; subst e9; exact hP)
theorem fr_Cpay2 {σ : XS9} {qa B q : Nat} (h : q ≠ qa ∧ B ≤ 6) : g_Cpay2 σ qa B q = σ q := (in_Cpay2 h.2).2.2 q h.1
theorem in_Cpay1 {σ : XS9} {w qa B : Nat} (hB6 : B ≤ 6) : g_Cpay1 σ w qa B qa 20 = nI 1 ∧ g_Cpay1 σ w qa B qa 21 = nI 6 := by
  unfold g_Cpay1 x_Cpay1_7
  refine xit_inv (fun s : XS9 => s qa 20 = nI 1 ∧ s qa 21 = nI 6) (N := B) (fun i s hi hP => ?_) B 0 _ (by omega) ⟨(congrFun (uR_eq _ _ _) 20), (congrFun (uR_eq _ _ _) 21)⟩
  (try dsimp only)
  (repeat' split) <;> first | exact hP | exact ⟨by rw [u2_oi (by omega)]; exact hP.1, by rw [u2_oi (by omega)]; exact hP.2⟩
def f_Mwins (σ : XS9) (x : Int32) (R B : Nat) (pk gr : Nat → Nat) (cd : Nat → Nat → Nat) : Int32 := (if n_lt x B then f_MwinsNow (g_Cinit (u2 σ 5000 0 0) R B pk gr cd) (cn x) else 0)
def g_Mwins (σ : XS9) (x : Int32) (R B : Nat) (pk gr : Nat → Nat) (cd : Nat → Nat → Nat) : XS9 := (if n_lt x B then u2 (g_Cinit (u2 σ 5000 0 0) R B pk gr cd) 9000 20 0 else u2 (u2 σ 5000 0 0) 5000 0 1)
theorem ct_X14_wins {l : Launch} {h : XH} (hl : l.stackTraces = false) {z : Int64} {σ : XS9} (hbs : xx_bs h) (hfr : ∀ r, 5000 ≤ r → r < 20010 → h r = none) (hme : mem_eq σ σ) {R : Nat} (hR : σ 5001 900 = nI R) (hR5 : R ≤ 5) {B : Nat} (hB : σ 5002 900 = nI B) (hB6 : B ≤ 6) {pk : Nat → Nat} (hpk : ∀ j, j < B → σ (5030 + j) 900 = nI (2 * pk j) ∧ pk j ≤ 6) {gr : Nat → Nat} (hgr : ∀ j, j < B → σ (5020 + j) 3 = nI (gr j) ∧ gr j < 4) {cd : Nat → Nat → Nat} (hcd : ∀ j k, j < B → k < pk j → σ (5030 + j) (2 * k) = nI (cd j k) ∧ cd j k < 7776) {x : Int32} : XEx l m_X14_wins 22 6 108 [.ref 5000, .int x] (setM z σ h) (some (.int (f_Mwins σ x R B pk gr cd))) (setM z (g_Mwins σ x R B pk gr cd) h) := by
  refine XMet.of hl rfl rfl (Nat.le_of_ble_eq_true rfl) (fun Y O hh hQ => ?_)
  refine sw_cls (fun hcl => ?_)
  show SW Y 6 108 (setM z σ h) 0 [.ref 5000, .int x] []
  refine sw_aload_n O (xx_dt dd_X14_wins 0 rfl) rfl ?_
  refine sw_iconst (x := 0) O (xx_dt dd_X14_wins 1 rfl) (by decide) ?_
  refine sw_put (h2 := setM z (u2 σ 5000 0 0) h) O (xx_dt dd_X14_wins 2 rfl) cl_X14 fl_X14_46 (lm_mod (σ := σ)) (by decide) (by omega) rfl (fun _ => ⟨rfl, rfl⟩) (pm_mod (σ := σ) (by omega)) ?_
  refine sw_aload_n O (xx_dt dd_X14_wins 3 rfl) rfl ?_
  refine sw_iload_n O (xx_dt dd_X14_wins 4 rfl) rfl ?_
  refine sw_callVx (as := [.int x]) (st := []) (st2 := [.int (bZ (n_lt x B))]) O (ct_X14_isBidder hl (z := z) (σ := u2 σ 5000 0 0) hbs (B := B) hB (by omega) (x := x)) ce_X14_isBidder ml_X14_156 iv_X14_isBidder cl_X14 rfl (lm_mod (σ := u2 σ 5000 0 0)) (xx_dt dd_X14_wins 5 rfl) (by decide) rfl rfl (Nat.le_of_ble_eq_true rfl) rfl ?_
  refine sw_if_eqB (tgt := 29) O (xx_dt dd_X14_wins 6 rfl) (by decide) (fun q1 => ?_) (fun q1 => ?_)
  · refine sw_aload_n O (xx_dt dd_X14_wins 15 rfl) rfl ?_
    refine sw_iconst (x := 1) O (xx_dt dd_X14_wins 16 rfl) (by decide) ?_
    refine sw_callVx (as := [.int 1]) (st := []) (st2 := [.int 0]) O (ct_X14_refuse hl (z := z) (σ := u2 σ 5000 0 0) hbs (x := 1)) ce_X14_refuse ml_X14_74 iv_X14_refuse cl_X14 rfl (lm_mod (σ := u2 σ 5000 0 0)) (xx_dt dd_X14_wins 17 rfl) (by decide) rfl rfl (Nat.le_of_ble_eq_true rfl) rfl ?_
    exact sw_iret O (xx_dt dd_X14_wins 18 rfl) rfl rfl (by rw [hQ]; exact ⟨by unfold f_Mwins; simp only [if_neg q1], by unfold g_Mwins; simp only [if_neg q1]⟩)
  · have hc10 := q1
    refine sw_lsE (ls2 := [.ref 5000, .int (nI (cn x))]) (by rw [← hc10.1]) ?_
    have hd10 := hc10.2
    refine sw_aload_n O (xx_dt dd_X14_wins 7 rfl) rfl ?_
    refine sw_iload_n O (xx_dt dd_X14_wins 8 rfl) rfl ?_
    refine sw_new (k := 5) (n := 101) (r := 9000) O (xx_dt dd_X14_wins 9 rfl) cl_X10 nw_X14_218 ((setM_c0 (z := z) (σ := u2 σ 5000 0 0) hme.2.1.1.1 (by omega)).trans (hfr 9000 (by omega) (by omega))) (by omega) ?_
    rw [xx_blk_up]
    refine sw_dup O (xx_dt dd_X14_wins 10 rfl) rfl ?_
    refine sw_aload_n O (xx_dt dd_X14_wins 11 rfl) rfl ?_
    refine sw_callIx (k := 0) (n := 0) (k' := 5) (n' := 101) (as := [.ref 5000]) (st := [.ref 9000, .int (nI (cn x)), .ref 5000]) (st2 := [.ref 9000, .int (nI (cn x)), .ref 5000]) O (ct_X10_init hl (z := z) (σ := u2 σ 5000 0 0) hbs hfr hme.2.1.1.1 (R := R) hR (by omega) (B := B) hB (by omega) (pk := pk) (gr := gr) (cd := cd) (fun j9 hj9 => by rw [(u2_ne (by omega))]; exact hpk j9 hj9) (fun j9 hj9 => by rw [show (u2 σ 5000 0 0) (5020 + j9) 3 = σ (5020 + j9) 3 from (congrFun (u2_ne (by omega)) 3)]; exact hgr j9 hj9) (fun j9 k9 hj9 hk9 => by rw [(u2_ne (by omega))]; exact hcd j9 k9 hj9 hk9)) ce_X10_init ml_X14_220 ii_X10_init (xx_dt dd_X14_wins 12 rfl) (by decide) rfl rfl (Nat.le_of_ble_eq_true rfl) rfl ?_
    refine sw_callVx (as := [.int (nI (cn x)), .ref 9000]) (st := []) (st2 := [.int (f_MwinsNow (g_Cinit (u2 σ 5000 0 0) R B pk gr cd) (cn x))]) O (ct_X14_winsNow hl (z := z) (σ := g_Cinit (u2 σ 5000 0 0) R B pk gr cd) hbs cf_Cinit (i := cn x) (by omega)) ce_X14_winsNow ml_X14_317 iv_X14_winsNow cl_X14 rfl (lm_mod (σ := g_Cinit (u2 σ 5000 0 0) R B pk gr cd)) (xx_dt dd_X14_wins 13 rfl) (by decide) rfl rfl (Nat.le_of_ble_eq_true rfl) rfl ?_
    refine sw_goto (tgt := 34) O (xx_dt dd_X14_wins 14 rfl) (by decide) ?_
    have me9 : mem_eq σ (u2 (g_Cinit (u2 σ 5000 0 0) R B pk gr cd) 9000 20 0) := (mem_eq.frame (τ0 := u2 σ 5000 0 0) (mem_eq.int (r := 5000) (i := 0) (x := 0) hme rfl) (fun q h1 h2 h3 => by simp (disch := omega) only [u2_ne, uR_ne, fr_Cinit, fr_Cpay1, fr_Cpay2]) rfl (fun q h1 h2 => by (simp (disch := omega) only [u2_ne, uR_ne, fr_Cinit, fr_Cpay1, fr_Cpay2]; exact (hme.2.2 q h1 h2).1)))
    exact sw_iretD (h' := setM z (u2 (g_Cinit (u2 σ 5000 0 0) R B pk gr cd) 9000 20 0) h) O (xx_dt dd_X14_wins 18 rfl) rfl rfl (drop9 hfr) (me9.cls hcl) (by rw [hh]; exact fun r hr => me9.dom hr) (by rw [hQ]; exact ⟨by unfold f_Mwins; simp only [if_pos q1], by unfold g_Mwins; simp only [if_pos q1]⟩)
end
