/-! ===== the reference: a choice is made ===== -/
theorem lyQ_9 {z : Int64} {C C' : XS9} {r : Nat} {s : Nat → Int32} (h1 : ∀ q i, q ≠ 9000 → C q i = C' q i) (h2 : r < 9000 ∨ 9010 ≤ r) : lyQ z C r s = lyQ z C' r s := by
  have e1 : ∀ i, C 5001 i = C' 5001 i := fun i => h1 _ _ (by omega)
  have e2 : ∀ i, C 5002 i = C' 5002 i := fun i => h1 _ _ (by omega)
  have e3 : ∀ i, C 5003 i = C' 5003 i := fun i => h1 _ _ (by omega)
  have e4 : ∀ i, C 5004 i = C' 5004 i := fun i => h1 _ _ (by omega)
  have e7 : ∀ i, C 7000 i = C' 7000 i := fun i => h1 _ _ (by omega)
  have e8 : ∀ i, C 8000 i = C' 8000 i := fun i => h1 _ _ (by omega)
  have er : ∀ i, C r i = C' r i := fun i => h1 _ _ (by omega)
  by_cases h3 : r < 20000
  · have ep : ∀ i, C (5030 + (r - 10000) / 20) i = C' (5030 + (r - 10000) / 20) i := fun i => h1 _ _ (by omega)
    rcases h2 with h2 | h2
    · unfold lyQ lyB nmS
      simp only [e1, e2, e3, e4, e7, e8, er, if_pos h2]
    · unfold lyQ lyB nmS
      simp only [e1, e2, e3, e4, e7, e8, er, ep, if_neg (show ¬ r < 9010 by omega)]
  · by_cases h4 : r < 20010
    · rw [lq_tmp (by omega), lq_tmp (by omega), er, er]
    · unfold lyQ
      rw [if_neg (by omega), if_neg (by omega), if_neg (by omega), if_neg (by omega), if_neg (by omega), if_neg (by omega), if_neg (by omega), if_neg (by omega), if_neg (by omega), if_neg (by omega), if_neg (by omega), if_neg (by omega), if_neg (by omega), if_neg (by omega), if_neg (by omega), if_neg (by omega), if_neg (by omega), if_neg (by omega), if_neg (by omega), if_neg (by omega), if_neg (by omega), if_neg (by omega), if_neg (by omega), if_neg (by omega), if_neg (by omega), if_neg (by omega), if_neg (by omega), if_neg (by omega), if_neg (by omega), if_neg (by omega), if_neg (by omega), if_neg (by omega), if_neg (by omega), if_neg (by omega), if_neg (by omega), if_neg (by omega), if_neg (by omega), if_neg (by omega), if_neg (by omega), if_neg (by omega)]
theorem lyQ_8 {z : Int64} {C C' : XS9} {r : Nat} {s : Nat → Int32} (h1 : ∀ q i, q ≠ 8000 → C q i = C' q i) (h2 : r < 8000 ∨ 9000 ≤ r) : lyQ z C r s = lyQ z C' r s := by
  have e1 : ∀ i, C 5001 i = C' 5001 i := fun i => h1 _ _ (by omega)
  have e2 : ∀ i, C 5002 i = C' 5002 i := fun i => h1 _ _ (by omega)
  have e3 : ∀ i, C 5003 i = C' 5003 i := fun i => h1 _ _ (by omega)
  have e4 : ∀ i, C 5004 i = C' 5004 i := fun i => h1 _ _ (by omega)
  have e7 : ∀ i, C 7000 i = C' 7000 i := fun i => h1 _ _ (by omega)
  have e9 : ∀ i, C 9000 i = C' 9000 i := fun i => h1 _ _ (by omega)
  have er : ∀ i, C r i = C' r i := fun i => h1 _ _ (by omega)
  by_cases h3 : r < 20000
  · have ep : ∀ i, C (5030 + (r - 10000) / 20) i = C' (5030 + (r - 10000) / 20) i := fun i => h1 _ _ (by omega)
    rcases h2 with h2 | h2
    · unfold lyQ lyB nmS
      simp only [e1, e2, e3, e4, e7, e9, er, if_pos h2]
    · unfold lyQ lyB nmS
      simp only [e1, e2, e3, e4, e7, e9, er, ep, if_neg (show ¬ r < 8000 by omega), if_neg (show ¬ r < 9000 by omega)]
  · by_cases h4 : r < 20010
    · rw [lq_tmp (by omega), lq_tmp (by omega), er, er]
    · unfold lyQ
      rw [if_neg (by omega), if_neg (by omega), if_neg (by omega), if_neg (by omega), if_neg (by omega), if_neg (by omega), if_neg (by omega), if_neg (by omega), if_neg (by omega), if_neg (by omega), if_neg (by omega), if_neg (by omega), if_neg (by omega), if_neg (by omega), if_neg (by omega), if_neg (by omega), if_neg (by omega), if_neg (by omega), if_neg (by omega), if_neg (by omega), if_neg (by omega), if_neg (by omega), if_neg (by omega), if_neg (by omega), if_neg (by omega), if_neg (by omega), if_neg (by omega), if_neg (by omega), if_neg (by omega), if_neg (by omega), if_neg (by omega), if_neg (by omega), if_neg (by omega), if_neg (by omega), if_neg (by omega), if_neg (by omega), if_neg (by omega), if_neg (by omega), if_neg (by omega), if_neg (by omega)]
def g_cho0 (σ : XS9) : XS9 := fun q => if q = 9000 then (fun i => if i = 20 then 1 else 0) else if q = 9001 ∨ q = 9002 ∨ q = 9003 ∨ q = 9004 ∨ q = 9005 then (fun _ => 0) else σ q
theorem fr_cho0 {σ : XS9} {q : Nat} (h : q < 9000 ∨ 9005 < q) : g_cho0 σ q = σ q := by
  unfold g_cho0
  rw [if_neg (by omega), if_neg (by omega)]
abbrev cho_F : Nat → Value := fun k => match k with | 0 => .ref 9001 | 1 => .ref 9002 | 2 => .ref 9003 | 3 => .ref 9004 | 4 => .ref 9005 | 6 => .ref 5000 | k => .int (if k = 20 then 1 else 0)
theorem new_cho {z : Int64} {σ : XS9} {h : XH} : xx_up (xx_up (xx_up (xx_up (xx_up (xx_up (setM z σ h) 9001 (100, 6, fun _ => .int 0)) 9002 (100, 6, fun _ => .int 0)) 9003 (100, 64, fun _ => .int 0)) 9004 (100, 5, fun _ => .int 0)) 9005 (100, 20, fun _ => .int 0)) 9000 (16, 7, cho_F) = setM z (g_cho0 σ) h := by
  funext q
  have hc : ctl (g_cho0 σ) 9000 20 = 1 := rfl
  have hf : ¬ g_cho0 σ 9000 20 = 0 := by show ¬ (1 : Int32) = 0; decide
  unfold xx_up
  by_cases a0 : q = 9000
  · rw [if_pos a0, a0, lm_9000 hf]
    rfl
  rw [if_neg a0]
  by_cases a5 : q = 9005
  · rw [if_pos a5, a5]; exact (lm_9005 hf).symm
  rw [if_neg a5]
  by_cases a4 : q = 9004
  · rw [if_pos a4, a4]; exact (lm_9004 hf).symm
  rw [if_neg a4]
  by_cases a3 : q = 9003
  · rw [if_pos a3, a3]; exact (lm_9003 hf).symm
  rw [if_neg a3]
  by_cases a2 : q = 9002
  · rw [if_pos a2, a2]; exact (lm_9002 hf).symm
  rw [if_neg a2]
  by_cases a1 : q = 9001
  · rw [if_pos a1, a1]; exact (lm_9001 hf).symm
  rw [if_neg a1]
  unfold setM
  by_cases hr : q < 9000 ∨ 9010 ≤ q
  · rw [lyQ_9 (C := ctl (g_cho0 σ)) (C' := ctl σ) (fun r i e => by
      unfold ctl
      by_cases er : r < 9000 ∨ 9005 < r
      · rw [fr_cho0 er]
      · have : isCtl r i = false := notCtl (by omega) i
        simp only [this]
        rfl) hr, fr_cho0 (by omega)]
  · have e1 : ∀ C s, lyQ z C q s = none := fun C s => by
      have e2 : q - 9000 ≠ 0 ∧ q - 9000 ≠ 1 ∧ q - 9000 ≠ 2 ∧ q - 9000 ≠ 3 ∧ q - 9000 ≠ 4 ∧ q - 9000 ≠ 5 := by omega
      unfold lyQ
      rw [if_neg (by omega), if_neg (by omega), if_neg (by omega), if_neg (by omega), if_neg (by omega), if_neg (by omega), if_neg (by omega), if_neg (by omega), if_neg (by omega), if_neg (by omega), if_neg (by omega), if_neg (by omega), if_neg (by omega), if_neg (by omega), if_pos (by omega)]
      split
      · rfl
      · split <;> first | rfl | omega
    rw [e1, e1]
theorem setM_c0 {z : Int64} {σ : XS9} {h : XH} {r : Nat} (h0 : σ 9000 20 = 0) (hr : 9000 ≤ r ∧ r < 9010) : setM z σ h r = h r := by
  refine setM_no ?_
  have e : ctl σ 9000 20 = 0 := h0
  unfold lyQ
  rw [if_neg (by omega), if_neg (by omega), if_neg (by omega), if_neg (by omega), if_neg (by omega), if_neg (by omega), if_neg (by omega), if_neg (by omega), if_neg (by omega), if_neg (by omega), if_neg (by omega), if_neg (by omega), if_neg (by omega), if_neg (by omega), if_pos (by omega), e, if_pos rfl]
theorem setM_over {z : Int64} {σ : XS9} {h : XH} {r : Nat} {c c2 : XC} (h1 : 5000 ≤ r ∧ r < 20010) (e : lyQ z (ctl σ) r (σ r) = some c2) : setM z σ (xx_up h r c) = setM z σ h := by
  funext q
  by_cases eq : q = r
  · subst eq
    rw [setM_of h1 e, setM_of h1 e]
  · unfold setM
    rw [xx_up_ne eq]
theorem def0 : (fun _ => defaultValue (newarray.typeOf .int) : Nat → Value) = fun _ => Value.int 0 := rfl
theorem defZ0 : (fun _ => defaultValue (newarray.typeOf .boolean) : Nat → Value) = fun _ => Value.int 0 := rfl
def x_CinitA_55 (σ : XS9) (R : Nat) (s0 : XS9) : XS9 := xit (fun i55 s55 => u2 s55 9004 i55 (σ (5010 + i55) 0)) R 0 s0
def x_CinitA_109 (σ : XS9) (s0 : Unit) : Unit := xit (fun i109 s109 => ()) 6 0 s0
def x_CinitA_149 (σ : XS9) (i138 : Nat) (s0 : XS9) : XS9 := xit (fun i149 s149 => (if (((nI i138) >>> ((nI i149) &&& 31)) &&& 1) = 1 then u2 s149 9003 i138 (if (s149 9003 i138) < (s149 9003 (bclr i138 i149)) then (s149 9003 (bclr i138 i149)) else (s149 9003 i138)) else s149)) 6 0 s0
theorem fx_CinitA_149 {σ : XS9} {i138 : Nat} {s0 : XS9} {q : Nat} (h : q ≠ 9003) : x_CinitA_149 σ i138 s0 q = s0 q := xit_keep (fun s : XS9 => s q) (fun i s => by (try dsimp only); (repeat' split) <;> first | rfl | simp (disch := omega) only [u2_ne]) _ _ _
def x_CinitA_138 (σ : XS9) (s0 : XS9) : XS9 := xit (fun i138 s138 => (x_CinitA_149 σ i138 s138)) 64 0 s0
def g_CinitA (σ : XS9) (R B : Nat) (pk gr : Nat → Nat) (cd : Nat → Nat → Nat) : XS9 := (x_CinitA_138 σ (g_Cpick B pk gr cd B 0 (x_CinitA_55 σ R (u2 (g_cho0 σ) 9000 5 (-1))) 0 0))
theorem ct_CinitA {l : Launch} {h : XH} (hl : l.stackTraces = false) {z : Int64} {σ : XS9} (hbs : xx_bs h) (hfr : ∀ r, 5000 ≤ r → r < 20010 → h r = none) (hc0 : σ 9000 20 = 0) {R : Nat} (hR : σ 5001 900 = nI R) (hR5 : R ≤ 5) {B : Nat} (hB : σ 5002 900 = nI B) (hB6 : B ≤ 6) {pk : Nat → Nat} (hpk : ∀ j, j < B → σ (5030 + j) 900 = nI (2 * pk j) ∧ pk j ≤ 6) {gr : Nat → Nat} (hgr : ∀ j, j < B → σ (5020 + j) 3 = nI (gr j) ∧ gr j < 4) {cd : Nat → Nat → Nat} (hcd : ∀ j k, j < B → k < pk j → σ (5030 + j) (2 * k) = nI (cd j k) ∧ cd j k < 7776) (hst : ¬ σ 5000 1 ≤ 1) (hst2 : (2 : Int32) ≤ σ 5000 1) : XEx l m_X10_init 20 5 101 [.ref 9000, .ref 5000] (xx_up (setM z σ h) 9000 (16, 7, fun j => defaultValue (tyX10 j))) none (setM z (g_CinitA σ R B pk gr cd) h) := by
  refine XMet.of hl rfl rfl (Nat.le_of_ble_eq_true rfl) (fun Y O hh hQ => ?_)
  show SW Y 5 101 (xx_up (setM z σ h) 9000 (16, 7, fun j => defaultValue (tyX10 j))) 0 [.ref 9000, .ref 5000, xx_d, xx_d] []
  refine sw_aload_n O (xx_dt dd_X10_init 0 rfl) rfl ?_
  refine sw_aload_n O (xx_dt dd_X10_init 1 rfl) rfl ?_
  refine sw_putF (h2 := xx_up (setM z σ h) 9000 (16, 7, updV (fun j => defaultValue (tyX10 j)) 6 (.ref 5000))) O (xx_dt dd_X10_init 2 rfl) cl_X10 fz_X10_3 (xx_up_eq _ _ _) (by decide) (by omega) rfl rfl (fun _ => ⟨rfl, rfl⟩) xx_up_up ?_
  refine sw_aload_n O (xx_dt dd_X10_init 3 rfl) rfl ?_
  refine sw_objInit O oi_X10_9 (xx_dt dd_X10_init 4 rfl) (by omega) (Nat.le_of_ble_eq_true rfl) ?_
  refine sw_aload_n O (xx_dt dd_X10_init 5 rfl) rfl ?_
  refine sw_bipush (x := 6) O (xx_dt dd_X10_init 6 rfl) (by decide) ?_
  refine sw_newarray (k := 4) (n := 95) (t := 100) (N := 6) (r := 9001) O (xx_dt dd_X10_init 7 rfl) ⟨⟨by omega, by omega⟩, rfl⟩ ac_int (by first | decide | (have h9 := xx_nlt0 6 (by omega); exact h9)) (by first | rfl | exact nI_clamp (by omega)) (by show 6 * 4 ≤ _; omega) ((xx_up_ne (by omega)).trans ((setM_c0 hc0 (by omega)).trans (hfr 9001 (by omega) (by omega)))) (by omega) ?_
  rw [xx_blk_up, def0, xx_up_sw (by omega)]
  refine sw_putF (h2 := xx_up (xx_up (setM z σ h) 9001 (100, 6, fun _ => .int 0)) 9000 (16, 7, updV (updV (fun j => defaultValue (tyX10 j)) 6 (.ref 5000)) 0 (.ref 9001))) O (xx_dt dd_X10_init 8 rfl) cl_X10 fz_X10_15 (xx_up_eq _ _ _) (by decide) (by omega) rfl rfl (fun _ => ⟨rfl, rfl⟩) xx_up_up ?_
  refine sw_aload_n O (xx_dt dd_X10_init 9 rfl) rfl ?_
  refine sw_bipush (x := 6) O (xx_dt dd_X10_init 10 rfl) (by decide) ?_
  refine sw_newarray (k := 3) (n := 89) (t := 100) (N := 6) (r := 9002) O (xx_dt dd_X10_init 11 rfl) ⟨⟨by omega, by omega⟩, rfl⟩ ac_int (by first | decide | (have h9 := xx_nlt0 6 (by omega); exact h9)) (by first | rfl | exact nI_clamp (by omega)) (by show 6 * 4 ≤ _; omega) ((xx_up_ne (by omega)).trans ((xx_up_ne (by omega)).trans ((setM_c0 hc0 (by omega)).trans (hfr 9002 (by omega) (by omega))))) (by omega) ?_
  rw [xx_blk_up, def0, xx_up_sw (by omega)]
  refine sw_putF (h2 := xx_up (xx_up (xx_up (setM z σ h) 9001 (100, 6, fun _ => .int 0)) 9002 (100, 6, fun _ => .int 0)) 9000 (16, 7, updV (updV (updV (fun j => defaultValue (tyX10 j)) 6 (.ref 5000)) 0 (.ref 9001)) 1 (.ref 9002))) O (xx_dt dd_X10_init 12 rfl) cl_X10 fz_X10_19 (xx_up_eq _ _ _) (by decide) (by omega) rfl rfl (fun _ => ⟨rfl, rfl⟩) xx_up_up ?_
  refine sw_aload_n O (xx_dt dd_X10_init 13 rfl) rfl ?_
  refine sw_bipush (x := 64) O (xx_dt dd_X10_init 14 rfl) (by decide) ?_
  refine sw_newarray (k := 2) (n := 25) (t := 100) (N := 64) (r := 9003) O (xx_dt dd_X10_init 15 rfl) ⟨⟨by omega, by omega⟩, rfl⟩ ac_int (by first | decide | (have h9 := xx_nlt0 64 (by omega); exact h9)) (by first | rfl | exact nI_clamp (by omega)) (by show 64 * 4 ≤ _; omega) ((xx_up_ne (by omega)).trans ((xx_up_ne (by omega)).trans ((xx_up_ne (by omega)).trans ((setM_c0 hc0 (by omega)).trans (hfr 9003 (by omega) (by omega)))))) (by omega) ?_
  rw [xx_blk_up, def0, xx_up_sw (by omega)]
  refine sw_putF (h2 := xx_up (xx_up (xx_up (xx_up (setM z σ h) 9001 (100, 6, fun _ => .int 0)) 9002 (100, 6, fun _ => .int 0)) 9003 (100, 64, fun _ => .int 0)) 9000 (16, 7, updV (updV (updV (updV (fun j => defaultValue (tyX10 j)) 6 (.ref 5000)) 0 (.ref 9001)) 1 (.ref 9002)) 2 (.ref 9003))) O (xx_dt dd_X10_init 16 rfl) cl_X10 fz_X10_22 (xx_up_eq _ _ _) (by decide) (by omega) rfl rfl (fun _ => ⟨rfl, rfl⟩) xx_up_up ?_
  refine sw_aload_n O (xx_dt dd_X10_init 17 rfl) rfl ?_
  refine sw_iconst (x := 5) O (xx_dt dd_X10_init 18 rfl) (by decide) ?_
  refine sw_newarray (k := 1) (n := 20) (t := 100) (N := 5) (r := 9004) O (xx_dt dd_X10_init 19 rfl) ⟨⟨by omega, by omega⟩, rfl⟩ ac_int (by first | decide | (have h9 := xx_nlt0 5 (by omega); exact h9)) (by first | rfl | exact nI_clamp (by omega)) (by show 5 * 4 ≤ _; omega) ((xx_up_ne (by omega)).trans ((xx_up_ne (by omega)).trans ((xx_up_ne (by omega)).trans ((xx_up_ne (by omega)).trans ((setM_c0 hc0 (by omega)).trans (hfr 9004 (by omega) (by omega))))))) (by omega) ?_
  rw [xx_blk_up, def0, xx_up_sw (by omega)]
  refine sw_putF (h2 := xx_up (xx_up (xx_up (xx_up (xx_up (setM z σ h) 9001 (100, 6, fun _ => .int 0)) 9002 (100, 6, fun _ => .int 0)) 9003 (100, 64, fun _ => .int 0)) 9004 (100, 5, fun _ => .int 0)) 9000 (16, 7, updV (updV (updV (updV (updV (fun j => defaultValue (tyX10 j)) 6 (.ref 5000)) 0 (.ref 9001)) 1 (.ref 9002)) 2 (.ref 9003)) 3 (.ref 9004))) O (xx_dt dd_X10_init 20 rfl) cl_X10 fz_X10_25 (xx_up_eq _ _ _) (by decide) (by omega) rfl rfl (fun _ => ⟨rfl, rfl⟩) xx_up_up ?_
  refine sw_aload_n O (xx_dt dd_X10_init 21 rfl) rfl ?_
  refine sw_bipush (x := 20) O (xx_dt dd_X10_init 22 rfl) (by decide) ?_
  refine sw_newarray (k := 0) (n := 0) (t := 100) (N := 20) (r := 9005) O (xx_dt dd_X10_init 23 rfl) ⟨⟨by omega, by omega⟩, rfl⟩ ac_int (by first | decide | (have h9 := xx_nlt0 20 (by omega); exact h9)) (by first | rfl | exact nI_clamp (by omega)) (by show 20 * 4 ≤ _; omega) ((xx_up_ne (by omega)).trans ((xx_up_ne (by omega)).trans ((xx_up_ne (by omega)).trans ((xx_up_ne (by omega)).trans ((xx_up_ne (by omega)).trans ((setM_c0 hc0 (by omega)).trans (hfr 9005 (by omega) (by omega)))))))) (by omega) ?_
  rw [xx_blk_up, def0, xx_up_sw (by omega)]
  refine sw_putF (h2 := xx_up (xx_up (xx_up (xx_up (xx_up (xx_up (setM z σ h) 9001 (100, 6, fun _ => .int 0)) 9002 (100, 6, fun _ => .int 0)) 9003 (100, 64, fun _ => .int 0)) 9004 (100, 5, fun _ => .int 0)) 9005 (100, 20, fun _ => .int 0)) 9000 (16, 7, updV (updV (updV (updV (updV (updV (fun j => defaultValue (tyX10 j)) 6 (.ref 5000)) 0 (.ref 9001)) 1 (.ref 9002)) 2 (.ref 9003)) 3 (.ref 9004)) 4 (.ref 9005))) O (xx_dt dd_X10_init 24 rfl) cl_X10 fz_X10_28 (xx_up_eq _ _ _) (by decide) (by omega) rfl rfl (fun _ => ⟨rfl, rfl⟩) xx_up_up ?_
  refine sw_alter (F2 := cho_F) (xx_up_eq _ _ _) (fun j hj => by match j, hj with | 0, _ => rfl | 1, _ => rfl | 2, _ => rfl | 3, _ => rfl | 4, _ => rfl | 5, _ => rfl | 6, _ => rfl) ?_
  rw [xx_up_up, new_cho]
  refine sw_aload_n O (xx_dt dd_X10_init 25 rfl) rfl ?_
  refine sw_iconst (x := (-1)) O (xx_dt dd_X10_init 26 rfl) (by decide) ?_
  refine sw_put (h2 := setM z (u2 (g_cho0 σ) 9000 5 (-1)) h) O (xx_dt dd_X10_init 27 rfl) cl_X10 fl_X10_31 (lm_9000 (σ := g_cho0 σ) (fl1 rfl)) (by decide) (by omega) rfl (fun _ => ⟨rfl, rfl⟩) (pm_cho (σ := g_cho0 σ) rfl) ?_
  refine sw_iconst (x := 0) O (xx_dt dd_X10_init 28 rfl) (by decide) ?_
  refine sw_istore_n (ls2 := [.ref 9000, .ref 5000, .int 0, xx_d]) O (xx_dt dd_X10_init 29 rfl) (by decide) rfl ?_
  refine sw_for (S := XS9) (fun i55 s55 => u2 s55 9004 i55 (σ (5010 + i55) 0)) (fun _ s55 => s55 9000 20 = nI 1 ∧ (∀ q, q ≠ 9004 → s55 q = (u2 (g_cho0 σ) 9000 5 (-1)) q)) (hp := fun s55 => setM z s55 h) (hd := 55) (lc := fun i55 s55 => [.ref 9000, .ref 5000, .int (nI i55), xx_d]) (N := R) (fun i55 s55 hi55 hP55 => ⟨(by (try dsimp only); (repeat' split) <;> (refine ⟨?_, ?_⟩ <;> (first | exact hP55.1 | exact hP55.2 | exact (fun q9 hq9 => by (simp (disch := omega) only [u2_ne, uR_ne, fr_fill, fr_Ctake, fx_CinitA_149]); exact hP55.2 q9 hq9) | exact hi55 | exact .inl rfl | exact .inr rfl | (simp (disch := omega) only [u2_ne, uR_ne, fr_fill, fr_Ctake, fx_CinitA_149]; first | exact hP55.1 | exact hP55.2 | exact (fun q9 hq9 => by (simp (disch := omega) only [u2_ne, uR_ne, fr_fill, fr_Ctake, fx_CinitA_149]); exact hP55.2 q9 hq9))))), fun kk55 => ?_⟩) R 0 (u2 (g_cho0 σ) 9000 5 (-1)) (by omega) (⟨(show (u2 (g_cho0 σ) 9000 5 (-1)) 9000 20 = nI 1 from rfl), (fun _ _ => rfl)⟩) (fun hP55 => ?_)
  · refine sw_iload_n O (xx_dt dd_X10_init 30 rfl) rfl ?_
    refine sw_aload_n O (xx_dt dd_X10_init 31 rfl) rfl ?_
    refine sw_get (v := .ref 5001) O (xx_dt dd_X10_init 32 rfl) cl_X14 fl_X10_35 (lm_mod (σ := s55)) (by decide) rfl ?_
    refine sw_callVL (ci := 6) (as := []) (st := [.int (nI i55)]) (st2 := [.int (nI R), .int (nI i55)]) O (ct_AL_size hl (lm_5001 (σ := s55) (R := R) ((((congrFun (hP55.2 _ (by omega)) 900).trans (congrFun (u2_ne (by omega)) 900)).trans (congrFun (fr_cho0 (by omega)) 900)).trans hR) (by omega))) ce_Jx4a65c_size_8abf5 ml_X10_39 iv_Jx4a65c_size_8abf5 cl_Jx4a65c rfl (lm_5001 (σ := s55) (R := R) ((((congrFun (hP55.2 _ (by omega)) 900).trans (congrFun (u2_ne (by omega)) 900)).trans (congrFun (fr_cho0 (by omega)) 900)).trans hR) (by omega)) (xx_dt dd_X10_init 33 rfl) (by omega) rfl rfl (Nat.le_of_ble_eq_true rfl) rfl ?_
    refine sw_icmp_ge (tgt := 92) O (xx_dt dd_X10_init 34 rfl) (by decide) (fun q1 => ?_) (fun q1 => ?_)
    · exact absurd q1 (nI_ge (b := R) hi55 (by omega))
    · refine sw_aload_n O (xx_dt dd_X10_init 35 rfl) rfl ?_
      refine sw_get (v := .ref 9004) O (xx_dt dd_X10_init 36 rfl) cl_X10 fl_X10_25 (lm_9000 (σ := s55) (fl1 ((congrFun (hP55.2 _ (by omega)) 20).trans rfl))) (by decide) rfl ?_
      refine sw_iload_n O (xx_dt dd_X10_init 37 rfl) rfl ?_
      refine sw_aload_n O (xx_dt dd_X10_init 38 rfl) rfl ?_
      refine sw_get (v := .ref 5001) O (xx_dt dd_X10_init 39 rfl) cl_X14 fl_X10_35 (lm_mod (σ := s55)) (by decide) rfl ?_
      refine sw_iload_n O (xx_dt dd_X10_init 40 rfl) rfl ?_
      refine sw_callVL (ci := 6) (as := [.int (nI i55)]) (st := [.int (nI i55), .ref 9004]) (st2 := [.ref (5010 + i55), .int (nI i55), .ref 9004]) O (ct_get hl hbs (lm_5001 (σ := s55) (R := R) ((((congrFun (hP55.2 _ (by omega)) 900).trans (congrFun (u2_ne (by omega)) 900)).trans (congrFun (fr_cho0 (by omega)) 900)).trans hR) (by omega)) (by omega) (i := i55) (x := 5010 + i55) (by omega) (by omega) rfl) ce_Jx4a65c_get_915e3 ml_X10_45 iv_Jx4a65c_get_915e3 cl_Jx4a65c rfl (lm_5001 (σ := s55) (R := R) ((((congrFun (hP55.2 _ (by omega)) 900).trans (congrFun (u2_ne (by omega)) 900)).trans (congrFun (fr_cho0 (by omega)) 900)).trans hR) (by omega)) (xx_dt dd_X10_init 41 rfl) (by omega) rfl rfl (Nat.le_of_ble_eq_true rfl) rfl ?_
      refine sw_castO O (xx_dt dd_X10_init 42 rfl) cl_X12 (lm_reg (σ := s55) (R := R) ((((congrFun (hP55.2 _ (by omega)) 900).trans (congrFun (u2_ne (by omega)) 900)).trans (congrFun (fr_cho0 (by omega)) 900)).trans hR) (by omega) (j := i55) (by omega)) cw_X10_49 ?_
      refine sw_get (v := .int (σ (5010 + i55) 0)) O (xx_dt dd_X10_init 43 rfl) cl_X12 fl_X10_51 (lm_reg (σ := s55) (R := R) ((((congrFun (hP55.2 _ (by omega)) 900).trans (congrFun (u2_ne (by omega)) 900)).trans (congrFun (fr_cho0 (by omega)) 900)).trans hR) (by omega) (j := i55) (by omega)) (by decide) (congrArg Value.int (((congrFun (hP55.2 _ (by omega)) 0).trans (congrFun (u2_ne (by omega)) 0)).trans (congrFun (fr_cho0 (by omega)) 0))) ?_
      refine sw_iastore (h2 := setM z (u2 s55 9004 i55 (σ (5010 + i55) 0)) h) O (xx_dt dd_X10_init 44 rfl) ((im_9004 (z := z) (σ := s55) ((congrFun (hP55.2 _ (by omega)) 20).trans rfl)).get _) (pk_in i55 _ (by omega)) (by omega) (by rw [nI_clamp (by omega)]; exact ((im_9004 (z := z) (σ := s55) ((congrFun (hP55.2 _ (by omega)) 20).trans rfl)).put (by omega))) ?_
      refine sw_iinc (y := nI (i55 + 1)) (ls2 := [.ref 9000, .ref 5000, .int (nI (i55 + 1)), xx_d]) O (xx_dt dd_X10_init 45 rfl) rfl (nI_1 _) (by decide) rfl ?_
      refine sw_goto (tgt := 55) O (xx_dt dd_X10_init 46 rfl) (by decide) ?_
      exact kk55
  · show SW Y _ _ (setM z (x_CinitA_55 σ R (u2 (g_cho0 σ) 9000 5 (-1))) h) 55 [.ref 9000, .ref 5000, .int (nI R), xx_d] []
    have hP55 : (x_CinitA_55 σ R (u2 (g_cho0 σ) 9000 5 (-1))) 9000 20 = nI 1 ∧ (∀ q, q ≠ 9004 → (x_CinitA_55 σ R (u2 (g_cho0 σ) 9000 5 (-1))) q = (u2 (g_cho0 σ) 9000 5 (-1)) q) := hP55
    refine sw_iload_n O (xx_dt dd_X10_init 30 rfl) rfl ?_
    refine sw_aload_n O (xx_dt dd_X10_init 31 rfl) rfl ?_
    refine sw_get (v := .ref 5001) O (xx_dt dd_X10_init 32 rfl) cl_X14 fl_X10_35 (lm_mod (σ := (x_CinitA_55 σ R (u2 (g_cho0 σ) 9000 5 (-1))))) (by decide) rfl ?_
    refine sw_callVL (ci := 6) (as := []) (st := [.int (nI R)]) (st2 := [.int (nI R), .int (nI R)]) O (ct_AL_size hl (lm_5001 (σ := (x_CinitA_55 σ R (u2 (g_cho0 σ) 9000 5 (-1)))) (R := R) ((((congrFun (hP55.2 _ (by omega)) 900).trans (congrFun (u2_ne (by omega)) 900)).trans (congrFun (fr_cho0 (by omega)) 900)).trans hR) (by omega))) ce_Jx4a65c_size_8abf5 ml_X10_39 iv_Jx4a65c_size_8abf5 cl_Jx4a65c rfl (lm_5001 (σ := (x_CinitA_55 σ R (u2 (g_cho0 σ) 9000 5 (-1)))) (R := R) ((((congrFun (hP55.2 _ (by omega)) 900).trans (congrFun (u2_ne (by omega)) 900)).trans (congrFun (fr_cho0 (by omega)) 900)).trans hR) (by omega)) (xx_dt dd_X10_init 33 rfl) (by omega) rfl rfl (Nat.le_of_ble_eq_true rfl) rfl ?_
    refine sw_icmp_ge (tgt := 92) O (xx_dt dd_X10_init 34 rfl) (by decide) (fun q1 => ?_) (fun q1 => ?_)
    · refine sw_aload_n O (xx_dt dd_X10_init 47 rfl) rfl ?_
      refine sw_get (v := .int (σ 5000 1)) O (xx_dt dd_X10_init 48 rfl) cl_X14 fl_X10_54 (lm_mod (σ := (x_CinitA_55 σ R (u2 (g_cho0 σ) 9000 5 (-1))))) (by decide) (congrArg Value.int (((congrFun (hP55.2 _ (by omega)) 1).trans (congrFun (u2_ne (by omega)) 1)).trans (congrFun (fr_cho0 (by omega)) 1))) ?_
      refine sw_iconst (x := 1) O (xx_dt dd_X10_init 49 rfl) (by decide) ?_
      refine sw_icmp_le (tgt := 107) O (xx_dt dd_X10_init 50 rfl) (by decide) (fun q2 => ?_) (fun q2 => ?_)
      · exact absurd q2 hst
      · refine sw_aload_n O (xx_dt dd_X10_init 51 rfl) rfl ?_
        refine sw_iconst (x := 0) O (xx_dt dd_X10_init 52 rfl) (by decide) ?_
        refine sw_iconst (x := 0) O (xx_dt dd_X10_init 53 rfl) (by decide) ?_
        refine sw_iconst (x := 0) O (xx_dt dd_X10_init 54 rfl) (by decide) ?_
        refine sw_callVx (as := [.int 0, .int 0, .int 0]) (st := []) (st2 := []) O (ct_Cpick hl hbs hB6 B 0 (by omega) ((x_CinitA_55 σ R (u2 (g_cho0 σ) 9000 5 (-1)))) 0 0 0 rfl (by omega) ((congrFun (hP55.2 _ (by omega)) 20).trans rfl) ((((congrFun (hP55.2 _ (by omega)) 900).trans (congrFun (u2_ne (by omega)) 900)).trans (congrFun (fr_cho0 (by omega)) 900)).trans hB) (fun j9 hj9 => by rw [(((hP55.2 _ (by omega)).trans (u2_ne (by omega))).trans (fr_cho0 (by omega)))]; exact hpk j9 hj9) (fun j9 hj9 => by rw [show (x_CinitA_55 σ R (u2 (g_cho0 σ) 9000 5 (-1))) (5020 + j9) 3 = σ (5020 + j9) 3 from (((congrFun (hP55.2 _ (by omega)) 3).trans (congrFun (u2_ne (by omega)) 3)).trans (congrFun (fr_cho0 (by omega)) 3))]; exact hgr j9 hj9) (fun j9 k9 hj9 hk9 => by rw [(((hP55.2 _ (by omega)).trans (u2_ne (by omega))).trans (fr_cho0 (by omega)))]; exact hcd j9 k9 hj9 hk9)) ce_X10_pick ml_X10_57 iv_X10_pick cl_X10 rfl (lm_9000 (σ := (x_CinitA_55 σ R (u2 (g_cho0 σ) 9000 5 (-1)))) (fl1 ((congrFun (hP55.2 _ (by omega)) 20).trans rfl))) (xx_dt dd_X10_init 55 rfl) (by omega) rfl rfl (Nat.le_of_ble_eq_true rfl) rfl ?_
        refine sw_iconst (x := 0) O (xx_dt dd_X10_init 56 rfl) (by decide) ?_
        refine sw_istore_n (ls2 := [.ref 9000, .ref 5000, .int 0, xx_d]) O (xx_dt dd_X10_init 57 rfl) (by decide) rfl ?_
        refine sw_for (S := Unit) (fun i109 s109 => ()) (fun _ _ => True) (hp := fun _ => setM z (g_Cpick B pk gr cd B 0 (x_CinitA_55 σ R (u2 (g_cho0 σ) 9000 5 (-1))) 0 0) h) (hd := 109) (lc := fun i109 s109 => [.ref 9000, .ref 5000, .int (nI i109), xx_d]) (N := 6) (fun i109 s109 hi109 hP109 => ⟨trivial, fun kk109 => ?_⟩) 6 0 () (by omega) (trivial) (fun hP109 => ?_)
        · refine sw_iload_n O (xx_dt dd_X10_init 58 rfl) rfl ?_
          refine sw_bipush (x := 6) O (xx_dt dd_X10_init 59 rfl) (by decide) ?_
          refine sw_icmp_ge (tgt := 136) O (xx_dt dd_X10_init 60 rfl) (by decide) (fun q3 => ?_) (fun q3 => ?_)
          · exact absurd q3 (nI_ge (b := 6) hi109 (by omega))
          · refine sw_aload_n O (xx_dt dd_X10_init 61 rfl) rfl ?_
            refine sw_get (v := .int (σ 5000 1)) O (xx_dt dd_X10_init 62 rfl) cl_X14 fl_X10_54 (lm_mod (σ := g_Cpick B pk gr cd B 0 (x_CinitA_55 σ R (u2 (g_cho0 σ) 9000 5 (-1))) 0 0)) (by decide) (congrArg Value.int ((((congrFun (fr_Cpick (by omega)) 1).trans (congrFun (hP55.2 _ (by omega)) 1)).trans (congrFun (u2_ne (by omega)) 1)).trans (congrFun (fr_cho0 (by omega)) 1))) ?_
            refine sw_iconst (x := 2) O (xx_dt dd_X10_init 63 rfl) (by decide) ?_
            refine sw_icmp_ge (tgt := 130) O (xx_dt dd_X10_init 64 rfl) (by decide) (fun q4 => ?_) (fun q4 => ?_)
            · refine sw_iinc (y := nI (i109 + 1)) (ls2 := [.ref 9000, .ref 5000, .int (nI (i109 + 1)), xx_d]) O (xx_dt dd_X10_init 70 rfl) rfl (nI_1 _) (by decide) rfl ?_
              refine sw_goto (tgt := 109) O (xx_dt dd_X10_init 71 rfl) (by decide) ?_
              exact kk109
            · exact absurd q4 (fun e => e hst2)
        · show SW Y _ _ (setM z (g_Cpick B pk gr cd B 0 (x_CinitA_55 σ R (u2 (g_cho0 σ) 9000 5 (-1))) 0 0) h) 109 [.ref 9000, .ref 5000, .int (nI 6), xx_d] []
          refine sw_iload_n O (xx_dt dd_X10_init 58 rfl) rfl ?_
          refine sw_bipush (x := 6) O (xx_dt dd_X10_init 59 rfl) (by decide) ?_
          refine sw_icmp_ge (tgt := 136) O (xx_dt dd_X10_init 60 rfl) (by decide) (fun q3 => ?_) (fun q3 => ?_)
          · refine sw_iconst (x := 0) O (xx_dt dd_X10_init 72 rfl) (by decide) ?_
            refine sw_istore_n (ls2 := [.ref 9000, .ref 5000, .int 0, xx_d]) O (xx_dt dd_X10_init 73 rfl) (by decide) rfl ?_
            refine sw_for (S := XS9) (fun i138 s138 => (x_CinitA_149 σ i138 s138)) (fun _ s138 => s138 9000 20 = nI 1 ∧ (∀ q, q ≠ 9003 → s138 q = (g_Cpick B pk gr cd B 0 (x_CinitA_55 σ R (u2 (g_cho0 σ) 9000 5 (-1))) 0 0) q)) (hp := fun s138 => setM z s138 h) (hd := 138) (lc := fun i138 s138 => [.ref 9000, .ref 5000, .int (nI i138), xx_d]) (N := 64) (fun i138 s138 hi138 hP138 => ⟨(by (try dsimp only); (repeat' split) <;> (refine ⟨?_, ?_⟩ <;> (first | exact hP138.1 | exact hP138.2 | exact (fun q9 hq9 => by (simp (disch := omega) only [u2_ne, uR_ne, fr_fill, fr_Ctake, fx_CinitA_149]); exact hP138.2 q9 hq9) | exact hi138 | exact .inl rfl | exact .inr rfl | (simp (disch := omega) only [u2_ne, uR_ne, fr_fill, fr_Ctake, fx_CinitA_149]; first | exact hP138.1 | exact hP138.2 | exact (fun q9 hq9 => by (simp (disch := omega) only [u2_ne, uR_ne, fr_fill, fr_Ctake, fx_CinitA_149]); exact hP138.2 q9 hq9))))), fun kk138 => ?_⟩) 64 0 (g_Cpick B pk gr cd B 0 (x_CinitA_55 σ R (u2 (g_cho0 σ) 9000 5 (-1))) 0 0) (by omega) (⟨(show (g_Cpick B pk gr cd B 0 (x_CinitA_55 σ R (u2 (g_cho0 σ) 9000 5 (-1))) 0 0) 9000 20 = nI 1 from ((((fr2_Cpick _ _ (q := 0)).2).trans (congrFun (hP55.2 _ (by omega)) 20)).trans rfl)), (fun _ _ => rfl)⟩) (fun hP138 => ?_)
            · refine sw_iload_n O (xx_dt dd_X10_init 74 rfl) rfl ?_
              refine sw_aload_n O (xx_dt dd_X10_init 75 rfl) rfl ?_
              refine sw_get (v := .ref 9003) O (xx_dt dd_X10_init 76 rfl) cl_X10 fl_X10_22 (lm_9000 (σ := s138) (fl1 ((((congrFun (hP138.2 _ (by omega)) 20).trans ((fr2_Cpick _ _ (q := 0)).2)).trans (congrFun (hP55.2 _ (by omega)) 20)).trans rfl))) (by decide) rfl ?_
              refine sw_alen O (xx_dt dd_X10_init 77 rfl) (by omega) (by omega) ((im_9003 (z := z) (σ := s138) ((((congrFun (hP138.2 _ (by omega)) 20).trans ((fr2_Cpick _ _ (q := 0)).2)).trans (congrFun (hP55.2 _ (by omega)) 20)).trans rfl)).get _) ?_
              refine sw_icmp_ge (tgt := 203) O (xx_dt dd_X10_init 78 rfl) (by decide) (fun q5 => ?_) (fun q5 => ?_)
              · exact absurd q5 (nI_ge (b := 64) hi138 (by omega))
              · refine sw_iconst (x := 0) O (xx_dt dd_X10_init 79 rfl) (by decide) ?_
                refine sw_istore_n (ls2 := [.ref 9000, .ref 5000, .int (nI i138), .int 0]) O (xx_dt dd_X10_init 80 rfl) (by decide) rfl ?_
                refine sw_for (S := XS9) (fun i149 s149 => (if (((nI i138) >>> ((nI i149) &&& 31)) &&& 1) = 1 then u2 s149 9003 i138 (if (s149 9003 i138) < (s149 9003 (bclr i138 i149)) then (s149 9003 (bclr i138 i149)) else (s149 9003 i138)) else s149)) (fun _ s149 => s149 9000 20 = nI 1 ∧ (∀ q, q ≠ 9003 → s149 q = s138 q)) (hp := fun s149 => setM z s149 h) (hd := 149) (lc := fun i149 s149 => [.ref 9000, .ref 5000, .int (nI i138), .int (nI i149)]) (N := 6) (fun i149 s149 hi149 hP149 => ⟨(by (try dsimp only); (repeat' split) <;> (refine ⟨?_, ?_⟩ <;> (first | exact hP149.1 | exact hP149.2 | exact (fun q9 hq9 => by (simp (disch := omega) only [u2_ne, uR_ne, fr_fill, fr_Ctake, fx_CinitA_149]); exact hP149.2 q9 hq9) | exact hi149 | exact .inl rfl | exact .inr rfl | (simp (disch := omega) only [u2_ne, uR_ne, fr_fill, fr_Ctake, fx_CinitA_149]; first | exact hP149.1 | exact hP149.2 | exact (fun q9 hq9 => by (simp (disch := omega) only [u2_ne, uR_ne, fr_fill, fr_Ctake, fx_CinitA_149]); exact hP149.2 q9 hq9))))), fun kk149 => ?_⟩) 6 0 s138 (by omega) (⟨(show s138 9000 20 = nI 1 from ((((congrFun (hP138.2 _ (by omega)) 20).trans ((fr2_Cpick _ _ (q := 0)).2)).trans (congrFun (hP55.2 _ (by omega)) 20)).trans rfl)), (fun _ _ => rfl)⟩) (fun hP149 => ?_)
                · refine sw_iload_n O (xx_dt dd_X10_init 81 rfl) rfl ?_
                  refine sw_bipush (x := 6) O (xx_dt dd_X10_init 82 rfl) (by decide) ?_
                  refine sw_icmp_ge (tgt := 197) O (xx_dt dd_X10_init 83 rfl) (by decide) (fun q6 => ?_) (fun q6 => ?_)
                  · exact absurd q6 (nI_ge (b := 6) hi149 (by omega))
                  · refine sw_iload_n O (xx_dt dd_X10_init 84 rfl) rfl ?_
                    refine sw_iload_n O (xx_dt dd_X10_init 85 rfl) rfl ?_
                    refine sw_ishr O (xx_dt dd_X10_init 86 rfl) ?_
                    refine sw_iconst (x := 1) O (xx_dt dd_X10_init 87 rfl) (by decide) ?_
                    refine sw_iand O (xx_dt dd_X10_init 88 rfl) ?_
                    refine sw_iconst (x := 1) O (xx_dt dd_X10_init 89 rfl) (by decide) ?_
                    refine sw_icmp_ne (tgt := 191) O (xx_dt dd_X10_init 90 rfl) (by decide) (fun q7 => ?_) (fun q7 => ?_)
                    · refine sw_iinc (y := nI (i149 + 1)) (ls2 := [.ref 9000, .ref 5000, .int (nI i138), .int (nI (i149 + 1))]) O (xx_dt dd_X10_init 110 rfl) rfl (nI_1 _) (by decide) rfl ?_
                      refine sw_goto (tgt := 149) O (xx_dt dd_X10_init 111 rfl) (by decide) ?_
                      simp only [if_neg q7] at kk149
                      exact kk149
                    · refine sw_aload_n O (xx_dt dd_X10_init 91 rfl) rfl ?_
                      refine sw_get (v := .ref 9003) O (xx_dt dd_X10_init 92 rfl) cl_X10 fl_X10_22 (lm_9000 (σ := s149) (fl1 (((((congrFun (hP149.2 _ (by omega)) 20).trans (congrFun (hP138.2 _ (by omega)) 20)).trans ((fr2_Cpick _ _ (q := 0)).2)).trans (congrFun (hP55.2 _ (by omega)) 20)).trans rfl))) (by decide) rfl ?_
                      refine sw_iload_n O (xx_dt dd_X10_init 93 rfl) rfl ?_
                      refine sw_aload_n O (xx_dt dd_X10_init 94 rfl) rfl ?_
                      refine sw_get (v := .ref 9003) O (xx_dt dd_X10_init 95 rfl) cl_X10 fl_X10_22 (lm_9000 (σ := s149) (fl1 (((((congrFun (hP149.2 _ (by omega)) 20).trans (congrFun (hP138.2 _ (by omega)) 20)).trans ((fr2_Cpick _ _ (q := 0)).2)).trans (congrFun (hP55.2 _ (by omega)) 20)).trans rfl))) (by decide) rfl ?_
                      refine sw_iload_n O (xx_dt dd_X10_init 96 rfl) rfl ?_
                      refine sw_iaload (v := .int (s149 9003 i138)) O (xx_dt dd_X10_init 97 rfl) ((im_9003 (z := z) (σ := s149) (((((congrFun (hP149.2 _ (by omega)) 20).trans (congrFun (hP138.2 _ (by omega)) 20)).trans ((fr2_Cpick _ _ (q := 0)).2)).trans (congrFun (hP55.2 _ (by omega)) 20)).trans rfl)).get _) (pk_in i138 _ (by omega)) (by rw [nI_clamp (by omega)]; try exact rfl) ?_
                      refine sw_aload_n O (xx_dt dd_X10_init 98 rfl) rfl ?_
                      refine sw_get (v := .ref 9003) O (xx_dt dd_X10_init 99 rfl) cl_X10 fl_X10_22 (lm_9000 (σ := s149) (fl1 (((((congrFun (hP149.2 _ (by omega)) 20).trans (congrFun (hP138.2 _ (by omega)) 20)).trans ((fr2_Cpick _ _ (q := 0)).2)).trans (congrFun (hP55.2 _ (by omega)) 20)).trans rfl))) (by decide) rfl ?_
                      refine sw_iload_n O (xx_dt dd_X10_init 100 rfl) rfl ?_
                      refine sw_iconst (x := 1) O (xx_dt dd_X10_init 101 rfl) (by decide) ?_
                      refine sw_iload_n O (xx_dt dd_X10_init 102 rfl) rfl ?_
                      refine sw_ishl O (xx_dt dd_X10_init 103 rfl) ?_
                      refine sw_iconst (x := (-1)) O (xx_dt dd_X10_init 104 rfl) (by decide) ?_
                      refine sw_ixor O (xx_dt dd_X10_init 105 rfl) ?_
                      refine sw_iand O (xx_dt dd_X10_init 106 rfl) ?_
                      have hx185 := bclr_lt (S := i138) (k := i149) (by omega)
                      rw [bclr_eq (S := i138) (k := i149) (by omega) (by omega)]
                      refine sw_iaload (v := .int (s149 9003 (bclr i138 i149))) O (xx_dt dd_X10_init 107 rfl) ((im_9003 (z := z) (σ := s149) (((((congrFun (hP149.2 _ (by omega)) 20).trans (congrFun (hP138.2 _ (by omega)) 20)).trans ((fr2_Cpick _ _ (q := 0)).2)).trans (congrFun (hP55.2 _ (by omega)) 20)).trans rfl)).get _) (pk_in (bclr i138 i149) _ (by omega)) (by rw [nI_clamp (by omega)]; try exact rfl) ?_
                      refine sw_max O mm_X10_61 (xx_dt dd_X10_init 108 rfl) (by omega) (Nat.le_of_ble_eq_true rfl) ?_
                      refine sw_iastore (h2 := setM z (u2 s149 9003 i138 (if (s149 9003 i138) < (s149 9003 (bclr i138 i149)) then (s149 9003 (bclr i138 i149)) else (s149 9003 i138))) h) O (xx_dt dd_X10_init 109 rfl) ((im_9003 (z := z) (σ := s149) (((((congrFun (hP149.2 _ (by omega)) 20).trans (congrFun (hP138.2 _ (by omega)) 20)).trans ((fr2_Cpick _ _ (q := 0)).2)).trans (congrFun (hP55.2 _ (by omega)) 20)).trans rfl)).get _) (pk_in i138 _ (by omega)) (by omega) (by rw [nI_clamp (by omega)]; exact ((im_9003 (z := z) (σ := s149) (((((congrFun (hP149.2 _ (by omega)) 20).trans (congrFun (hP138.2 _ (by omega)) 20)).trans ((fr2_Cpick _ _ (q := 0)).2)).trans (congrFun (hP55.2 _ (by omega)) 20)).trans rfl)).put (by omega))) ?_
                      refine sw_iinc (y := nI (i149 + 1)) (ls2 := [.ref 9000, .ref 5000, .int (nI i138), .int (nI (i149 + 1))]) O (xx_dt dd_X10_init 110 rfl) rfl (nI_1 _) (by decide) rfl ?_
                      refine sw_goto (tgt := 149) O (xx_dt dd_X10_init 111 rfl) (by decide) ?_
                      simp only [if_pos q7] at kk149
                      exact kk149
                · show SW Y _ _ (setM z (x_CinitA_149 σ i138 s138) h) 149 [.ref 9000, .ref 5000, .int (nI i138), .int (nI 6)] []
                  have hP149 : (x_CinitA_149 σ i138 s138) 9000 20 = nI 1 ∧ (∀ q, q ≠ 9003 → (x_CinitA_149 σ i138 s138) q = s138 q) := hP149
                  refine sw_iload_n O (xx_dt dd_X10_init 81 rfl) rfl ?_
                  refine sw_bipush (x := 6) O (xx_dt dd_X10_init 82 rfl) (by decide) ?_
                  refine sw_icmp_ge (tgt := 197) O (xx_dt dd_X10_init 83 rfl) (by decide) (fun q6 => ?_) (fun q6 => ?_)
                  · refine sw_iinc (y := nI (i138 + 1)) (ls2 := [.ref 9000, .ref 5000, .int (nI (i138 + 1)), .int (nI 6)]) O (xx_dt dd_X10_init 112 rfl) rfl (nI_1 _) (by decide) rfl ?_
                    refine sw_goto (tgt := 138) O (xx_dt dd_X10_init 113 rfl) (by decide) ?_
                    refine sw_dum (ls2 := [.ref 9000, .ref 5000, .int (nI (i138 + 1)), xx_d]) ⟨.inr rfl, .inr rfl, .inr rfl, .inl rfl, trivial⟩ ?_
                    exact kk138
                  · exact absurd (Int32.le_refl _) q6
            · show SW Y _ _ (setM z (x_CinitA_138 σ (g_Cpick B pk gr cd B 0 (x_CinitA_55 σ R (u2 (g_cho0 σ) 9000 5 (-1))) 0 0)) h) 138 [.ref 9000, .ref 5000, .int (nI 64), xx_d] []
              have hP138 : (x_CinitA_138 σ (g_Cpick B pk gr cd B 0 (x_CinitA_55 σ R (u2 (g_cho0 σ) 9000 5 (-1))) 0 0)) 9000 20 = nI 1 ∧ (∀ q, q ≠ 9003 → (x_CinitA_138 σ (g_Cpick B pk gr cd B 0 (x_CinitA_55 σ R (u2 (g_cho0 σ) 9000 5 (-1))) 0 0)) q = (g_Cpick B pk gr cd B 0 (x_CinitA_55 σ R (u2 (g_cho0 σ) 9000 5 (-1))) 0 0) q) := hP138
              refine sw_iload_n O (xx_dt dd_X10_init 74 rfl) rfl ?_
              refine sw_aload_n O (xx_dt dd_X10_init 75 rfl) rfl ?_
              refine sw_get (v := .ref 9003) O (xx_dt dd_X10_init 76 rfl) cl_X10 fl_X10_22 (lm_9000 (σ := (x_CinitA_138 σ (g_Cpick B pk gr cd B 0 (x_CinitA_55 σ R (u2 (g_cho0 σ) 9000 5 (-1))) 0 0))) (fl1 ((((congrFun (hP138.2 _ (by omega)) 20).trans ((fr2_Cpick _ _ (q := 0)).2)).trans (congrFun (hP55.2 _ (by omega)) 20)).trans rfl))) (by decide) rfl ?_
              refine sw_alen O (xx_dt dd_X10_init 77 rfl) (by omega) (by omega) ((im_9003 (z := z) (σ := (x_CinitA_138 σ (g_Cpick B pk gr cd B 0 (x_CinitA_55 σ R (u2 (g_cho0 σ) 9000 5 (-1))) 0 0))) ((((congrFun (hP138.2 _ (by omega)) 20).trans ((fr2_Cpick _ _ (q := 0)).2)).trans (congrFun (hP55.2 _ (by omega)) 20)).trans rfl)).get _) ?_
              refine sw_icmp_ge (tgt := 203) O (xx_dt dd_X10_init 78 rfl) (by decide) (fun q5 => ?_) (fun q5 => ?_)
              · exact sw_ret O (xx_dt dd_X10_init 114 rfl) rfl (by rw [hQ]; exact ⟨rfl, by unfold g_CinitA; rfl⟩)
              · exact absurd (Int32.le_refl _) q5
          · exact absurd (Int32.le_refl _) q3
    · exact absurd (Int32.le_refl _) q1
def x_CinitB_55 (σ : XS9) (R : Nat) (s0 : XS9) : XS9 := xit (fun i55 s55 => u2 s55 9004 i55 (σ (5010 + i55) 0)) R 0 s0
def x_CinitB_109 (σ : XS9) (s0 : XS9) : XS9 := xit (fun i109 s109 => u2 s109 9001 i109 (-1)) 6 0 s0
def x_CinitB_149 (σ : XS9) (i138 : Nat) (s0 : XS9) : XS9 := xit (fun i149 s149 => (if (((nI i138) >>> ((nI i149) &&& 31)) &&& 1) = 1 then u2 s149 9003 i138 (if (s149 9003 i138) < (s149 9003 (bclr i138 i149)) then (s149 9003 (bclr i138 i149)) else (s149 9003 i138)) else s149)) 6 0 s0
theorem fx_CinitB_149 {σ : XS9} {i138 : Nat} {s0 : XS9} {q : Nat} (h : q ≠ 9003) : x_CinitB_149 σ i138 s0 q = s0 q := xit_keep (fun s : XS9 => s q) (fun i s => by (try dsimp only); (repeat' split) <;> first | rfl | simp (disch := omega) only [u2_ne]) _ _ _
def x_CinitB_138 (σ : XS9) (s0 : XS9) : XS9 := xit (fun i138 s138 => (x_CinitB_149 σ i138 s138)) 64 0 s0
def g_CinitB (σ : XS9) (R B : Nat) (pk gr : Nat → Nat) (cd : Nat → Nat → Nat) : XS9 := (x_CinitB_138 σ (x_CinitB_109 σ (x_CinitB_55 σ R (u2 (g_cho0 σ) 9000 5 (-1)))))
theorem ct_CinitB {l : Launch} {h : XH} (hl : l.stackTraces = false) {z : Int64} {σ : XS9} (hbs : xx_bs h) (hfr : ∀ r, 5000 ≤ r → r < 20010 → h r = none) (hc0 : σ 9000 20 = 0) {R : Nat} (hR : σ 5001 900 = nI R) (hR5 : R ≤ 5) {B : Nat} (hB : σ 5002 900 = nI B) (hB6 : B ≤ 6) {pk : Nat → Nat} (hpk : ∀ j, j < B → σ (5030 + j) 900 = nI (2 * pk j) ∧ pk j ≤ 6) {gr : Nat → Nat} (hgr : ∀ j, j < B → σ (5020 + j) 3 = nI (gr j) ∧ gr j < 4) {cd : Nat → Nat → Nat} (hcd : ∀ j k, j < B → k < pk j → σ (5030 + j) (2 * k) = nI (cd j k) ∧ cd j k < 7776) (hst : σ 5000 1 ≤ 1) (hst2 : ¬ (2 : Int32) ≤ σ 5000 1) : XEx l m_X10_init 20 5 101 [.ref 9000, .ref 5000] (xx_up (setM z σ h) 9000 (16, 7, fun j => defaultValue (tyX10 j))) none (setM z (g_CinitB σ R B pk gr cd) h) := by
  refine XMet.of hl rfl rfl (Nat.le_of_ble_eq_true rfl) (fun Y O hh hQ => ?_)
  show SW Y 5 101 (xx_up (setM z σ h) 9000 (16, 7, fun j => defaultValue (tyX10 j))) 0 [.ref 9000, .ref 5000, xx_d, xx_d] []
  refine sw_aload_n O (xx_dt dd_X10_init 0 rfl) rfl ?_
  refine sw_aload_n O (xx_dt dd_X10_init 1 rfl) rfl ?_
  refine sw_putF (h2 := xx_up (setM z σ h) 9000 (16, 7, updV (fun j => defaultValue (tyX10 j)) 6 (.ref 5000))) O (xx_dt dd_X10_init 2 rfl) cl_X10 fz_X10_3 (xx_up_eq _ _ _) (by decide) (by omega) rfl rfl (fun _ => ⟨rfl, rfl⟩) xx_up_up ?_
  refine sw_aload_n O (xx_dt dd_X10_init 3 rfl) rfl ?_
  refine sw_objInit O oi_X10_9 (xx_dt dd_X10_init 4 rfl) (by omega) (Nat.le_of_ble_eq_true rfl) ?_
  refine sw_aload_n O (xx_dt dd_X10_init 5 rfl) rfl ?_
  refine sw_bipush (x := 6) O (xx_dt dd_X10_init 6 rfl) (by decide) ?_
  refine sw_newarray (k := 4) (n := 95) (t := 100) (N := 6) (r := 9001) O (xx_dt dd_X10_init 7 rfl) ⟨⟨by omega, by omega⟩, rfl⟩ ac_int (by first | decide | (have h9 := xx_nlt0 6 (by omega); exact h9)) (by first | rfl | exact nI_clamp (by omega)) (by show 6 * 4 ≤ _; omega) ((xx_up_ne (by omega)).trans ((setM_c0 hc0 (by omega)).trans (hfr 9001 (by omega) (by omega)))) (by omega) ?_
  rw [xx_blk_up, def0, xx_up_sw (by omega)]
  refine sw_putF (h2 := xx_up (xx_up (setM z σ h) 9001 (100, 6, fun _ => .int 0)) 9000 (16, 7, updV (updV (fun j => defaultValue (tyX10 j)) 6 (.ref 5000)) 0 (.ref 9001))) O (xx_dt dd_X10_init 8 rfl) cl_X10 fz_X10_15 (xx_up_eq _ _ _) (by decide) (by omega) rfl rfl (fun _ => ⟨rfl, rfl⟩) xx_up_up ?_
  refine sw_aload_n O (xx_dt dd_X10_init 9 rfl) rfl ?_
  refine sw_bipush (x := 6) O (xx_dt dd_X10_init 10 rfl) (by decide) ?_
  refine sw_newarray (k := 3) (n := 89) (t := 100) (N := 6) (r := 9002) O (xx_dt dd_X10_init 11 rfl) ⟨⟨by omega, by omega⟩, rfl⟩ ac_int (by first | decide | (have h9 := xx_nlt0 6 (by omega); exact h9)) (by first | rfl | exact nI_clamp (by omega)) (by show 6 * 4 ≤ _; omega) ((xx_up_ne (by omega)).trans ((xx_up_ne (by omega)).trans ((setM_c0 hc0 (by omega)).trans (hfr 9002 (by omega) (by omega))))) (by omega) ?_
  rw [xx_blk_up, def0, xx_up_sw (by omega)]
  refine sw_putF (h2 := xx_up (xx_up (xx_up (setM z σ h) 9001 (100, 6, fun _ => .int 0)) 9002 (100, 6, fun _ => .int 0)) 9000 (16, 7, updV (updV (updV (fun j => defaultValue (tyX10 j)) 6 (.ref 5000)) 0 (.ref 9001)) 1 (.ref 9002))) O (xx_dt dd_X10_init 12 rfl) cl_X10 fz_X10_19 (xx_up_eq _ _ _) (by decide) (by omega) rfl rfl (fun _ => ⟨rfl, rfl⟩) xx_up_up ?_
  refine sw_aload_n O (xx_dt dd_X10_init 13 rfl) rfl ?_
  refine sw_bipush (x := 64) O (xx_dt dd_X10_init 14 rfl) (by decide) ?_
  refine sw_newarray (k := 2) (n := 25) (t := 100) (N := 64) (r := 9003) O (xx_dt dd_X10_init 15 rfl) ⟨⟨by omega, by omega⟩, rfl⟩ ac_int (by first | decide | (have h9 := xx_nlt0 64 (by omega); exact h9)) (by first | rfl | exact nI_clamp (by omega)) (by show 64 * 4 ≤ _; omega) ((xx_up_ne (by omega)).trans ((xx_up_ne (by omega)).trans ((xx_up_ne (by omega)).trans ((setM_c0 hc0 (by omega)).trans (hfr 9003 (by omega) (by omega)))))) (by omega) ?_
  rw [xx_blk_up, def0, xx_up_sw (by omega)]
  refine sw_putF (h2 := xx_up (xx_up (xx_up (xx_up (setM z σ h) 9001 (100, 6, fun _ => .int 0)) 9002 (100, 6, fun _ => .int 0)) 9003 (100, 64, fun _ => .int 0)) 9000 (16, 7, updV (updV (updV (updV (fun j => defaultValue (tyX10 j)) 6 (.ref 5000)) 0 (.ref 9001)) 1 (.ref 9002)) 2 (.ref 9003))) O (xx_dt dd_X10_init 16 rfl) cl_X10 fz_X10_22 (xx_up_eq _ _ _) (by decide) (by omega) rfl rfl (fun _ => ⟨rfl, rfl⟩) xx_up_up ?_
  refine sw_aload_n O (xx_dt dd_X10_init 17 rfl) rfl ?_
  refine sw_iconst (x := 5) O (xx_dt dd_X10_init 18 rfl) (by decide) ?_
  refine sw_newarray (k := 1) (n := 20) (t := 100) (N := 5) (r := 9004) O (xx_dt dd_X10_init 19 rfl) ⟨⟨by omega, by omega⟩, rfl⟩ ac_int (by first | decide | (have h9 := xx_nlt0 5 (by omega); exact h9)) (by first | rfl | exact nI_clamp (by omega)) (by show 5 * 4 ≤ _; omega) ((xx_up_ne (by omega)).trans ((xx_up_ne (by omega)).trans ((xx_up_ne (by omega)).trans ((xx_up_ne (by omega)).trans ((setM_c0 hc0 (by omega)).trans (hfr 9004 (by omega) (by omega))))))) (by omega) ?_
  rw [xx_blk_up, def0, xx_up_sw (by omega)]
  refine sw_putF (h2 := xx_up (xx_up (xx_up (xx_up (xx_up (setM z σ h) 9001 (100, 6, fun _ => .int 0)) 9002 (100, 6, fun _ => .int 0)) 9003 (100, 64, fun _ => .int 0)) 9004 (100, 5, fun _ => .int 0)) 9000 (16, 7, updV (updV (updV (updV (updV (fun j => defaultValue (tyX10 j)) 6 (.ref 5000)) 0 (.ref 9001)) 1 (.ref 9002)) 2 (.ref 9003)) 3 (.ref 9004))) O (xx_dt dd_X10_init 20 rfl) cl_X10 fz_X10_25 (xx_up_eq _ _ _) (by decide) (by omega) rfl rfl (fun _ => ⟨rfl, rfl⟩) xx_up_up ?_
  refine sw_aload_n O (xx_dt dd_X10_init 21 rfl) rfl ?_
  refine sw_bipush (x := 20) O (xx_dt dd_X10_init 22 rfl) (by decide) ?_
  refine sw_newarray (k := 0) (n := 0) (t := 100) (N := 20) (r := 9005) O (xx_dt dd_X10_init 23 rfl) ⟨⟨by omega, by omega⟩, rfl⟩ ac_int (by first | decide | (have h9 := xx_nlt0 20 (by omega); exact h9)) (by first | rfl | exact nI_clamp (by omega)) (by show 20 * 4 ≤ _; omega) ((xx_up_ne (by omega)).trans ((xx_up_ne (by omega)).trans ((xx_up_ne (by omega)).trans ((xx_up_ne (by omega)).trans ((xx_up_ne (by omega)).trans ((setM_c0 hc0 (by omega)).trans (hfr 9005 (by omega) (by omega)))))))) (by omega) ?_
  rw [xx_blk_up, def0, xx_up_sw (by omega)]
  refine sw_putF (h2 := xx_up (xx_up (xx_up (xx_up (xx_up (xx_up (setM z σ h) 9001 (100, 6, fun _ => .int 0)) 9002 (100, 6, fun _ => .int 0)) 9003 (100, 64, fun _ => .int 0)) 9004 (100, 5, fun _ => .int 0)) 9005 (100, 20, fun _ => .int 0)) 9000 (16, 7, updV (updV (updV (updV (updV (updV (fun j => defaultValue (tyX10 j)) 6 (.ref 5000)) 0 (.ref 9001)) 1 (.ref 9002)) 2 (.ref 9003)) 3 (.ref 9004)) 4 (.ref 9005))) O (xx_dt dd_X10_init 24 rfl) cl_X10 fz_X10_28 (xx_up_eq _ _ _) (by decide) (by omega) rfl rfl (fun _ => ⟨rfl, rfl⟩) xx_up_up ?_
  refine sw_alter (F2 := cho_F) (xx_up_eq _ _ _) (fun j hj => by match j, hj with | 0, _ => rfl | 1, _ => rfl | 2, _ => rfl | 3, _ => rfl | 4, _ => rfl | 5, _ => rfl | 6, _ => rfl) ?_
  rw [xx_up_up, new_cho]
  refine sw_aload_n O (xx_dt dd_X10_init 25 rfl) rfl ?_
  refine sw_iconst (x := (-1)) O (xx_dt dd_X10_init 26 rfl) (by decide) ?_
  refine sw_put (h2 := setM z (u2 (g_cho0 σ) 9000 5 (-1)) h) O (xx_dt dd_X10_init 27 rfl) cl_X10 fl_X10_31 (lm_9000 (σ := g_cho0 σ) (fl1 rfl)) (by decide) (by omega) rfl (fun _ => ⟨rfl, rfl⟩) (pm_cho (σ := g_cho0 σ) rfl) ?_
  refine sw_iconst (x := 0) O (xx_dt dd_X10_init 28 rfl) (by decide) ?_
  refine sw_istore_n (ls2 := [.ref 9000, .ref 5000, .int 0, xx_d]) O (xx_dt dd_X10_init 29 rfl) (by decide) rfl ?_
  refine sw_for (S := XS9) (fun i55 s55 => u2 s55 9004 i55 (σ (5010 + i55) 0)) (fun _ s55 => s55 9000 20 = nI 1 ∧ (∀ q, q ≠ 9004 → s55 q = (u2 (g_cho0 σ) 9000 5 (-1)) q)) (hp := fun s55 => setM z s55 h) (hd := 55) (lc := fun i55 s55 => [.ref 9000, .ref 5000, .int (nI i55), xx_d]) (N := R) (fun i55 s55 hi55 hP55 => ⟨(by (try dsimp only); (repeat' split) <;> (refine ⟨?_, ?_⟩ <;> (first | exact hP55.1 | exact hP55.2 | exact (fun q9 hq9 => by (simp (disch := omega) only [u2_ne, uR_ne, fr_fill, fr_Ctake, fx_CinitB_149]); exact hP55.2 q9 hq9) | exact hi55 | exact .inl rfl | exact .inr rfl | (simp (disch := omega) only [u2_ne, uR_ne, fr_fill, fr_Ctake, fx_CinitB_149]; first | exact hP55.1 | exact hP55.2 | exact (fun q9 hq9 => by (simp (disch := omega) only [u2_ne, uR_ne, fr_fill, fr_Ctake, fx_CinitB_149]); exact hP55.2 q9 hq9))))), fun kk55 => ?_⟩) R 0 (u2 (g_cho0 σ) 9000 5 (-1)) (by omega) (⟨(show (u2 (g_cho0 σ) 9000 5 (-1)) 9000 20 = nI 1 from rfl), (fun _ _ => rfl)⟩) (fun hP55 => ?_)
  · refine sw_iload_n O (xx_dt dd_X10_init 30 rfl) rfl ?_
    refine sw_aload_n O (xx_dt dd_X10_init 31 rfl) rfl ?_
    refine sw_get (v := .ref 5001) O (xx_dt dd_X10_init 32 rfl) cl_X14 fl_X10_35 (lm_mod (σ := s55)) (by decide) rfl ?_
    refine sw_callVL (ci := 6) (as := []) (st := [.int (nI i55)]) (st2 := [.int (nI R), .int (nI i55)]) O (ct_AL_size hl (lm_5001 (σ := s55) (R := R) ((((congrFun (hP55.2 _ (by omega)) 900).trans (congrFun (u2_ne (by omega)) 900)).trans (congrFun (fr_cho0 (by omega)) 900)).trans hR) (by omega))) ce_Jx4a65c_size_8abf5 ml_X10_39 iv_Jx4a65c_size_8abf5 cl_Jx4a65c rfl (lm_5001 (σ := s55) (R := R) ((((congrFun (hP55.2 _ (by omega)) 900).trans (congrFun (u2_ne (by omega)) 900)).trans (congrFun (fr_cho0 (by omega)) 900)).trans hR) (by omega)) (xx_dt dd_X10_init 33 rfl) (by omega) rfl rfl (Nat.le_of_ble_eq_true rfl) rfl ?_
    refine sw_icmp_ge (tgt := 92) O (xx_dt dd_X10_init 34 rfl) (by decide) (fun q1 => ?_) (fun q1 => ?_)
    · exact absurd q1 (nI_ge (b := R) hi55 (by omega))
    · refine sw_aload_n O (xx_dt dd_X10_init 35 rfl) rfl ?_
      refine sw_get (v := .ref 9004) O (xx_dt dd_X10_init 36 rfl) cl_X10 fl_X10_25 (lm_9000 (σ := s55) (fl1 ((congrFun (hP55.2 _ (by omega)) 20).trans rfl))) (by decide) rfl ?_
      refine sw_iload_n O (xx_dt dd_X10_init 37 rfl) rfl ?_
      refine sw_aload_n O (xx_dt dd_X10_init 38 rfl) rfl ?_
      refine sw_get (v := .ref 5001) O (xx_dt dd_X10_init 39 rfl) cl_X14 fl_X10_35 (lm_mod (σ := s55)) (by decide) rfl ?_
      refine sw_iload_n O (xx_dt dd_X10_init 40 rfl) rfl ?_
      refine sw_callVL (ci := 6) (as := [.int (nI i55)]) (st := [.int (nI i55), .ref 9004]) (st2 := [.ref (5010 + i55), .int (nI i55), .ref 9004]) O (ct_get hl hbs (lm_5001 (σ := s55) (R := R) ((((congrFun (hP55.2 _ (by omega)) 900).trans (congrFun (u2_ne (by omega)) 900)).trans (congrFun (fr_cho0 (by omega)) 900)).trans hR) (by omega)) (by omega) (i := i55) (x := 5010 + i55) (by omega) (by omega) rfl) ce_Jx4a65c_get_915e3 ml_X10_45 iv_Jx4a65c_get_915e3 cl_Jx4a65c rfl (lm_5001 (σ := s55) (R := R) ((((congrFun (hP55.2 _ (by omega)) 900).trans (congrFun (u2_ne (by omega)) 900)).trans (congrFun (fr_cho0 (by omega)) 900)).trans hR) (by omega)) (xx_dt dd_X10_init 41 rfl) (by omega) rfl rfl (Nat.le_of_ble_eq_true rfl) rfl ?_
      refine sw_castO O (xx_dt dd_X10_init 42 rfl) cl_X12 (lm_reg (σ := s55) (R := R) ((((congrFun (hP55.2 _ (by omega)) 900).trans (congrFun (u2_ne (by omega)) 900)).trans (congrFun (fr_cho0 (by omega)) 900)).trans hR) (by omega) (j := i55) (by omega)) cw_X10_49 ?_
      refine sw_get (v := .int (σ (5010 + i55) 0)) O (xx_dt dd_X10_init 43 rfl) cl_X12 fl_X10_51 (lm_reg (σ := s55) (R := R) ((((congrFun (hP55.2 _ (by omega)) 900).trans (congrFun (u2_ne (by omega)) 900)).trans (congrFun (fr_cho0 (by omega)) 900)).trans hR) (by omega) (j := i55) (by omega)) (by decide) (congrArg Value.int (((congrFun (hP55.2 _ (by omega)) 0).trans (congrFun (u2_ne (by omega)) 0)).trans (congrFun (fr_cho0 (by omega)) 0))) ?_
      refine sw_iastore (h2 := setM z (u2 s55 9004 i55 (σ (5010 + i55) 0)) h) O (xx_dt dd_X10_init 44 rfl) ((im_9004 (z := z) (σ := s55) ((congrFun (hP55.2 _ (by omega)) 20).trans rfl)).get _) (pk_in i55 _ (by omega)) (by omega) (by rw [nI_clamp (by omega)]; exact ((im_9004 (z := z) (σ := s55) ((congrFun (hP55.2 _ (by omega)) 20).trans rfl)).put (by omega))) ?_
      refine sw_iinc (y := nI (i55 + 1)) (ls2 := [.ref 9000, .ref 5000, .int (nI (i55 + 1)), xx_d]) O (xx_dt dd_X10_init 45 rfl) rfl (nI_1 _) (by decide) rfl ?_
      refine sw_goto (tgt := 55) O (xx_dt dd_X10_init 46 rfl) (by decide) ?_
      exact kk55
  · show SW Y _ _ (setM z (x_CinitB_55 σ R (u2 (g_cho0 σ) 9000 5 (-1))) h) 55 [.ref 9000, .ref 5000, .int (nI R), xx_d] []
    have hP55 : (x_CinitB_55 σ R (u2 (g_cho0 σ) 9000 5 (-1))) 9000 20 = nI 1 ∧ (∀ q, q ≠ 9004 → (x_CinitB_55 σ R (u2 (g_cho0 σ) 9000 5 (-1))) q = (u2 (g_cho0 σ) 9000 5 (-1)) q) := hP55
    refine sw_iload_n O (xx_dt dd_X10_init 30 rfl) rfl ?_
    refine sw_aload_n O (xx_dt dd_X10_init 31 rfl) rfl ?_
    refine sw_get (v := .ref 5001) O (xx_dt dd_X10_init 32 rfl) cl_X14 fl_X10_35 (lm_mod (σ := (x_CinitB_55 σ R (u2 (g_cho0 σ) 9000 5 (-1))))) (by decide) rfl ?_
    refine sw_callVL (ci := 6) (as := []) (st := [.int (nI R)]) (st2 := [.int (nI R), .int (nI R)]) O (ct_AL_size hl (lm_5001 (σ := (x_CinitB_55 σ R (u2 (g_cho0 σ) 9000 5 (-1)))) (R := R) ((((congrFun (hP55.2 _ (by omega)) 900).trans (congrFun (u2_ne (by omega)) 900)).trans (congrFun (fr_cho0 (by omega)) 900)).trans hR) (by omega))) ce_Jx4a65c_size_8abf5 ml_X10_39 iv_Jx4a65c_size_8abf5 cl_Jx4a65c rfl (lm_5001 (σ := (x_CinitB_55 σ R (u2 (g_cho0 σ) 9000 5 (-1)))) (R := R) ((((congrFun (hP55.2 _ (by omega)) 900).trans (congrFun (u2_ne (by omega)) 900)).trans (congrFun (fr_cho0 (by omega)) 900)).trans hR) (by omega)) (xx_dt dd_X10_init 33 rfl) (by omega) rfl rfl (Nat.le_of_ble_eq_true rfl) rfl ?_
    refine sw_icmp_ge (tgt := 92) O (xx_dt dd_X10_init 34 rfl) (by decide) (fun q1 => ?_) (fun q1 => ?_)
    · refine sw_aload_n O (xx_dt dd_X10_init 47 rfl) rfl ?_
      refine sw_get (v := .int (σ 5000 1)) O (xx_dt dd_X10_init 48 rfl) cl_X14 fl_X10_54 (lm_mod (σ := (x_CinitB_55 σ R (u2 (g_cho0 σ) 9000 5 (-1))))) (by decide) (congrArg Value.int (((congrFun (hP55.2 _ (by omega)) 1).trans (congrFun (u2_ne (by omega)) 1)).trans (congrFun (fr_cho0 (by omega)) 1))) ?_
      refine sw_iconst (x := 1) O (xx_dt dd_X10_init 49 rfl) (by decide) ?_
      refine sw_icmp_le (tgt := 107) O (xx_dt dd_X10_init 50 rfl) (by decide) (fun q2 => ?_) (fun q2 => ?_)
      · refine sw_iconst (x := 0) O (xx_dt dd_X10_init 56 rfl) (by decide) ?_
        refine sw_istore_n (ls2 := [.ref 9000, .ref 5000, .int 0, xx_d]) O (xx_dt dd_X10_init 57 rfl) (by decide) rfl ?_
        refine sw_for (S := XS9) (fun i109 s109 => u2 s109 9001 i109 (-1)) (fun _ s109 => s109 9000 20 = nI 1 ∧ (∀ q, q ≠ 9001 → s109 q = (x_CinitB_55 σ R (u2 (g_cho0 σ) 9000 5 (-1))) q)) (hp := fun s109 => setM z s109 h) (hd := 109) (lc := fun i109 s109 => [.ref 9000, .ref 5000, .int (nI i109), xx_d]) (N := 6) (fun i109 s109 hi109 hP109 => ⟨(by (try dsimp only); (repeat' split) <;> (refine ⟨?_, ?_⟩ <;> (first | exact hP109.1 | exact hP109.2 | exact (fun q9 hq9 => by (simp (disch := omega) only [u2_ne, uR_ne, fr_fill, fr_Ctake, fx_CinitB_149]); exact hP109.2 q9 hq9) | exact hi109 | exact .inl rfl | exact .inr rfl | (simp (disch := omega) only [u2_ne, uR_ne, fr_fill, fr_Ctake, fx_CinitB_149]; first | exact hP109.1 | exact hP109.2 | exact (fun q9 hq9 => by (simp (disch := omega) only [u2_ne, uR_ne, fr_fill, fr_Ctake, fx_CinitB_149]); exact hP109.2 q9 hq9))))), fun kk109 => ?_⟩) 6 0 (x_CinitB_55 σ R (u2 (g_cho0 σ) 9000 5 (-1))) (by omega) (⟨(show (x_CinitB_55 σ R (u2 (g_cho0 σ) 9000 5 (-1))) 9000 20 = nI 1 from ((congrFun (hP55.2 _ (by omega)) 20).trans rfl)), (fun _ _ => rfl)⟩) (fun hP109 => ?_)
        · refine sw_iload_n O (xx_dt dd_X10_init 58 rfl) rfl ?_
          refine sw_bipush (x := 6) O (xx_dt dd_X10_init 59 rfl) (by decide) ?_
          refine sw_icmp_ge (tgt := 136) O (xx_dt dd_X10_init 60 rfl) (by decide) (fun q3 => ?_) (fun q3 => ?_)
          · exact absurd q3 (nI_ge (b := 6) hi109 (by omega))
          · refine sw_aload_n O (xx_dt dd_X10_init 61 rfl) rfl ?_
            refine sw_get (v := .int (σ 5000 1)) O (xx_dt dd_X10_init 62 rfl) cl_X14 fl_X10_54 (lm_mod (σ := s109)) (by decide) (congrArg Value.int ((((congrFun (hP109.2 _ (by omega)) 1).trans (congrFun (hP55.2 _ (by omega)) 1)).trans (congrFun (u2_ne (by omega)) 1)).trans (congrFun (fr_cho0 (by omega)) 1))) ?_
            refine sw_iconst (x := 2) O (xx_dt dd_X10_init 63 rfl) (by decide) ?_
            refine sw_icmp_ge (tgt := 130) O (xx_dt dd_X10_init 64 rfl) (by decide) (fun q4 => ?_) (fun q4 => ?_)
            · exact absurd q4 hst2
            · refine sw_aload_n O (xx_dt dd_X10_init 65 rfl) rfl ?_
              refine sw_get (v := .ref 9001) O (xx_dt dd_X10_init 66 rfl) cl_X10 fl_X10_15 (lm_9000 (σ := s109) (fl1 (((congrFun (hP109.2 _ (by omega)) 20).trans (congrFun (hP55.2 _ (by omega)) 20)).trans rfl))) (by decide) rfl ?_
              refine sw_iload_n O (xx_dt dd_X10_init 67 rfl) rfl ?_
              refine sw_iconst (x := (-1)) O (xx_dt dd_X10_init 68 rfl) (by decide) ?_
              refine sw_iastore (h2 := setM z (u2 s109 9001 i109 (-1)) h) O (xx_dt dd_X10_init 69 rfl) ((im_9001 (z := z) (σ := s109) (((congrFun (hP109.2 _ (by omega)) 20).trans (congrFun (hP55.2 _ (by omega)) 20)).trans rfl)).get _) (pk_in i109 _ (by omega)) (by omega) (by rw [nI_clamp (by omega)]; exact ((im_9001 (z := z) (σ := s109) (((congrFun (hP109.2 _ (by omega)) 20).trans (congrFun (hP55.2 _ (by omega)) 20)).trans rfl)).put (by omega))) ?_
              refine sw_iinc (y := nI (i109 + 1)) (ls2 := [.ref 9000, .ref 5000, .int (nI (i109 + 1)), xx_d]) O (xx_dt dd_X10_init 70 rfl) rfl (nI_1 _) (by decide) rfl ?_
              refine sw_goto (tgt := 109) O (xx_dt dd_X10_init 71 rfl) (by decide) ?_
              exact kk109
        · show SW Y _ _ (setM z (x_CinitB_109 σ (x_CinitB_55 σ R (u2 (g_cho0 σ) 9000 5 (-1)))) h) 109 [.ref 9000, .ref 5000, .int (nI 6), xx_d] []
          have hP109 : (x_CinitB_109 σ (x_CinitB_55 σ R (u2 (g_cho0 σ) 9000 5 (-1)))) 9000 20 = nI 1 ∧ (∀ q, q ≠ 9001 → (x_CinitB_109 σ (x_CinitB_55 σ R (u2 (g_cho0 σ) 9000 5 (-1)))) q = (x_CinitB_55 σ R (u2 (g_cho0 σ) 9000 5 (-1))) q) := hP109
          refine sw_iload_n O (xx_dt dd_X10_init 58 rfl) rfl ?_
          refine sw_bipush (x := 6) O (xx_dt dd_X10_init 59 rfl) (by decide) ?_
          refine sw_icmp_ge (tgt := 136) O (xx_dt dd_X10_init 60 rfl) (by decide) (fun q3 => ?_) (fun q3 => ?_)
          · refine sw_iconst (x := 0) O (xx_dt dd_X10_init 72 rfl) (by decide) ?_
            refine sw_istore_n (ls2 := [.ref 9000, .ref 5000, .int 0, xx_d]) O (xx_dt dd_X10_init 73 rfl) (by decide) rfl ?_
            refine sw_for (S := XS9) (fun i138 s138 => (x_CinitB_149 σ i138 s138)) (fun _ s138 => s138 9000 20 = nI 1 ∧ (∀ q, q ≠ 9003 → s138 q = (x_CinitB_109 σ (x_CinitB_55 σ R (u2 (g_cho0 σ) 9000 5 (-1)))) q)) (hp := fun s138 => setM z s138 h) (hd := 138) (lc := fun i138 s138 => [.ref 9000, .ref 5000, .int (nI i138), xx_d]) (N := 64) (fun i138 s138 hi138 hP138 => ⟨(by (try dsimp only); (repeat' split) <;> (refine ⟨?_, ?_⟩ <;> (first | exact hP138.1 | exact hP138.2 | exact (fun q9 hq9 => by (simp (disch := omega) only [u2_ne, uR_ne, fr_fill, fr_Ctake, fx_CinitB_149]); exact hP138.2 q9 hq9) | exact hi138 | exact .inl rfl | exact .inr rfl | (simp (disch := omega) only [u2_ne, uR_ne, fr_fill, fr_Ctake, fx_CinitB_149]; first | exact hP138.1 | exact hP138.2 | exact (fun q9 hq9 => by (simp (disch := omega) only [u2_ne, uR_ne, fr_fill, fr_Ctake, fx_CinitB_149]); exact hP138.2 q9 hq9))))), fun kk138 => ?_⟩) 64 0 (x_CinitB_109 σ (x_CinitB_55 σ R (u2 (g_cho0 σ) 9000 5 (-1)))) (by omega) (⟨(show (x_CinitB_109 σ (x_CinitB_55 σ R (u2 (g_cho0 σ) 9000 5 (-1)))) 9000 20 = nI 1 from (((congrFun (hP109.2 _ (by omega)) 20).trans (congrFun (hP55.2 _ (by omega)) 20)).trans rfl)), (fun _ _ => rfl)⟩) (fun hP138 => ?_)
            · refine sw_iload_n O (xx_dt dd_X10_init 74 rfl) rfl ?_
              refine sw_aload_n O (xx_dt dd_X10_init 75 rfl) rfl ?_
              refine sw_get (v := .ref 9003) O (xx_dt dd_X10_init 76 rfl) cl_X10 fl_X10_22 (lm_9000 (σ := s138) (fl1 ((((congrFun (hP138.2 _ (by omega)) 20).trans (congrFun (hP109.2 _ (by omega)) 20)).trans (congrFun (hP55.2 _ (by omega)) 20)).trans rfl))) (by decide) rfl ?_
              refine sw_alen O (xx_dt dd_X10_init 77 rfl) (by omega) (by omega) ((im_9003 (z := z) (σ := s138) ((((congrFun (hP138.2 _ (by omega)) 20).trans (congrFun (hP109.2 _ (by omega)) 20)).trans (congrFun (hP55.2 _ (by omega)) 20)).trans rfl)).get _) ?_
              refine sw_icmp_ge (tgt := 203) O (xx_dt dd_X10_init 78 rfl) (by decide) (fun q5 => ?_) (fun q5 => ?_)
              · exact absurd q5 (nI_ge (b := 64) hi138 (by omega))
              · refine sw_iconst (x := 0) O (xx_dt dd_X10_init 79 rfl) (by decide) ?_
                refine sw_istore_n (ls2 := [.ref 9000, .ref 5000, .int (nI i138), .int 0]) O (xx_dt dd_X10_init 80 rfl) (by decide) rfl ?_
                refine sw_for (S := XS9) (fun i149 s149 => (if (((nI i138) >>> ((nI i149) &&& 31)) &&& 1) = 1 then u2 s149 9003 i138 (if (s149 9003 i138) < (s149 9003 (bclr i138 i149)) then (s149 9003 (bclr i138 i149)) else (s149 9003 i138)) else s149)) (fun _ s149 => s149 9000 20 = nI 1 ∧ (∀ q, q ≠ 9003 → s149 q = s138 q)) (hp := fun s149 => setM z s149 h) (hd := 149) (lc := fun i149 s149 => [.ref 9000, .ref 5000, .int (nI i138), .int (nI i149)]) (N := 6) (fun i149 s149 hi149 hP149 => ⟨(by (try dsimp only); (repeat' split) <;> (refine ⟨?_, ?_⟩ <;> (first | exact hP149.1 | exact hP149.2 | exact (fun q9 hq9 => by (simp (disch := omega) only [u2_ne, uR_ne, fr_fill, fr_Ctake, fx_CinitB_149]); exact hP149.2 q9 hq9) | exact hi149 | exact .inl rfl | exact .inr rfl | (simp (disch := omega) only [u2_ne, uR_ne, fr_fill, fr_Ctake, fx_CinitB_149]; first | exact hP149.1 | exact hP149.2 | exact (fun q9 hq9 => by (simp (disch := omega) only [u2_ne, uR_ne, fr_fill, fr_Ctake, fx_CinitB_149]); exact hP149.2 q9 hq9))))), fun kk149 => ?_⟩) 6 0 s138 (by omega) (⟨(show s138 9000 20 = nI 1 from ((((congrFun (hP138.2 _ (by omega)) 20).trans (congrFun (hP109.2 _ (by omega)) 20)).trans (congrFun (hP55.2 _ (by omega)) 20)).trans rfl)), (fun _ _ => rfl)⟩) (fun hP149 => ?_)
                · refine sw_iload_n O (xx_dt dd_X10_init 81 rfl) rfl ?_
                  refine sw_bipush (x := 6) O (xx_dt dd_X10_init 82 rfl) (by decide) ?_
                  refine sw_icmp_ge (tgt := 197) O (xx_dt dd_X10_init 83 rfl) (by decide) (fun q6 => ?_) (fun q6 => ?_)
                  · exact absurd q6 (nI_ge (b := 6) hi149 (by omega))
                  · refine sw_iload_n O (xx_dt dd_X10_init 84 rfl) rfl ?_
                    refine sw_iload_n O (xx_dt dd_X10_init 85 rfl) rfl ?_
                    refine sw_ishr O (xx_dt dd_X10_init 86 rfl) ?_
                    refine sw_iconst (x := 1) O (xx_dt dd_X10_init 87 rfl) (by decide) ?_
                    refine sw_iand O (xx_dt dd_X10_init 88 rfl) ?_
                    refine sw_iconst (x := 1) O (xx_dt dd_X10_init 89 rfl) (by decide) ?_
                    refine sw_icmp_ne (tgt := 191) O (xx_dt dd_X10_init 90 rfl) (by decide) (fun q7 => ?_) (fun q7 => ?_)
                    · refine sw_iinc (y := nI (i149 + 1)) (ls2 := [.ref 9000, .ref 5000, .int (nI i138), .int (nI (i149 + 1))]) O (xx_dt dd_X10_init 110 rfl) rfl (nI_1 _) (by decide) rfl ?_
                      refine sw_goto (tgt := 149) O (xx_dt dd_X10_init 111 rfl) (by decide) ?_
                      simp only [if_neg q7] at kk149
                      exact kk149
                    · refine sw_aload_n O (xx_dt dd_X10_init 91 rfl) rfl ?_
                      refine sw_get (v := .ref 9003) O (xx_dt dd_X10_init 92 rfl) cl_X10 fl_X10_22 (lm_9000 (σ := s149) (fl1 (((((congrFun (hP149.2 _ (by omega)) 20).trans (congrFun (hP138.2 _ (by omega)) 20)).trans (congrFun (hP109.2 _ (by omega)) 20)).trans (congrFun (hP55.2 _ (by omega)) 20)).trans rfl))) (by decide) rfl ?_
                      refine sw_iload_n O (xx_dt dd_X10_init 93 rfl) rfl ?_
                      refine sw_aload_n O (xx_dt dd_X10_init 94 rfl) rfl ?_
                      refine sw_get (v := .ref 9003) O (xx_dt dd_X10_init 95 rfl) cl_X10 fl_X10_22 (lm_9000 (σ := s149) (fl1 (((((congrFun (hP149.2 _ (by omega)) 20).trans (congrFun (hP138.2 _ (by omega)) 20)).trans (congrFun (hP109.2 _ (by omega)) 20)).trans (congrFun (hP55.2 _ (by omega)) 20)).trans rfl))) (by decide) rfl ?_
                      refine sw_iload_n O (xx_dt dd_X10_init 96 rfl) rfl ?_
                      refine sw_iaload (v := .int (s149 9003 i138)) O (xx_dt dd_X10_init 97 rfl) ((im_9003 (z := z) (σ := s149) (((((congrFun (hP149.2 _ (by omega)) 20).trans (congrFun (hP138.2 _ (by omega)) 20)).trans (congrFun (hP109.2 _ (by omega)) 20)).trans (congrFun (hP55.2 _ (by omega)) 20)).trans rfl)).get _) (pk_in i138 _ (by omega)) (by rw [nI_clamp (by omega)]; try exact rfl) ?_
                      refine sw_aload_n O (xx_dt dd_X10_init 98 rfl) rfl ?_
                      refine sw_get (v := .ref 9003) O (xx_dt dd_X10_init 99 rfl) cl_X10 fl_X10_22 (lm_9000 (σ := s149) (fl1 (((((congrFun (hP149.2 _ (by omega)) 20).trans (congrFun (hP138.2 _ (by omega)) 20)).trans (congrFun (hP109.2 _ (by omega)) 20)).trans (congrFun (hP55.2 _ (by omega)) 20)).trans rfl))) (by decide) rfl ?_
                      refine sw_iload_n O (xx_dt dd_X10_init 100 rfl) rfl ?_
                      refine sw_iconst (x := 1) O (xx_dt dd_X10_init 101 rfl) (by decide) ?_
                      refine sw_iload_n O (xx_dt dd_X10_init 102 rfl) rfl ?_
                      refine sw_ishl O (xx_dt dd_X10_init 103 rfl) ?_
                      refine sw_iconst (x := (-1)) O (xx_dt dd_X10_init 104 rfl) (by decide) ?_
                      refine sw_ixor O (xx_dt dd_X10_init 105 rfl) ?_
                      refine sw_iand O (xx_dt dd_X10_init 106 rfl) ?_
                      have hx185 := bclr_lt (S := i138) (k := i149) (by omega)
                      rw [bclr_eq (S := i138) (k := i149) (by omega) (by omega)]
                      refine sw_iaload (v := .int (s149 9003 (bclr i138 i149))) O (xx_dt dd_X10_init 107 rfl) ((im_9003 (z := z) (σ := s149) (((((congrFun (hP149.2 _ (by omega)) 20).trans (congrFun (hP138.2 _ (by omega)) 20)).trans (congrFun (hP109.2 _ (by omega)) 20)).trans (congrFun (hP55.2 _ (by omega)) 20)).trans rfl)).get _) (pk_in (bclr i138 i149) _ (by omega)) (by rw [nI_clamp (by omega)]; try exact rfl) ?_
                      refine sw_max O mm_X10_61 (xx_dt dd_X10_init 108 rfl) (by omega) (Nat.le_of_ble_eq_true rfl) ?_
                      refine sw_iastore (h2 := setM z (u2 s149 9003 i138 (if (s149 9003 i138) < (s149 9003 (bclr i138 i149)) then (s149 9003 (bclr i138 i149)) else (s149 9003 i138))) h) O (xx_dt dd_X10_init 109 rfl) ((im_9003 (z := z) (σ := s149) (((((congrFun (hP149.2 _ (by omega)) 20).trans (congrFun (hP138.2 _ (by omega)) 20)).trans (congrFun (hP109.2 _ (by omega)) 20)).trans (congrFun (hP55.2 _ (by omega)) 20)).trans rfl)).get _) (pk_in i138 _ (by omega)) (by omega) (by rw [nI_clamp (by omega)]; exact ((im_9003 (z := z) (σ := s149) (((((congrFun (hP149.2 _ (by omega)) 20).trans (congrFun (hP138.2 _ (by omega)) 20)).trans (congrFun (hP109.2 _ (by omega)) 20)).trans (congrFun (hP55.2 _ (by omega)) 20)).trans rfl)).put (by omega))) ?_
                      refine sw_iinc (y := nI (i149 + 1)) (ls2 := [.ref 9000, .ref 5000, .int (nI i138), .int (nI (i149 + 1))]) O (xx_dt dd_X10_init 110 rfl) rfl (nI_1 _) (by decide) rfl ?_
                      refine sw_goto (tgt := 149) O (xx_dt dd_X10_init 111 rfl) (by decide) ?_
                      simp only [if_pos q7] at kk149
                      exact kk149
                · show SW Y _ _ (setM z (x_CinitB_149 σ i138 s138) h) 149 [.ref 9000, .ref 5000, .int (nI i138), .int (nI 6)] []
                  have hP149 : (x_CinitB_149 σ i138 s138) 9000 20 = nI 1 ∧ (∀ q, q ≠ 9003 → (x_CinitB_149 σ i138 s138) q = s138 q) := hP149
                  refine sw_iload_n O (xx_dt dd_X10_init 81 rfl) rfl ?_
                  refine sw_bipush (x := 6) O (xx_dt dd_X10_init 82 rfl) (by decide) ?_
                  refine sw_icmp_ge (tgt := 197) O (xx_dt dd_X10_init 83 rfl) (by decide) (fun q6 => ?_) (fun q6 => ?_)
                  · refine sw_iinc (y := nI (i138 + 1)) (ls2 := [.ref 9000, .ref 5000, .int (nI (i138 + 1)), .int (nI 6)]) O (xx_dt dd_X10_init 112 rfl) rfl (nI_1 _) (by decide) rfl ?_
                    refine sw_goto (tgt := 138) O (xx_dt dd_X10_init 113 rfl) (by decide) ?_
                    refine sw_dum (ls2 := [.ref 9000, .ref 5000, .int (nI (i138 + 1)), xx_d]) ⟨.inr rfl, .inr rfl, .inr rfl, .inl rfl, trivial⟩ ?_
                    exact kk138
                  · exact absurd (Int32.le_refl _) q6
            · show SW Y _ _ (setM z (x_CinitB_138 σ (x_CinitB_109 σ (x_CinitB_55 σ R (u2 (g_cho0 σ) 9000 5 (-1))))) h) 138 [.ref 9000, .ref 5000, .int (nI 64), xx_d] []
              have hP138 : (x_CinitB_138 σ (x_CinitB_109 σ (x_CinitB_55 σ R (u2 (g_cho0 σ) 9000 5 (-1))))) 9000 20 = nI 1 ∧ (∀ q, q ≠ 9003 → (x_CinitB_138 σ (x_CinitB_109 σ (x_CinitB_55 σ R (u2 (g_cho0 σ) 9000 5 (-1))))) q = (x_CinitB_109 σ (x_CinitB_55 σ R (u2 (g_cho0 σ) 9000 5 (-1)))) q) := hP138
              refine sw_iload_n O (xx_dt dd_X10_init 74 rfl) rfl ?_
              refine sw_aload_n O (xx_dt dd_X10_init 75 rfl) rfl ?_
              refine sw_get (v := .ref 9003) O (xx_dt dd_X10_init 76 rfl) cl_X10 fl_X10_22 (lm_9000 (σ := (x_CinitB_138 σ (x_CinitB_109 σ (x_CinitB_55 σ R (u2 (g_cho0 σ) 9000 5 (-1)))))) (fl1 ((((congrFun (hP138.2 _ (by omega)) 20).trans (congrFun (hP109.2 _ (by omega)) 20)).trans (congrFun (hP55.2 _ (by omega)) 20)).trans rfl))) (by decide) rfl ?_
              refine sw_alen O (xx_dt dd_X10_init 77 rfl) (by omega) (by omega) ((im_9003 (z := z) (σ := (x_CinitB_138 σ (x_CinitB_109 σ (x_CinitB_55 σ R (u2 (g_cho0 σ) 9000 5 (-1)))))) ((((congrFun (hP138.2 _ (by omega)) 20).trans (congrFun (hP109.2 _ (by omega)) 20)).trans (congrFun (hP55.2 _ (by omega)) 20)).trans rfl)).get _) ?_
              refine sw_icmp_ge (tgt := 203) O (xx_dt dd_X10_init 78 rfl) (by decide) (fun q5 => ?_) (fun q5 => ?_)
              · exact sw_ret O (xx_dt dd_X10_init 114 rfl) rfl (by rw [hQ]; exact ⟨rfl, by unfold g_CinitB; rfl⟩)
              · exact absurd (Int32.le_refl _) q5
          · exact absurd (Int32.le_refl _) q3
      · exact absurd q2 (fun e => e hst)
    · exact absurd (Int32.le_refl _) q1
