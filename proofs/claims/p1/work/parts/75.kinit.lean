section
/-! ===== the reference: the constructor of a clock ===== -/
theorem noK_r {z : Int64} {σ : XS9} {h : XH} {b r : Nat} (hb : b = 7000 ∨ b = 8000) (h0 : σ b 20 = 0) (h1 : b ≤ r) (h2 : r < b + 1000) (hfr : ∀ r, 5000 ≤ r → r < 20010 → h r = none) : setM z σ h r = none := by
  obtain ⟨i, rfl⟩ : ∃ i, r = b + i := ⟨r - b, by omega⟩
  exact (setM_no (noq_K hb h0 (by omega) _)).trans (hfr _ (by omega) (by omega))
theorem setM_out0 {z : Int64} {σ : XS9} {h : XH} {f0 : Nat → Value} (e : h 0 = some (104, 0, f0)) : setM z σ h 0 = some (104, 0, f0) := (setM_out (by omega)).trans e
def x_Kinit_95 (σ : XS9) (b R : Nat) (s0 : XS9) : XS9 := xit (fun i95 s95 => u2 s95 (b + 1) i95 (σ (5010 + i95) 2)) R 0 s0
def x_Kinit_132 (σ : XS9) (b R B : Nat) (s0 : XS9) : XS9 := xit (fun i132 s132 => u2 (u2 s132 (b + 3) i132 (σ (5020 + i132) 1)) (b + 4) i132 2) B 0 s0
def g_Kinit (σ : XS9) (b R B : Nat) : XS9 := (x_Kinit_132 σ b R B (x_Kinit_95 σ b R (g_clk0 σ b)))
theorem ct_Kinit {l : Launch} {h : XH} (hl : l.stackTraces = false) {z : Int64} {σ : XS9} (hbs : xx_bs h) (hfr : ∀ r, 5000 ≤ r → r < 20010 → h r = none) {R : Nat} (hR : σ 5001 900 = nI R) (hR5 : R ≤ 5) {B : Nat} (hB : σ 5002 900 = nI B) (hB6 : B ≤ 6) {b : Nat} (hb : b = 7000 ∨ b = 8000) (h0 : σ b 20 = 0) : XEx l m_X11_init 8 9 47 [.ref b, .ref 5000] (xx_up (setM z σ h) b (17, 11, fun j => defaultValue (tyX11 j))) none (setM z (g_Kinit σ b R B) h) := by
  refine XMet.of hl rfl rfl (Nat.le_of_ble_eq_true rfl) (fun Y O hh hQ => ?_)
  obtain ⟨f0, hz0⟩ := hbs.1
  show SW Y 9 47 (xx_up (setM z σ h) b (17, 11, fun j => defaultValue (tyX11 j))) 0 [.ref b, .ref 5000, xx_d] []
  refine sw_aload_n O (xx_dt dd_X11_init 0 rfl) rfl ?_
  refine sw_aload_n O (xx_dt dd_X11_init 1 rfl) rfl ?_
  refine sw_putF (h2 := xx_up (setM z σ h) b (17, 11, updV (fun j => defaultValue (tyX11 j)) 10 (.ref 5000))) O (xx_dt dd_X11_init 2 rfl) cl_X11 fz_X11_3 (xx_up_eq _ _ _) (by decide) (by omega) rfl rfl (fun _ => ⟨rfl, rfl⟩) xx_up_up ?_
  refine sw_aload_n O (xx_dt dd_X11_init 3 rfl) rfl ?_
  refine sw_objInit O oi_X11_9 (xx_dt dd_X11_init 4 rfl) (by omega) (Nat.le_of_ble_eq_true rfl) ?_
  refine sw_aload_n O (xx_dt dd_X11_init 5 rfl) rfl ?_
  refine sw_aload_n O (xx_dt dd_X11_init 6 rfl) rfl ?_
  refine sw_get (v := .ref 5000) O (xx_dt dd_X11_init 7 rfl) cl_X11 fl_X11_3 (xx_up_eq _ _ _) (by decide) rfl ?_
  refine sw_get (v := .ref 5001) O (xx_dt dd_X11_init 8 rfl) cl_X14 fl_X11_15 ((xx_up_ne (by omega)).trans (lm_mod (σ := σ))) (by decide) rfl ?_
  refine sw_callVL (k' := 0) (n' := 0) (ci := 6) (as := []) (st := [.ref b]) (st2 := [.int (nI R), .ref b]) O (ct_AL_size hl ((xx_up_ne (by omega)).trans (lm_5001 (σ := σ) (R := R) hR (by omega)))) ce_Jx4a65c_size_8abf5 ml_X11_19 iv_Jx4a65c_size_8abf5 cl_Jx4a65c rfl ((xx_up_ne (by omega)).trans (lm_5001 (σ := σ) (R := R) hR (by omega))) (xx_dt dd_X11_init 9 rfl) (by omega) rfl rfl (Nat.le_of_ble_eq_true rfl) rfl ?_
  refine xx_wid (k' := 8 + 1) (n' := 42 + R) (by omega) (by omega) (sw_newarray (k := 8) (n := 42) (t := 100) (N := R) (r := b + 1) O (xx_dt dd_X11_init 10 rfl) ⟨⟨by omega, by omega⟩, rfl⟩ ac_int (by first | decide | (have h9 := xx_nlt0 R (by omega); exact h9)) (by first | rfl | exact nI_clamp (by omega)) (by show R * 4 ≤ _; omega) ((xx_up_ne (by omega)).trans (noK_r (r := b + 1) hb h0 (by omega) (by omega) hfr)) (by omega) ?_)
  rw [xx_blk_up, def0, xx_up_sw (by omega)]
  refine sw_putF (h2 := xx_up (xx_up (setM z σ h) (b + 1) (100, R, fun _ => .int 0)) b (17, 11, updV (updV (fun j => defaultValue (tyX11 j)) 10 (.ref 5000)) 0 (.ref (b + 1)))) O (xx_dt dd_X11_init 11 rfl) cl_X11 fz_X11_25 (xx_up_eq _ _ _) (by decide) (by omega) rfl rfl (fun _ => ⟨rfl, rfl⟩) xx_up_up ?_
  refine sw_aload_n O (xx_dt dd_X11_init 12 rfl) rfl ?_
  refine sw_callSx (k := 7) (n := 36) (k' := 1) (n' := 6) (as := []) (st := [.ref b]) (st2 := [.ref (b + 2), .ref b]) O (ct_codes hl (a := b + 2) ((xx_up_ne (by omega)).trans ((xx_up_ne (by omega)).trans (noK_r (r := b + 2) hb h0 (by omega) (by omega) hfr))) (by omega)) ce_X14_codes ml_X11_29 st_X14_codes (xx_dt dd_X11_init 13 rfl) (by omega) rfl rfl (Nat.le_of_ble_eq_true rfl) rfl ?_
  rw [xx_up_sw (by omega)]
  refine sw_put (h2 := xx_up (xx_up (xx_up (setM z σ h) (b + 1) (100, R, fun _ => .int 0)) (b + 2) (100, 6, fun _ => .int 0)) b (17, 11, updV (updV (updV (fun j => defaultValue (tyX11 j)) 10 (.ref 5000)) 0 (.ref (b + 1))) 1 (.ref (b + 2)))) O (xx_dt dd_X11_init 14 rfl) cl_X11 fl_X11_33 (xx_up_eq _ _ _) (by decide) (by omega) rfl (fun _ => ⟨rfl, rfl⟩) xx_up_up ?_
  refine sw_aload_n O (xx_dt dd_X11_init 15 rfl) rfl ?_
  refine sw_callSx (k := 6) (n := 30) (k' := 1) (n' := 6) (as := []) (st := [.ref b]) (st2 := [.ref (b + 500 + 0), .ref b]) O (ct_codes hl (a := b + 500 + 0) ((xx_up_ne (by omega)).trans ((xx_up_ne (by omega)).trans ((xx_up_ne (by omega)).trans (noK_r (r := b + 500 + 0) hb h0 (by omega) (by omega) hfr)))) (by omega)) ce_X14_codes ml_X11_29 st_X14_codes (xx_dt dd_X11_init 16 rfl) (by omega) rfl rfl (Nat.le_of_ble_eq_true rfl) rfl ?_
  rw [xx_up_sw (by omega)]
  refine sw_put (h2 := xx_up (xx_up (xx_up (xx_up (setM z σ h) (b + 1) (100, R, fun _ => .int 0)) (b + 2) (100, 6, fun _ => .int 0)) (b + 500 + 0) (100, 6, fun _ => .int 0)) b (17, 11, updV (updV (updV (updV (fun j => defaultValue (tyX11 j)) 10 (.ref 5000)) 0 (.ref (b + 1))) 1 (.ref (b + 2))) 2 (.ref (b + 500 + 0)))) O (xx_dt dd_X11_init 17 rfl) cl_X11 fl_X11_36 (xx_up_eq _ _ _) (by decide) (by omega) rfl (fun _ => ⟨rfl, rfl⟩) xx_up_up ?_
  refine sw_aload_n O (xx_dt dd_X11_init 18 rfl) rfl ?_
  refine sw_bipush (x := 6) O (xx_dt dd_X11_init 19 rfl) (by decide) ?_
  refine sw_newarray (k := 5) (n := 24) (t := 101) (N := 6) (r := b + 700 + 0) O (xx_dt dd_X11_init 20 rfl) ⟨⟨by omega, by omega⟩, rfl⟩ ac_boolean (by first | decide | (have h9 := xx_nlt0 6 (by omega); exact h9)) (by first | rfl | exact nI_clamp (by omega)) (by show 6 * 1 ≤ _; omega) ((xx_up_ne (by omega)).trans ((xx_up_ne (by omega)).trans ((xx_up_ne (by omega)).trans ((xx_up_ne (by omega)).trans (noK_r (r := b + 700 + 0) hb h0 (by omega) (by omega) hfr))))) (by omega) ?_
  rw [xx_blk_up, defZ0, xx_up_sw (by omega)]
  refine sw_put (h2 := xx_up (xx_up (xx_up (xx_up (xx_up (setM z σ h) (b + 1) (100, R, fun _ => .int 0)) (b + 2) (100, 6, fun _ => .int 0)) (b + 500 + 0) (100, 6, fun _ => .int 0)) (b + 700 + 0) (101, 6, fun _ => .int 0)) b (17, 11, updV (updV (updV (updV (updV (fun j => defaultValue (tyX11 j)) 10 (.ref 5000)) 0 (.ref (b + 1))) 1 (.ref (b + 2))) 2 (.ref (b + 500 + 0))) 3 (.ref (b + 700 + 0)))) O (xx_dt dd_X11_init 21 rfl) cl_X11 fl_X11_39 (xx_up_eq _ _ _) (by decide) (by omega) rfl (fun _ => ⟨rfl, rfl⟩) xx_up_up ?_
  refine sw_aload_n O (xx_dt dd_X11_init 22 rfl) rfl ?_
  refine sw_bipush (x := 6) O (xx_dt dd_X11_init 23 rfl) (by decide) ?_
  refine sw_newarray (k := 4) (n := 18) (t := 100) (N := 6) (r := b + 3) O (xx_dt dd_X11_init 24 rfl) ⟨⟨by omega, by omega⟩, rfl⟩ ac_int (by first | decide | (have h9 := xx_nlt0 6 (by omega); exact h9)) (by first | rfl | exact nI_clamp (by omega)) (by show 6 * 4 ≤ _; omega) ((xx_up_ne (by omega)).trans ((xx_up_ne (by omega)).trans ((xx_up_ne (by omega)).trans ((xx_up_ne (by omega)).trans ((xx_up_ne (by omega)).trans (noK_r (r := b + 3) hb h0 (by omega) (by omega) hfr)))))) (by omega) ?_
  rw [xx_blk_up, def0, xx_up_sw (by omega)]
  refine sw_putF (h2 := xx_up (xx_up (xx_up (xx_up (xx_up (xx_up (setM z σ h) (b + 1) (100, R, fun _ => .int 0)) (b + 2) (100, 6, fun _ => .int 0)) (b + 500 + 0) (100, 6, fun _ => .int 0)) (b + 700 + 0) (101, 6, fun _ => .int 0)) (b + 3) (100, 6, fun _ => .int 0)) b (17, 11, updV (updV (updV (updV (updV (updV (fun j => defaultValue (tyX11 j)) 10 (.ref 5000)) 0 (.ref (b + 1))) 1 (.ref (b + 2))) 2 (.ref (b + 500 + 0))) 3 (.ref (b + 700 + 0))) 4 (.ref (b + 3)))) O (xx_dt dd_X11_init 25 rfl) cl_X11 fz_X11_43 (xx_up_eq _ _ _) (by decide) (by omega) rfl rfl (fun _ => ⟨rfl, rfl⟩) xx_up_up ?_
  refine sw_aload_n O (xx_dt dd_X11_init 26 rfl) rfl ?_
  refine sw_bipush (x := 6) O (xx_dt dd_X11_init 27 rfl) (by decide) ?_
  refine sw_newarray (k := 3) (n := 12) (t := 100) (N := 6) (r := b + 4) O (xx_dt dd_X11_init 28 rfl) ⟨⟨by omega, by omega⟩, rfl⟩ ac_int (by first | decide | (have h9 := xx_nlt0 6 (by omega); exact h9)) (by first | rfl | exact nI_clamp (by omega)) (by show 6 * 4 ≤ _; omega) ((xx_up_ne (by omega)).trans ((xx_up_ne (by omega)).trans ((xx_up_ne (by omega)).trans ((xx_up_ne (by omega)).trans ((xx_up_ne (by omega)).trans ((xx_up_ne (by omega)).trans (noK_r (r := b + 4) hb h0 (by omega) (by omega) hfr))))))) (by omega) ?_
  rw [xx_blk_up, def0, xx_up_sw (by omega)]
  refine sw_putF (h2 := xx_up (xx_up (xx_up (xx_up (xx_up (xx_up (xx_up (setM z σ h) (b + 1) (100, R, fun _ => .int 0)) (b + 2) (100, 6, fun _ => .int 0)) (b + 500 + 0) (100, 6, fun _ => .int 0)) (b + 700 + 0) (101, 6, fun _ => .int 0)) (b + 3) (100, 6, fun _ => .int 0)) (b + 4) (100, 6, fun _ => .int 0)) b (17, 11, updV (updV (updV (updV (updV (updV (updV (fun j => defaultValue (tyX11 j)) 10 (.ref 5000)) 0 (.ref (b + 1))) 1 (.ref (b + 2))) 2 (.ref (b + 500 + 0))) 3 (.ref (b + 700 + 0))) 4 (.ref (b + 3))) 5 (.ref (b + 4)))) O (xx_dt dd_X11_init 29 rfl) cl_X11 fz_X11_46 (xx_up_eq _ _ _) (by decide) (by omega) rfl rfl (fun _ => ⟨rfl, rfl⟩) xx_up_up ?_
  refine sw_aload_n O (xx_dt dd_X11_init 30 rfl) rfl ?_
  refine sw_bipush (x := 6) O (xx_dt dd_X11_init 31 rfl) (by decide) ?_
  refine sw_newarray (k := 2) (n := 6) (t := 100) (N := 6) (r := b + 5) O (xx_dt dd_X11_init 32 rfl) ⟨⟨by omega, by omega⟩, rfl⟩ ac_int (by first | decide | (have h9 := xx_nlt0 6 (by omega); exact h9)) (by first | rfl | exact nI_clamp (by omega)) (by show 6 * 4 ≤ _; omega) ((xx_up_ne (by omega)).trans ((xx_up_ne (by omega)).trans ((xx_up_ne (by omega)).trans ((xx_up_ne (by omega)).trans ((xx_up_ne (by omega)).trans ((xx_up_ne (by omega)).trans ((xx_up_ne (by omega)).trans (noK_r (r := b + 5) hb h0 (by omega) (by omega) hfr)))))))) (by omega) ?_
  rw [xx_blk_up, def0, xx_up_sw (by omega)]
  refine sw_putF (h2 := xx_up (xx_up (xx_up (xx_up (xx_up (xx_up (xx_up (xx_up (setM z σ h) (b + 1) (100, R, fun _ => .int 0)) (b + 2) (100, 6, fun _ => .int 0)) (b + 500 + 0) (100, 6, fun _ => .int 0)) (b + 700 + 0) (101, 6, fun _ => .int 0)) (b + 3) (100, 6, fun _ => .int 0)) (b + 4) (100, 6, fun _ => .int 0)) (b + 5) (100, 6, fun _ => .int 0)) b (17, 11, updV (updV (updV (updV (updV (updV (updV (updV (fun j => defaultValue (tyX11 j)) 10 (.ref 5000)) 0 (.ref (b + 1))) 1 (.ref (b + 2))) 2 (.ref (b + 500 + 0))) 3 (.ref (b + 700 + 0))) 4 (.ref (b + 3))) 5 (.ref (b + 4))) 6 (.ref (b + 5)))) O (xx_dt dd_X11_init 33 rfl) cl_X11 fz_X11_49 (xx_up_eq _ _ _) (by decide) (by omega) rfl rfl (fun _ => ⟨rfl, rfl⟩) xx_up_up ?_
  refine sw_aload_n O (xx_dt dd_X11_init 34 rfl) rfl ?_
  refine sw_new (k := 1) (n := 3) (r := b + 6) O (xx_dt dd_X11_init 35 rfl) cl_Jx4a65c nw_X11_20 ((xx_up_ne (by omega)).trans ((xx_up_ne (by omega)).trans ((xx_up_ne (by omega)).trans ((xx_up_ne (by omega)).trans ((xx_up_ne (by omega)).trans ((xx_up_ne (by omega)).trans ((xx_up_ne (by omega)).trans ((xx_up_ne (by omega)).trans (noK_r (r := b + 6) hb h0 (by omega) (by omega) hfr))))))))) (by omega) ?_
  rw [xx_blk_up]
  refine sw_alter (r := b + 6) (F2 := vp_V [.int 0, .null, .int 0]) (xx_up_eq _ _ _) (fun j hj => by match j, hj with | 0, _ => rfl | 1, _ => rfl | 2, _ => rfl) ?_
  rw [xx_up_up, xx_up_sw (by omega)]
  refine sw_dup O (xx_dt dd_X11_init 36 rfl) rfl ?_
  refine sw_callIx (k := 1) (n := 3) (k' := 0) (n' := 0) (as := []) (st := [.ref (b + 6), .ref b]) (st2 := [.ref (b + 6), .ref b]) O (ct_AL_init hl (r := b + 6) ((xx_up_ne (by omega)).trans (xx_up_eq _ _ _)) (by omega) (fun k _ => rfl) ((xx_up_ne (by omega)).trans ((xx_up_ne (by omega)).trans ((xx_up_ne (by omega)).trans ((xx_up_ne (by omega)).trans ((xx_up_ne (by omega)).trans ((xx_up_ne (by omega)).trans ((xx_up_ne (by omega)).trans ((xx_up_ne (by omega)).trans ((xx_up_ne (by omega)).trans (setM_out0 hz0))))))))))) ce_Jx4a65c_init_da8c8 ml_X11_52 ii_Jx4a65c_init_da8c8 (xx_dt dd_X11_init 37 rfl) (by omega) rfl rfl (Nat.le_of_ble_eq_true rfl) rfl ?_
  refine sw_alter (r := b + 6) (F2 := fun k => .ref (b + 100 + k)) (xx_up_eq _ _ _) (fun j hj => absurd hj (by omega)) ?_
  rw [xx_up_up, xx_up_sw (by omega), xx_up_up]
  refine sw_putF (h2 := xx_up (xx_up (xx_up (xx_up (xx_up (xx_up (xx_up (xx_up (xx_up (setM z σ h) (b + 1) (100, R, fun _ => .int 0)) (b + 2) (100, 6, fun _ => .int 0)) (b + 500 + 0) (100, 6, fun _ => .int 0)) (b + 700 + 0) (101, 6, fun _ => .int 0)) (b + 3) (100, 6, fun _ => .int 0)) (b + 4) (100, 6, fun _ => .int 0)) (b + 5) (100, 6, fun _ => .int 0)) (b + 6) (206, 0, fun k => .ref (b + 100 + k))) b (17, 11, updV (updV (updV (updV (updV (updV (updV (updV (updV (fun j => defaultValue (tyX11 j)) 10 (.ref 5000)) 0 (.ref (b + 1))) 1 (.ref (b + 2))) 2 (.ref (b + 500 + 0))) 3 (.ref (b + 700 + 0))) 4 (.ref (b + 3))) 5 (.ref (b + 4))) 6 (.ref (b + 5))) 7 (.ref (b + 6)))) O (xx_dt dd_X11_init 38 rfl) cl_X11 fz_X11_53 (xx_up_eq _ _ _) (by decide) (by omega) rfl rfl (fun _ => ⟨rfl, rfl⟩) xx_up_up ?_
  refine sw_aload_n O (xx_dt dd_X11_init 39 rfl) rfl ?_
  refine sw_new (k := 0) (n := 0) (r := b + 7) O (xx_dt dd_X11_init 40 rfl) cl_Jx4a65c nw_X11_20 ((xx_up_ne (by omega)).trans ((xx_up_ne (by omega)).trans ((xx_up_ne (by omega)).trans ((xx_up_ne (by omega)).trans ((xx_up_ne (by omega)).trans ((xx_up_ne (by omega)).trans ((xx_up_ne (by omega)).trans ((xx_up_ne (by omega)).trans ((xx_up_ne (by omega)).trans (noK_r (r := b + 7) hb h0 (by omega) (by omega) hfr)))))))))) (by omega) ?_
  rw [xx_blk_up]
  refine sw_alter (r := b + 7) (F2 := vp_V [.int 0, .null, .int 0]) (xx_up_eq _ _ _) (fun j hj => by match j, hj with | 0, _ => rfl | 1, _ => rfl | 2, _ => rfl) ?_
  rw [xx_up_up, xx_up_sw (by omega)]
  refine sw_dup O (xx_dt dd_X11_init 41 rfl) rfl ?_
  refine sw_callIx (k := 0) (n := 0) (k' := 0) (n' := 0) (as := []) (st := [.ref (b + 7), .ref b]) (st2 := [.ref (b + 7), .ref b]) O (ct_AL_init hl (r := b + 7) ((xx_up_ne (by omega)).trans (xx_up_eq _ _ _)) (by omega) (fun k _ => rfl) ((xx_up_ne (by omega)).trans ((xx_up_ne (by omega)).trans ((xx_up_ne (by omega)).trans ((xx_up_ne (by omega)).trans ((xx_up_ne (by omega)).trans ((xx_up_ne (by omega)).trans ((xx_up_ne (by omega)).trans ((xx_up_ne (by omega)).trans ((xx_up_ne (by omega)).trans ((xx_up_ne (by omega)).trans (setM_out0 hz0)))))))))))) ce_Jx4a65c_init_da8c8 ml_X11_52 ii_Jx4a65c_init_da8c8 (xx_dt dd_X11_init 42 rfl) (by omega) rfl rfl (Nat.le_of_ble_eq_true rfl) rfl ?_
  refine sw_alter (r := b + 7) (F2 := fun k => .ref (b + 200 + k)) (xx_up_eq _ _ _) (fun j hj => absurd hj (by omega)) ?_
  rw [xx_up_up, xx_up_sw (by omega), xx_up_up]
  refine sw_putF (h2 := xx_up (xx_up (xx_up (xx_up (xx_up (xx_up (xx_up (xx_up (xx_up (xx_up (setM z σ h) (b + 1) (100, R, fun _ => .int 0)) (b + 2) (100, 6, fun _ => .int 0)) (b + 500 + 0) (100, 6, fun _ => .int 0)) (b + 700 + 0) (101, 6, fun _ => .int 0)) (b + 3) (100, 6, fun _ => .int 0)) (b + 4) (100, 6, fun _ => .int 0)) (b + 5) (100, 6, fun _ => .int 0)) (b + 6) (206, 0, fun k => .ref (b + 100 + k))) (b + 7) (206, 0, fun k => .ref (b + 200 + k))) b (17, 11, updV (updV (updV (updV (updV (updV (updV (updV (updV (updV (fun j => defaultValue (tyX11 j)) 10 (.ref 5000)) 0 (.ref (b + 1))) 1 (.ref (b + 2))) 2 (.ref (b + 500 + 0))) 3 (.ref (b + 700 + 0))) 4 (.ref (b + 3))) 5 (.ref (b + 4))) 6 (.ref (b + 5))) 7 (.ref (b + 6))) 8 (.ref (b + 7)))) O (xx_dt dd_X11_init 43 rfl) cl_X11 fz_X11_56 (xx_up_eq _ _ _) (by decide) (by omega) rfl rfl (fun _ => ⟨rfl, rfl⟩) xx_up_up ?_
  refine sw_iconst (x := 0) O (xx_dt dd_X11_init 44 rfl) (by decide) ?_
  refine sw_istore_n (ls2 := [.ref b, .ref 5000, .int 0]) O (xx_dt dd_X11_init 45 rfl) (by decide) rfl ?_
  refine sw_alter (F2 := clk_F b) (xx_up_eq _ _ _) (fun j hj => by match j, hj with | 0, _ => rfl | 1, _ => rfl | 2, _ => rfl | 3, _ => rfl | 4, _ => rfl | 5, _ => rfl | 6, _ => rfl | 7, _ => rfl | 8, _ => rfl | 9, _ => rfl | 10, _ => rfl) ?_
  rw [xx_up_up, new_clk hb hfr h0 hR hR5]
  refine sw_for (S := XS9) (fun i95 s95 => u2 s95 (b + 1) i95 (σ (5010 + i95) 2)) (fun _ s95 => s95 b 20 = nI 1 ∧ s95 b 23 = nI 0 ∧ s95 b 24 = nI 0 ∧ (∀ q, q ≠ b + 1 → s95 q = (g_clk0 σ b) q)) (hp := fun s95 => setM z s95 h) (hd := 95) (lc := fun i95 s95 => [.ref b, .ref 5000, .int (nI i95)]) (N := R) (fun i95 s95 hi95 hP95 => ⟨(by (try dsimp only); (repeat' split) <;> (refine ⟨?_, ?_, ?_, ?_⟩ <;> (first | exact hP95.1 | exact hP95.2.1 | exact hP95.2.2.1 | exact hP95.2.2.2 | exact (fun q9 hq9 => by (simp (disch := omega) only [u2_ne, uR_ne, fr_fill, fr_Ctake, fr_addI, fr_clk0]); exact hP95.2.2.2 q9 hq9) | exact hi95 | exact .inl rfl | exact .inr rfl | (simp (disch := omega) only [u2_ne, uR_ne, fr_fill, fr_Ctake, fr_addI, fr_clk0]; first | exact hP95.1 | exact hP95.2.1 | exact hP95.2.2.1 | exact hP95.2.2.2 | exact (fun q9 hq9 => by (simp (disch := omega) only [u2_ne, uR_ne, fr_fill, fr_Ctake, fr_addI, fr_clk0]); exact hP95.2.2.2 q9 hq9))))), fun kk95 => ?_⟩) R 0 (g_clk0 σ b) (by omega) (⟨(show (g_clk0 σ b) b 20 = nI 1 from (clk0_b (σ := σ) (b := b)).1), (show (g_clk0 σ b) b 23 = nI 0 from (clk0_b (σ := σ) (b := b)).2.2.2.1), (show (g_clk0 σ b) b 24 = nI 0 from (clk0_b (σ := σ) (b := b)).2.2.2.2.1), (fun _ _ => rfl)⟩) (fun hP95 => ?_)
  · refine sw_iload_n O (xx_dt dd_X11_init 46 rfl) rfl ?_
    refine sw_aload_n O (xx_dt dd_X11_init 47 rfl) rfl ?_
    refine sw_get (v := .ref (b + 1)) O (xx_dt dd_X11_init 48 rfl) cl_X11 fl_X11_25 (lm_clk (σ := s95) (b := b) hb (fl1 ((congrFun (hP95.2.2.2 _ (by omega)) 20).trans (clk0_b (σ := σ) (b := b)).1)) (g := 0) ((congrFun (hP95.2.2.2 _ (by omega)) 23).trans (clk0_b (σ := σ) (b := b)).2.2.2.1) (by omega) (w := 0) ((congrFun (hP95.2.2.2 _ (by omega)) 24).trans (clk0_b (σ := σ) (b := b)).2.2.2.2.1) (by omega)) (by decide) rfl ?_
    refine sw_alen O (xx_dt dd_X11_init 49 rfl) (by omega) (by omega) ((im_kpr (z := z) (σ := s95) (b := b) hb ((congrFun (hP95.2.2.2 _ (by omega)) 20).trans (clk0_b (σ := σ) (b := b)).1) (R := R) (((congrFun (hP95.2.2.2 _ (by omega)) 900).trans (congrFun (fr_clk0 (by omega)) 900)).trans hR) (by omega)).get _) ?_
    refine sw_icmp_ge (tgt := 130) O (xx_dt dd_X11_init 50 rfl) (by decide) (fun q1 => ?_) (fun q1 => ?_)
    · exact absurd q1 (nI_ge (b := R) hi95 (by omega))
    · refine sw_aload_n O (xx_dt dd_X11_init 51 rfl) rfl ?_
      refine sw_get (v := .ref (b + 1)) O (xx_dt dd_X11_init 52 rfl) cl_X11 fl_X11_25 (lm_clk (σ := s95) (b := b) hb (fl1 ((congrFun (hP95.2.2.2 _ (by omega)) 20).trans (clk0_b (σ := σ) (b := b)).1)) (g := 0) ((congrFun (hP95.2.2.2 _ (by omega)) 23).trans (clk0_b (σ := σ) (b := b)).2.2.2.1) (by omega) (w := 0) ((congrFun (hP95.2.2.2 _ (by omega)) 24).trans (clk0_b (σ := σ) (b := b)).2.2.2.2.1) (by omega)) (by decide) rfl ?_
      refine sw_iload_n O (xx_dt dd_X11_init 53 rfl) rfl ?_
      refine sw_aload_n O (xx_dt dd_X11_init 54 rfl) rfl ?_
      refine sw_get (v := .ref 5001) O (xx_dt dd_X11_init 55 rfl) cl_X14 fl_X11_15 (lm_mod (σ := s95)) (by decide) rfl ?_
      refine sw_iload_n O (xx_dt dd_X11_init 56 rfl) rfl ?_
      refine sw_callVL (ci := 6) (as := [.int (nI i95)]) (st := [.int (nI i95), .ref (b + 1)]) (st2 := [.ref (5010 + i95), .int (nI i95), .ref (b + 1)]) O (ct_get hl hbs (lm_5001 (σ := s95) (R := R) (((congrFun (hP95.2.2.2 _ (by omega)) 900).trans (congrFun (fr_clk0 (by omega)) 900)).trans hR) (by omega)) (by omega) (i := i95) (x := 5010 + i95) (by omega) (by omega) rfl) ce_Jx4a65c_get_915e3 ml_X11_59 iv_Jx4a65c_get_915e3 cl_Jx4a65c rfl (lm_5001 (σ := s95) (R := R) (((congrFun (hP95.2.2.2 _ (by omega)) 900).trans (congrFun (fr_clk0 (by omega)) 900)).trans hR) (by omega)) (xx_dt dd_X11_init 57 rfl) (by omega) rfl rfl (Nat.le_of_ble_eq_true rfl) rfl ?_
      refine sw_castO O (xx_dt dd_X11_init 58 rfl) cl_X12 (lm_reg (σ := s95) (R := R) (((congrFun (hP95.2.2.2 _ (by omega)) 900).trans (congrFun (fr_clk0 (by omega)) 900)).trans hR) (by omega) (j := i95) (by omega)) cw_X11_63 ?_
      refine sw_get (v := .int (σ (5010 + i95) 2)) O (xx_dt dd_X11_init 59 rfl) cl_X12 fl_X11_65 (lm_reg (σ := s95) (R := R) (((congrFun (hP95.2.2.2 _ (by omega)) 900).trans (congrFun (fr_clk0 (by omega)) 900)).trans hR) (by omega) (j := i95) (by omega)) (by decide) (congrArg Value.int ((congrFun (hP95.2.2.2 _ (by omega)) 2).trans (congrFun (fr_clk0 (by omega)) 2))) ?_
      refine sw_iastore (h2 := setM z (u2 s95 (b + 1) i95 (σ (5010 + i95) 2)) h) O (xx_dt dd_X11_init 60 rfl) ((im_kpr (z := z) (σ := s95) (b := b) hb ((congrFun (hP95.2.2.2 _ (by omega)) 20).trans (clk0_b (σ := σ) (b := b)).1) (R := R) (((congrFun (hP95.2.2.2 _ (by omega)) 900).trans (congrFun (fr_clk0 (by omega)) 900)).trans hR) (by omega)).get _) (pk_in i95 _ (by omega)) (by omega) (by rw [nI_clamp (by omega)]; exact ((im_kpr (z := z) (σ := s95) (b := b) hb ((congrFun (hP95.2.2.2 _ (by omega)) 20).trans (clk0_b (σ := σ) (b := b)).1) (R := R) (((congrFun (hP95.2.2.2 _ (by omega)) 900).trans (congrFun (fr_clk0 (by omega)) 900)).trans hR) (by omega)).put (by omega))) ?_
      refine sw_iinc (y := nI (i95 + 1)) (ls2 := [.ref b, .ref 5000, .int (nI (i95 + 1))]) O (xx_dt dd_X11_init 61 rfl) rfl (nI_1 _) (by decide) rfl ?_
      refine sw_goto (tgt := 95) O (xx_dt dd_X11_init 62 rfl) (by decide) ?_
      exact kk95
  · show SW Y _ _ (setM z (x_Kinit_95 σ b R (g_clk0 σ b)) h) 95 [.ref b, .ref 5000, .int (nI R)] []
    have hP95 : (x_Kinit_95 σ b R (g_clk0 σ b)) b 20 = nI 1 ∧ (x_Kinit_95 σ b R (g_clk0 σ b)) b 23 = nI 0 ∧ (x_Kinit_95 σ b R (g_clk0 σ b)) b 24 = nI 0 ∧ (∀ q, q ≠ b + 1 → (x_Kinit_95 σ b R (g_clk0 σ b)) q = (g_clk0 σ b) q) := hP95
    refine sw_iload_n O (xx_dt dd_X11_init 46 rfl) rfl ?_
    refine sw_aload_n O (xx_dt dd_X11_init 47 rfl) rfl ?_
    refine sw_get (v := .ref (b + 1)) O (xx_dt dd_X11_init 48 rfl) cl_X11 fl_X11_25 (lm_clk (σ := (x_Kinit_95 σ b R (g_clk0 σ b))) (b := b) hb (fl1 ((congrFun (hP95.2.2.2 _ (by omega)) 20).trans (clk0_b (σ := σ) (b := b)).1)) (g := 0) ((congrFun (hP95.2.2.2 _ (by omega)) 23).trans (clk0_b (σ := σ) (b := b)).2.2.2.1) (by omega) (w := 0) ((congrFun (hP95.2.2.2 _ (by omega)) 24).trans (clk0_b (σ := σ) (b := b)).2.2.2.2.1) (by omega)) (by decide) rfl ?_
    refine sw_alen O (xx_dt dd_X11_init 49 rfl) (by omega) (by omega) ((im_kpr (z := z) (σ := (x_Kinit_95 σ b R (g_clk0 σ b))) (b := b) hb ((congrFun (hP95.2.2.2 _ (by omega)) 20).trans (clk0_b (σ := σ) (b := b)).1) (R := R) (((congrFun (hP95.2.2.2 _ (by omega)) 900).trans (congrFun (fr_clk0 (by omega)) 900)).trans hR) (by omega)).get _) ?_
    refine sw_icmp_ge (tgt := 130) O (xx_dt dd_X11_init 50 rfl) (by decide) (fun q1 => ?_) (fun q1 => ?_)
    · refine sw_iconst (x := 0) O (xx_dt dd_X11_init 63 rfl) (by decide) ?_
      refine sw_istore_n (ls2 := [.ref b, .ref 5000, .int 0]) O (xx_dt dd_X11_init 64 rfl) (by decide) rfl ?_
      refine sw_for (S := XS9) (fun i132 s132 => u2 (u2 s132 (b + 3) i132 (σ (5020 + i132) 1)) (b + 4) i132 2) (fun _ s132 => s132 b 20 = nI 1 ∧ s132 b 23 = nI 0 ∧ s132 b 24 = nI 0 ∧ (∀ q, (q ≠ b + 3 ∧ q ≠ b + 4) → s132 q = (x_Kinit_95 σ b R (g_clk0 σ b)) q)) (hp := fun s132 => setM z s132 h) (hd := 132) (lc := fun i132 s132 => [.ref b, .ref 5000, .int (nI i132)]) (N := B) (fun i132 s132 hi132 hP132 => ⟨(by (try dsimp only); (repeat' split) <;> (refine ⟨?_, ?_, ?_, ?_⟩ <;> (first | exact hP132.1 | exact hP132.2.1 | exact hP132.2.2.1 | exact hP132.2.2.2 | exact (fun q9 hq9 => by (simp (disch := omega) only [u2_ne, uR_ne, fr_fill, fr_Ctake, fr_addI, fr_clk0]); exact hP132.2.2.2 q9 hq9) | exact hi132 | exact .inl rfl | exact .inr rfl | (simp (disch := omega) only [u2_ne, uR_ne, fr_fill, fr_Ctake, fr_addI, fr_clk0]; first | exact hP132.1 | exact hP132.2.1 | exact hP132.2.2.1 | exact hP132.2.2.2 | exact (fun q9 hq9 => by (simp (disch := omega) only [u2_ne, uR_ne, fr_fill, fr_Ctake, fr_addI, fr_clk0]); exact hP132.2.2.2 q9 hq9))))), fun kk132 => ?_⟩) B 0 (x_Kinit_95 σ b R (g_clk0 σ b)) (by omega) (⟨(show (x_Kinit_95 σ b R (g_clk0 σ b)) b 20 = nI 1 from ((congrFun (hP95.2.2.2 _ (by omega)) 20).trans (clk0_b (σ := σ) (b := b)).1)), (show (x_Kinit_95 σ b R (g_clk0 σ b)) b 23 = nI 0 from ((congrFun (hP95.2.2.2 _ (by omega)) 23).trans (clk0_b (σ := σ) (b := b)).2.2.2.1)), (show (x_Kinit_95 σ b R (g_clk0 σ b)) b 24 = nI 0 from ((congrFun (hP95.2.2.2 _ (by omega)) 24).trans (clk0_b (σ := σ) (b := b)).2.2.2.2.1)), (fun _ _ => rfl)⟩) (fun hP132 => ?_)
      · refine sw_iload_n O (xx_dt dd_X11_init 65 rfl) rfl ?_
        refine sw_aload_n O (xx_dt dd_X11_init 66 rfl) rfl ?_
        refine sw_get (v := .ref 5002) O (xx_dt dd_X11_init 67 rfl) cl_X14 fl_X11_69 (lm_mod (σ := s132)) (by decide) rfl ?_
        refine sw_callVL (ci := 6) (as := []) (st := [.int (nI i132)]) (st2 := [.int (nI B), .int (nI i132)]) O (ct_AL_size hl (lm_5002 (σ := s132) (B := B) ((((congrFun (hP132.2.2.2 _ (by omega)) 900).trans (congrFun (hP95.2.2.2 _ (by omega)) 900)).trans (congrFun (fr_clk0 (by omega)) 900)).trans hB) (by omega))) ce_Jx4a65c_size_8abf5 ml_X11_19 iv_Jx4a65c_size_8abf5 cl_Jx4a65c rfl (lm_5002 (σ := s132) (B := B) ((((congrFun (hP132.2.2.2 _ (by omega)) 900).trans (congrFun (hP95.2.2.2 _ (by omega)) 900)).trans (congrFun (fr_clk0 (by omega)) 900)).trans hB) (by omega)) (xx_dt dd_X11_init 68 rfl) (by omega) rfl rfl (Nat.le_of_ble_eq_true rfl) rfl ?_
        refine sw_icmp_ge (tgt := 176) O (xx_dt dd_X11_init 69 rfl) (by decide) (fun q2 => ?_) (fun q2 => ?_)
        · exact absurd q2 (nI_ge (b := B) hi132 (by omega))
        · refine sw_aload_n O (xx_dt dd_X11_init 70 rfl) rfl ?_
          refine sw_get (v := .ref (b + 3)) O (xx_dt dd_X11_init 71 rfl) cl_X11 fl_X11_43 (lm_clk (σ := s132) (b := b) hb (fl1 (((congrFun (hP132.2.2.2 _ (by omega)) 20).trans (congrFun (hP95.2.2.2 _ (by omega)) 20)).trans (clk0_b (σ := σ) (b := b)).1)) (g := 0) (((congrFun (hP132.2.2.2 _ (by omega)) 23).trans (congrFun (hP95.2.2.2 _ (by omega)) 23)).trans (clk0_b (σ := σ) (b := b)).2.2.2.1) (by omega) (w := 0) (((congrFun (hP132.2.2.2 _ (by omega)) 24).trans (congrFun (hP95.2.2.2 _ (by omega)) 24)).trans (clk0_b (σ := σ) (b := b)).2.2.2.2.1) (by omega)) (by decide) rfl ?_
          refine sw_iload_n O (xx_dt dd_X11_init 72 rfl) rfl ?_
          refine sw_aload_n O (xx_dt dd_X11_init 73 rfl) rfl ?_
          refine sw_get (v := .ref 5002) O (xx_dt dd_X11_init 74 rfl) cl_X14 fl_X11_69 (lm_mod (σ := s132)) (by decide) rfl ?_
          refine sw_iload_n O (xx_dt dd_X11_init 75 rfl) rfl ?_
          refine sw_callVL (ci := 6) (as := [.int (nI i132)]) (st := [.int (nI i132), .ref (b + 3)]) (st2 := [.ref (5020 + i132), .int (nI i132), .ref (b + 3)]) O (ct_get hl hbs (lm_5002 (σ := s132) (B := B) ((((congrFun (hP132.2.2.2 _ (by omega)) 900).trans (congrFun (hP95.2.2.2 _ (by omega)) 900)).trans (congrFun (fr_clk0 (by omega)) 900)).trans hB) (by omega)) (by omega) (i := i132) (x := 5020 + i132) (by omega) (by omega) rfl) ce_Jx4a65c_get_915e3 ml_X11_59 iv_Jx4a65c_get_915e3 cl_Jx4a65c rfl (lm_5002 (σ := s132) (B := B) ((((congrFun (hP132.2.2.2 _ (by omega)) 900).trans (congrFun (hP95.2.2.2 _ (by omega)) 900)).trans (congrFun (fr_clk0 (by omega)) 900)).trans hB) (by omega)) (xx_dt dd_X11_init 76 rfl) (by omega) rfl rfl (Nat.le_of_ble_eq_true rfl) rfl ?_
          refine sw_castO O (xx_dt dd_X11_init 77 rfl) cl_X9 (lm_bid (σ := s132) (B := B) ((((congrFun (hP132.2.2.2 _ (by omega)) 900).trans (congrFun (hP95.2.2.2 _ (by omega)) 900)).trans (congrFun (fr_clk0 (by omega)) 900)).trans hB) (by omega) (j := i132) (by omega)) cw_X11_72 ?_
          refine sw_get (v := .int (σ (5020 + i132) 1)) O (xx_dt dd_X11_init 78 rfl) cl_X9 fl_X11_74 (lm_bid (σ := s132) (B := B) ((((congrFun (hP132.2.2.2 _ (by omega)) 900).trans (congrFun (hP95.2.2.2 _ (by omega)) 900)).trans (congrFun (fr_clk0 (by omega)) 900)).trans hB) (by omega) (j := i132) (by omega)) (by decide) (congrArg Value.int (((congrFun (hP132.2.2.2 _ (by omega)) 1).trans (congrFun (hP95.2.2.2 _ (by omega)) 1)).trans (congrFun (fr_clk0 (by omega)) 1))) ?_
          refine sw_iastore (h2 := setM z (u2 s132 (b + 3) i132 (σ (5020 + i132) 1)) h) O (xx_dt dd_X11_init 79 rfl) ((im_kel (z := z) (σ := s132) (b := b) hb (((congrFun (hP132.2.2.2 _ (by omega)) 20).trans (congrFun (hP95.2.2.2 _ (by omega)) 20)).trans (clk0_b (σ := σ) (b := b)).1)).get _) (pk_in i132 _ (by omega)) (by omega) (by rw [nI_clamp (by omega)]; exact ((im_kel (z := z) (σ := s132) (b := b) hb (((congrFun (hP132.2.2.2 _ (by omega)) 20).trans (congrFun (hP95.2.2.2 _ (by omega)) 20)).trans (clk0_b (σ := σ) (b := b)).1)).put (by omega))) ?_
          refine sw_aload_n O (xx_dt dd_X11_init 80 rfl) rfl ?_
          refine sw_get (v := .ref (b + 4)) O (xx_dt dd_X11_init 81 rfl) cl_X11 fl_X11_46 (lm_clk (σ := u2 s132 (b + 3) i132 (σ (5020 + i132) 1)) (b := b) hb (fl1 ((((congrFun (u2_ne (by omega)) 20).trans (congrFun (hP132.2.2.2 _ (by omega)) 20)).trans (congrFun (hP95.2.2.2 _ (by omega)) 20)).trans (clk0_b (σ := σ) (b := b)).1)) (g := 0) ((((congrFun (u2_ne (by omega)) 23).trans (congrFun (hP132.2.2.2 _ (by omega)) 23)).trans (congrFun (hP95.2.2.2 _ (by omega)) 23)).trans (clk0_b (σ := σ) (b := b)).2.2.2.1) (by omega) (w := 0) ((((congrFun (u2_ne (by omega)) 24).trans (congrFun (hP132.2.2.2 _ (by omega)) 24)).trans (congrFun (hP95.2.2.2 _ (by omega)) 24)).trans (clk0_b (σ := σ) (b := b)).2.2.2.2.1) (by omega)) (by decide) rfl ?_
          refine sw_iload_n O (xx_dt dd_X11_init 82 rfl) rfl ?_
          refine sw_iconst (x := 2) O (xx_dt dd_X11_init 83 rfl) (by decide) ?_
          refine sw_iastore (h2 := setM z (u2 (u2 s132 (b + 3) i132 (σ (5020 + i132) 1)) (b + 4) i132 2) h) O (xx_dt dd_X11_init 84 rfl) ((im_kwv (z := z) (σ := u2 s132 (b + 3) i132 (σ (5020 + i132) 1)) (b := b) hb ((((congrFun (u2_ne (by omega)) 20).trans (congrFun (hP132.2.2.2 _ (by omega)) 20)).trans (congrFun (hP95.2.2.2 _ (by omega)) 20)).trans (clk0_b (σ := σ) (b := b)).1)).get _) (pk_in i132 _ (by omega)) (by omega) (by rw [nI_clamp (by omega)]; exact ((im_kwv (z := z) (σ := u2 s132 (b + 3) i132 (σ (5020 + i132) 1)) (b := b) hb ((((congrFun (u2_ne (by omega)) 20).trans (congrFun (hP132.2.2.2 _ (by omega)) 20)).trans (congrFun (hP95.2.2.2 _ (by omega)) 20)).trans (clk0_b (σ := σ) (b := b)).1)).put (by omega))) ?_
          refine sw_iinc (y := nI (i132 + 1)) (ls2 := [.ref b, .ref 5000, .int (nI (i132 + 1))]) O (xx_dt dd_X11_init 85 rfl) rfl (nI_1 _) (by decide) rfl ?_
          refine sw_goto (tgt := 132) O (xx_dt dd_X11_init 86 rfl) (by decide) ?_
          exact kk132
      · show SW Y _ _ (setM z (x_Kinit_132 σ b R B (x_Kinit_95 σ b R (g_clk0 σ b))) h) 132 [.ref b, .ref 5000, .int (nI B)] []
        have hP132 : (x_Kinit_132 σ b R B (x_Kinit_95 σ b R (g_clk0 σ b))) b 20 = nI 1 ∧ (x_Kinit_132 σ b R B (x_Kinit_95 σ b R (g_clk0 σ b))) b 23 = nI 0 ∧ (x_Kinit_132 σ b R B (x_Kinit_95 σ b R (g_clk0 σ b))) b 24 = nI 0 ∧ (∀ q, (q ≠ b + 3 ∧ q ≠ b + 4) → (x_Kinit_132 σ b R B (x_Kinit_95 σ b R (g_clk0 σ b))) q = (x_Kinit_95 σ b R (g_clk0 σ b)) q) := hP132
        refine sw_iload_n O (xx_dt dd_X11_init 65 rfl) rfl ?_
        refine sw_aload_n O (xx_dt dd_X11_init 66 rfl) rfl ?_
        refine sw_get (v := .ref 5002) O (xx_dt dd_X11_init 67 rfl) cl_X14 fl_X11_69 (lm_mod (σ := (x_Kinit_132 σ b R B (x_Kinit_95 σ b R (g_clk0 σ b))))) (by decide) rfl ?_
        refine sw_callVL (ci := 6) (as := []) (st := [.int (nI B)]) (st2 := [.int (nI B), .int (nI B)]) O (ct_AL_size hl (lm_5002 (σ := (x_Kinit_132 σ b R B (x_Kinit_95 σ b R (g_clk0 σ b)))) (B := B) ((((congrFun (hP132.2.2.2 _ (by omega)) 900).trans (congrFun (hP95.2.2.2 _ (by omega)) 900)).trans (congrFun (fr_clk0 (by omega)) 900)).trans hB) (by omega))) ce_Jx4a65c_size_8abf5 ml_X11_19 iv_Jx4a65c_size_8abf5 cl_Jx4a65c rfl (lm_5002 (σ := (x_Kinit_132 σ b R B (x_Kinit_95 σ b R (g_clk0 σ b)))) (B := B) ((((congrFun (hP132.2.2.2 _ (by omega)) 900).trans (congrFun (hP95.2.2.2 _ (by omega)) 900)).trans (congrFun (fr_clk0 (by omega)) 900)).trans hB) (by omega)) (xx_dt dd_X11_init 68 rfl) (by omega) rfl rfl (Nat.le_of_ble_eq_true rfl) rfl ?_
        refine sw_icmp_ge (tgt := 176) O (xx_dt dd_X11_init 69 rfl) (by decide) (fun q2 => ?_) (fun q2 => ?_)
        · exact sw_ret O (xx_dt dd_X11_init 87 rfl) rfl (by rw [hQ]; exact ⟨rfl, by unfold g_Kinit; rfl⟩)
        · exact absurd (Int32.le_refl _) q2
    · exact absurd (Int32.le_refl _) q1
end
section
/-! ===== calls by an interface ===== -/
def xx_if (own : String) (idx : Nat) (x : MethodName) (M' : XM) : Prop := Cond.methodLink own idx x ∈ xx_gws ∧ Cond.declares x ∈ xx_nws ∧ Cond.interfaceMethod x.cls x.cls x.name x.desc ∈ xx_nws ∧ Cond.selects M'.1.cls x M'.1 ∈ xx_gws ∧ Cond.instanceMethod M'.1 ∈ xx_gws ∧ Cond.publicMethod M'.1 ∈ xx_nws ∧ Cond.unhidden M'.1.cls x.name x.desc ∈ xx_nws ∧ Cond.castable M'.1.cls x.cls ∈ xx_nws ∧ (x.cls ≠ "java/lang/invoke/MethodHandle" ∧ x.cls ≠ "java/lang/invoke/VarHandle") ∧ (parseMethodDescriptor x.desc).map (fun d => d.parameters.length) = some M'.2.2.2.2.2
section
variable {Y : XY} {M : XM} {l : Launch} {d k n : Nat} {h : XH} {pc : Nat} {ls st : List Value} {ρ : Nat → Nat} {ow : Nat → Option Nat} {H : Heap} {locs : List Loc} {cells slots : Nat} {lsA : Array Slot}
theorem xx_callCI {M' : XM} {d' k' n' idx : Nat} {x : MethodName} (O : xx_O Y M l d) (E : xx_ce M') (hd : d' + 1 ≤ d) (hl : xx_if M.2.2.2.2.1 idx x M') :
    va_CI (xt_R Y.1) (xt_s Y.1) (xt_a Y.1) M.2.2.2.2.1 M'.1.cls idx x M'.1 M'.2.1 M'.2.2.1 M'.2.2.2.1 (xx_ws M') (xx_rm d' k' n') k' n' M'.2.2.2.2.2 := by
  have hw := O.2.2.2.2.2.1
  have hR := O.2.2.2.2.2.2.2.2.2.2.2.2
  have hN := O.2.2.2.2.2.2.2.2.1
  have := E.2.2.2.2
  obtain ⟨a1, a2, a3, a4, a5, a6, a7, a8, a9, a10⟩ := hl
  refine ⟨⟨rfl, rfl, ?_, ?_, xx_ws_at O E.1, List.mem_cons_self⟩, hw _ a1, hN.use a2, hN.use a3, hw _ a4, hw _ a5, hN.use a6, hN.use a7, hN.use a8, hw _ E.2.1, hw _ E.1, a9, fun sig h => ?_⟩
  · exact Nat.le_trans hd hR.1
  · refine Nat.le_trans ?_ hR.2.1
    show 8 + (M'.2.2.1 + 11) + 40 * d' ≤ 40 * d
    omega
  · rw [h] at a10
    exact (Option.some.inj a10).symm
theorem xx_run5 {k' n' : Nat} {Q' : XO → XH → Prop} {stk : List Value} {st0 : List Value} {a : Array Value} (O : xx_O Y M l d) (r9 : xx_R Y (k + k') (n + n') h ls stk ρ ow H locs cells slots lsA) (hst : ∀ v ∈ st, xx_in h v)
    (hr : vx_Run5 (xt_p Y.1) (xt_l Y.1) (xt_e Y.1) (xt_R Y.1) (xt_s Y.1) (xt_m Y.1) (xt_a Y.1) (xt_b Y.1) (xt_h Y.1) (xt_c Y.1) H locs cells slots k' n' (F0 (xt_m Y.1) pc lsA st0) (st.map (xx_v ρ)) (xx_Qc (xy_D Y) ρ h Q' a) (xx_Xc (xy_D Y) ρ h Q') (xx_fr (xy_D Y)))
    (kr : ∀ v h', Q' (.inl v) h' → (∀ r, (h r).isSome = true → (h' r).isSome = true) → SW Y k n h' (pc + 5) ls (v.toList ++ st)) (kx : ∀ E h', Q' (.inr E) h' → xy_Q Y (.inr E) h') : xx_W Y H locs cells slots (F0 (xt_m Y.1) pc lsA st0) := by
  intro T hT X
  have hloc : ∀ L : List Loc, (∀ q ∈ L, xx_fr (xy_D Y) q.base) → ∀ z ∈ locs ++ L, (xd_H (xy_D Y)).size ≤ z.base := fun L hL z hz => (List.mem_append.mp hz).elim (r9.2.2.1 z) (hL z)
  rcases hr T hT X with ⟨v, st₀, t, T', L, h0, X', hL, e1, e2, ⟨v', h', ρ', ow', hv, hq, hS, hA, hin⟩, go⟩ | ⟨q, st₀, t, T', L, E, ce, h0, X', hL, e1, e2, ⟨h', ρ', ow', hq, hS, hA⟩, hce, hcv, hcl, go⟩
  · cases hv
    have hρ : ∀ a, (h a).isSome = true → ρ' a = ρ a := fun a ha => (hA a ha).2
    have hup : ∀ v, xx_in h v → xx_in h' v := fun v hv => by
      cases v with
      | ref a => exact (hA a hv).1
      | _ => exact trivial
    have R1 : xx_R Y k n h' ls (v'.toList ++ st) ρ' ow' T'.heap (locs ++ L) (cells + k') (slots + n') lsA := by
      refine ⟨by rw [e1]; exact hS, fun r hr => ?_, hloc L hL, ?_, ?_, r9.L.names hρ r9.lcl, fun v hv => hup v (r9.lcl v hv), fun v hv => ?_⟩
      · have h2 := r9.2.1 r hr
        exact ⟨(hA r h2.1).1, by rw [(hA r h2.1).2]; exact h2.2⟩
      · have := r9.2.2.2.1
        omega
      · have := r9.2.2.2.2.1
        omega
      · rcases List.mem_append.mp hv with h3 | h3
        · exact hin v (by cases v' <;> simp at h3; rw [h3])
        · exact hup v (hst v h3)
    have k1 := kr v' h' hq (fun r hr => (hA r hr).1) ρ' ow' T'.heap (locs ++ L) (cells + k') (slots + n') lsA R1 T' rfl X'
    obtain ⟨t2, a1, b1⟩ := k1
    refine ⟨t2, go t2 ?_, b1⟩
    rw [show (v'.toList ++ st).map (xx_v ρ') = (v'.map (xx_v ρ')).toList ++ st.map (xx_v ρ) by rw [List.map_append, xx_map_eq hρ hst]; cases v' <;> rfl] at a1
    exact a1
  · have hx := vx_out (p := xt_p Y.1) (l := xt_l Y.1) (e := xt_e Y.1) (R := xt_R Y.1) (s := xt_s Y.1) (m := xt_m Y.1) (args := xt_a Y.1) (below := xt_b Y.1) (meth := xt_h Y.1) (c := xt_c Y.1) (H := T'.heap) (locs := locs ++ L) (cells := cells + k') (slots := slots + n') (ls := lsA) (rest := st.map (xx_v ρ)) (free := xx_fr (xy_D Y)) (Qc := xx_Qc (xy_D Y) (xy_ρ Y) (xy_h Y) (xy_Q Y)) (XC := xx_Xc (xy_D Y) (xy_ρ Y) (xy_h Y) (xy_Q Y)) (pc := pc) (E := E) (ce := ce) (q := q) (mc := (xt_R Y.1).cells) (ms := (xt_R Y.1).slots)
      (fun x hx => absurd hx (fun w => O.2.2.2.2.2.2.2.2.2.2.2.2.2.2.1 E h' (kx E h' hq) x w)) O.2.2.2.2.1 (by rw [e1]; exact hce) hcv hcl
      (fun t9 ht9 _ => ⟨h', ρ', ow', kx E h' hq, by rw [ht9, e1]; exact hS, fun r hr => by
        have h2 := r9.2.1 r hr
        exact ⟨(hA r h2.1).1, by rw [(hA r h2.1).2]; exact h2.2⟩⟩) (hloc L hL) (by have := r9.2.2.2.1; omega) (by have := r9.2.2.2.2.1; omega)
    obtain ⟨t2, a1, b1⟩ := hx T' rfl X'
    exact ⟨t2, go.trans a1, b1⟩
theorem sw_callF {M' : XM} {d' k' n' idx cnt ci N b : Nat} {x : MethodName} {f : Nat → Value} {C : String} {T : u_T} {ty : Nat → FieldType} {as stk : List Value} {v : Option Value} {h2 : XH} (O : xx_O Y M l d) (hM : XEx l M' d' k' n' (.ref b :: as) h v h2) (E : xx_ce M') (hl : xx_if M.2.2.2.2.1 idx x M')
    (K : xx_cl ci C T N ty) (hC : C = M'.1.cls) (hb : h b = some (ci, N, f)) (hd : decode M.2.1 pc = .ok (.invokeinterface idx cnt, 5)) (hdd : d' + 1 ≤ d) (hn : as.length = M'.2.2.2.2.2) (hs : stk = as.reverse ++ .ref b :: st) (hc : (st.map fun v => v.category).sum ≤ 8)
    {st2 : List Value} (h2s : v.toList ++ st = st2) (kk : SW Y k n h2 (pc + 5) ls st2) : SW Y (k + k') (n + n') h pc ls stk := by
  subst hs
  intro ρ ow H locs cells slots lsA r9
  obtain ⟨⟨cell, q1, q2, q3, q4⟩, hS, hfc, kC, hkC, hkind⟩ := r9.obj O K hb
  have hst : ∀ v ∈ st, xx_in h v := fun v hv => r9.stk v (List.mem_append_right _ (List.mem_cons_of_mem _ hv))
  have has : ∀ v ∈ (Value.ref b :: as), xx_in h v := fun v hv => by
    rcases List.mem_cons.mp hv with rfl | hv
    · exact r9.stk _ (List.mem_append_right _ List.mem_cons_self)
    · exact r9.stk v (List.mem_append_left _ (List.mem_reverse.mpr hv))
  have S : CallFix (xt_p Y.1) (xt_m Y.1) (xt_c Y.1) M.2.1 (xt_c Y.1).maxLocals (xt_s Y.1) (xt_a Y.1) xx_gws M.2.2.2.2.1 := ⟨O.1, O.2.1, rfl, O.2.2.2.2.2.2.1, O.2.2.2.2.2.1⟩
  have hM' := hM (xy_D Y) ρ ow
  rw [← O.2.2.2.2.2.2.2.2.2.2.2.1] at hM'
  have hp : PreV (xt_s Y.1) H M'.1.cls (ρ b) (xx_Pc (xy_D Y) ρ ow h (.ref b :: as)) (as.map (xx_v ρ)) := ⟨xx_blind, ⟨cell, q1, q3.1, by rw [q2, ← hC]; exact hfc⟩, fun U hU hW => ⟨rfl, xx_K.moved hW.alike O.2.2.2.2.2.2.2.1, xx_N.warm hW O.2.2.2.2.2.2.2.2.1, by rw [hU]; exact r9.1, has⟩⟩
  have hw := O.2.2.2.2.2.1
  refine xx_run5 (Q' := fun o g => o = .inl v ∧ g = h2) O r9 hst (a := (Value.ref (ρ b) :: as.map (xx_v ρ)).toArray) ?_ (fun v' h' q _ => by obtain ⟨e1, rfl⟩ := q; cases e1; rw [h2s]; exact kk) (fun E h' q => by obtain ⟨e1, -⟩ := q; cases e1)
  exact vx_runF (C := M'.1.cls) (by rw [← hC]; exact ⟨hfc, kC, hkC, hkind⟩) S hM' (xx_callCI O E hdd hl) hp rfl (by rw [List.length_map]; exact hn) r9.L.1 xx_stk (lv_room (by rw [xx_cats]; exact hc)) hd (by have := r9.2.2.2.1; have := r9.2.2.2.2.1; omega)
theorem sw_dom (kk : (∀ r, (xy_h Y r).isSome = true → (h r).isSome = true) → SW Y k n h pc ls st) : SW Y k n h pc ls st := fun ρ ow H locs cells slots lsA r9 => kk (fun r hr => (r9.2.1 r hr).1) ρ ow H locs cells slots lsA r9
end
theorem sw_fori {Y : XY} {k n : Nat} {S : Type} {f : Nat → S → S} {hp : Nat → XH} {hd : Nat} {lc : Nat → S → List Value} {N : Nat} (body : ∀ i s, i < N → SW Y k n (hp (i + 1)) hd (lc (i + 1) (f i s)) [] → SW Y k n (hp i) hd (lc i s) []) : ∀ m i s, i + m = N → SW Y k n (hp N) hd (lc N (xit f m i s)) [] → SW Y k n (hp i) hd (lc i s) []
  | 0, i, s, e, kk => by
    have e' : i = N := by omega
    subst e'
    exact kk
  | m + 1, i, s, e, kk => body i s (by omega) (sw_fori body m (i + 1) (f i s) (by omega) kk)
def gwl_I2 : List Cond := [(Jvm.Cond.methodLink "WavesaleModel" (102 : Nat) ({ cls := "java/util/Iterator", name := "hasNext", desc := "()Z" } : Jvm.MethodName)), (Jvm.Cond.selects "java/util/ArrayList$Itr" ({ cls := "java/util/Iterator", name := "hasNext", desc := "()Z" } : Jvm.MethodName) ({ cls := "java/util/ArrayList$Itr", name := "hasNext", desc := "()Z" } : Jvm.MethodName)), (Jvm.Cond.instanceMethod ({ cls := "java/util/ArrayList$Itr", name := "hasNext", desc := "()Z" } : Jvm.MethodName)), (Jvm.Cond.methodLink "WavesaleModel" (108 : Nat) ({ cls := "java/util/Iterator", name := "next", desc := "()Ljava/lang/Object;" } : Jvm.MethodName)), (Jvm.Cond.selects "java/util/ArrayList$Itr" ({ cls := "java/util/Iterator", name := "next", desc := "()Ljava/lang/Object;" } : Jvm.MethodName) ({ cls := "java/util/ArrayList$Itr", name := "next", desc := "()Ljava/lang/Object;" } : Jvm.MethodName)), (Jvm.Cond.instanceMethod ({ cls := "java/util/ArrayList$Itr", name := "next", desc := "()Ljava/lang/Object;" } : Jvm.MethodName))]
set_option maxRecDepth 100000 in
theorem gv_I : ∀ w ∈ gwl_I2, w ∈ xx_gws := xx_inT [1757, 3, 1, 3, 2, 1] rfl (by decide +kernel)
def xx_ifn : List Cond := [(Jvm.Cond.declares ({ cls := "java/util/Iterator", name := "hasNext", desc := "()Z" } : Jvm.MethodName)), (Jvm.Cond.interfaceMethod "java/util/Iterator" "java/util/Iterator" "hasNext" "()Z"), (Jvm.Cond.publicMethod ({ cls := "java/util/ArrayList$Itr", name := "hasNext", desc := "()Z" } : Jvm.MethodName)), (Jvm.Cond.unhidden "java/util/ArrayList$Itr" "hasNext" "()Z"), (Jvm.Cond.castable "java/util/ArrayList$Itr" "java/util/Iterator"), (Jvm.Cond.declares ({ cls := "java/util/Iterator", name := "next", desc := "()Ljava/lang/Object;" } : Jvm.MethodName)), (Jvm.Cond.interfaceMethod "java/util/Iterator" "java/util/Iterator" "next" "()Ljava/lang/Object;"), (Jvm.Cond.publicMethod ({ cls := "java/util/ArrayList$Itr", name := "next", desc := "()Ljava/lang/Object;" } : Jvm.MethodName)), (Jvm.Cond.unhidden "java/util/ArrayList$Itr" "next" "()Ljava/lang/Object;"), (Jvm.Cond.castable "java/util/ArrayList$Itr" "java/util/Iterator")]
theorem xx_ifn_ok : ∀ w ∈ xx_ifn, w ∈ xx_nws := by decide +kernel
theorem if_X14_102 : xx_if RX14 102 ({ cls := "java/util/Iterator", name := "hasNext", desc := "()Z" } : Jvm.MethodName) m_Jx35411_hasNext_aae02 := ⟨(gv_I _ (List.mem_of_getElem? (i := 0) rfl)), (xx_ifn_ok _ (List.mem_of_getElem? (i := 0) rfl)), (xx_ifn_ok _ (List.mem_of_getElem? (i := 1) rfl)), (gv_I _ (List.mem_of_getElem? (i := 1) rfl)), (gv_I _ (List.mem_of_getElem? (i := 2) rfl)), (xx_ifn_ok _ (List.mem_of_getElem? (i := 2) rfl)), (xx_ifn_ok _ (List.mem_of_getElem? (i := 3) rfl)), (xx_ifn_ok _ (List.mem_of_getElem? (i := 4) rfl)), ⟨by decide, by decide⟩, by decide +kernel⟩
theorem if_X14_108 : xx_if RX14 108 ({ cls := "java/util/Iterator", name := "next", desc := "()Ljava/lang/Object;" } : Jvm.MethodName) m_Jx35411_next_0502b := ⟨(gv_I _ (List.mem_of_getElem? (i := 3) rfl)), (xx_ifn_ok _ (List.mem_of_getElem? (i := 5) rfl)), (xx_ifn_ok _ (List.mem_of_getElem? (i := 6) rfl)), (gv_I _ (List.mem_of_getElem? (i := 4) rfl)), (gv_I _ (List.mem_of_getElem? (i := 5) rfl)), (xx_ifn_ok _ (List.mem_of_getElem? (i := 7) rfl)), (xx_ifn_ok _ (List.mem_of_getElem? (i := 8) rfl)), (xx_ifn_ok _ (List.mem_of_getElem? (i := 9) rfl)), ⟨by decide, by decide⟩, by decide +kernel⟩
end
section
/-! ===== the reference: border, open ===== -/
theorem setM_it {z : Int64} {σ : XS9} {h : XH} {r : Nat} (h1 : 10300 ≤ r) (h2 : r < 20000) : setM z σ h r = h r := setM_no (by
  unfold lyQ
  rw [if_neg (by omega), if_neg (by omega), if_neg (by omega), if_neg (by omega), if_neg (by omega), if_neg (by omega), if_neg (by omega), if_neg (by omega), if_neg (by omega), if_neg (by omega), if_neg (by omega), if_neg (by omega), if_neg (by omega), if_neg (by omega), if_neg (by omega), if_neg (by omega), if_neg (by omega), if_neg (by omega), if_pos (by omega)])
theorem sub_up {h : XH} {r : Nat} {c : XC} (hn : h r = none) : xx_sub h (xx_up h r c) := fun q c9 e => by
  have : q ≠ r := fun e9 => by rw [e9, hn] at e; cases e
  rw [xx_up_ne this]
  exact e
abbrev itF (n : Nat) (i : Nat) : Nat → Value := vp_V [.int (nI i), .int (match i with | 0 => -1 | i + 1 => nI i), .int (nI n), .ref 5001]
theorem ct_hasN {l : Launch} {h : XH} (hl : l.stackTraces = false) {t r n i : Nat} {la : Int32} {f : Nat → Value} (ht : h t = some (5, 4, vp_V [.int (nI i), .int la, .int (nI n), .ref r])) (h1 : 1000 ≤ t) (hc : h r = some (206, n, f)) (hn : n < 2147483648) (hi : i < n)  : XEx l m_Jx35411_hasNext_aae02 0 0 0 [.ref t] (h) (some (.int 1)) (h) := by
  have e := ct_It_hasNext hl ht h1 hc hn (by omega)
  rw [if_pos hi] at e
  exact e
theorem ct_hasE {l : Launch} {h : XH} (hl : l.stackTraces = false) {t r n : Nat} {la : Int32} {f : Nat → Value} (ht : h t = some (5, 4, vp_V [.int (nI n), .int la, .int (nI n), .ref r])) (h1 : 1000 ≤ t) (hc : h r = some (206, n, f)) (hn : n < 2147483648) : XEx l m_Jx35411_hasNext_aae02 0 0 0 [.ref t] (h) (some (.int 0)) (h) := by
  have e := ct_It_hasNext hl ht h1 hc hn (Nat.le_refl n)
  rw [if_neg (Nat.lt_irrefl n)] at e
  exact e
theorem u2_nj {σ : XS9} {r i j : Nat} {x : Int32} (h : j ≠ i) : u2 σ r i x r j = σ r j := by
  rw [u2_eq]
  exact if_neg h
theorem u2_v {σ : XS9} {r i : Nat} {x : Int32} : u2 σ r i x r i = x := by
  rw [u2_eq]
  exact if_pos rfl
theorem lq_7000 {z : Int64} {C : XS9} {s : Nat → Int32} : lyQ z C 7000 s = if C 7000 20 = 0 then none else lyB C 7000 0 s := by
  unfold lyQ
  rw [if_neg (by omega), if_neg (by omega), if_neg (by omega), if_neg (by omega), if_neg (by omega), if_neg (by omega), if_neg (by omega), if_neg (by omega), if_neg (by omega), if_neg (by omega), if_neg (by omega), if_neg (by omega), if_pos (by omega)]
theorem lyQ_c {z : Int64} {C C' : XS9} {r : Nat} {s : Nat → Int32} (h1 : ∀ q i, (q ≠ 7000 ∨ i ≠ 25) → C q i = C' q i) (h2 : r ≠ 5000) : lyQ z C r s = lyQ z C' r s := by
  have e1 : ∀ i, C 5001 i = C' 5001 i := fun i => h1 _ _ (.inl (by omega))
  have e2 : ∀ i, C 5002 i = C' 5002 i := fun i => h1 _ _ (.inl (by omega))
  have e3 : ∀ i, C 5003 i = C' 5003 i := fun i => h1 _ _ (.inl (by omega))
  have e4 : ∀ i, C 5004 i = C' 5004 i := fun i => h1 _ _ (.inl (by omega))
  have e8 : ∀ i, C 8000 i = C' 8000 i := fun i => h1 _ _ (.inl (by omega))
  have e9 : ∀ i, C 9000 i = C' 9000 i := fun i => h1 _ _ (.inl (by omega))
  have k0 : C 7000 20 = C' 7000 20 := h1 _ _ (.inr (by omega))
  have k1 : C 7000 21 = C' 7000 21 := h1 _ _ (.inr (by omega))
  have k2 : C 7000 22 = C' 7000 22 := h1 _ _ (.inr (by omega))
  have k3 : C 7000 23 = C' 7000 23 := h1 _ _ (.inr (by omega))
  have k4 : C 7000 24 = C' 7000 24 := h1 _ _ (.inr (by omega))
  by_cases h7 : r = 7000
  · subst h7
    rw [lq_7000, lq_7000]
    unfold lyB
    simp only [e1, k0, k1, k2, k3, k4]
  have er : ∀ i, C r i = C' r i := fun i => h1 _ _ (.inl h7)
  by_cases u0 : r < 5010
  · unfold lyQ
    rw [if_pos u0, if_pos u0]
    split <;> first | rfl | (exfalso; omega) | simp only [e1, e2, e3, e4, nmS]
  by_cases h3 : r < 20000
  · have ep : ∀ i, C (5030 + (r - 10000) / 20) i = C' (5030 + (r - 10000) / 20) i := fun i => h1 _ _ (.inl (by omega))
    unfold lyQ lyB nmS
    simp only [e1, e2, e3, e4, e8, e9, er, ep, k0, k1, k2, k3, k4, if_neg u0]
  · by_cases h4 : r < 20010
    · rw [lq_tmp (by omega), lq_tmp (by omega), er, er]
    · unfold lyQ
      rw [if_neg (by omega), if_neg (by omega), if_neg (by omega), if_neg (by omega), if_neg (by omega), if_neg (by omega), if_neg (by omega), if_neg (by omega), if_neg (by omega), if_neg (by omega), if_neg (by omega), if_neg (by omega), if_neg (by omega), if_neg (by omega), if_neg (by omega), if_neg (by omega), if_neg (by omega), if_neg (by omega), if_neg (by omega), if_neg (by omega), if_neg (by omega), if_neg (by omega), if_neg (by omega), if_neg (by omega), if_neg (by omega), if_neg (by omega), if_neg (by omega), if_neg (by omega), if_neg (by omega), if_neg (by omega), if_neg (by omega), if_neg (by omega), if_neg (by omega), if_neg (by omega), if_neg (by omega), if_neg (by omega), if_neg (by omega), if_neg (by omega), if_neg (by omega), if_neg (by omega)]
theorem pm_clkset {z : Int64} {σ : XS9} {h : XH} : xx_up (setM z σ h) 5000 (20, 17, updV (fun k => match k with | 8 => .ref 5001 | 9 => .ref 5002 | 10 => .ref 5003 | 11 => .ref 5004 | 12 => (if σ 7000 25 = 0 then .null else .ref 7000) | 13 => .ref 5005 | 14 => .ref 5006 | 15 => .ref 5007 | 16 => .long z | k => .int ((σ 5000) k)) 12 (.ref 7000)) = setM z (u2 σ 7000 25 1) h := by
  funext q
  unfold xx_up
  by_cases a : q = 5000
  · rw [if_pos a, a, lm_modC (σ := u2 σ 7000 25 1) (by rw [u2_v]; decide), u2_ne (by omega)]
    congr 3
    funext k
    unfold updV
    by_cases e : k = 12
    · subst e; rfl
    · rw [if_neg e]
      match k, e with
      | 0, _ | 1, _ | 2, _ | 3, _ | 4, _ | 5, _ | 6, _ | 7, _ | 8, _ | 9, _ | 10, _ | 11, _ | 13, _ | 14, _ | 15, _ | 16, _ => rfl
      | 12, e => exact absurd rfl e
      | _ + 17, _ => rfl
  · rw [if_neg a]
    unfold setM
    rw [lyQ_c (C := ctl (u2 σ 7000 25 1)) (C' := ctl σ) (fun r i e => by
      unfold ctl
      rw [show u2 σ 7000 25 1 r i = σ r i by
        rcases e with e | e
        · rw [u2_ne e]
        · by_cases e7 : r = 7000
          · rw [e7]; exact u2_nj e
          · rw [u2_ne e7]]) a]
    by_cases e7 : q = 7000
    · subst e7
      have t : ∀ s s' : Nat → Int32, s 9 = s' 9 → lyQ z (ctl σ) 7000 s = lyQ z (ctl σ) 7000 s' := fun s s' h9 => by
        rw [lq_7000, lq_7000]
        have e0 : ∀ s : Nat → Int32, lyB (ctl σ) 7000 0 s = some (17, 11, fun k => match k with | 0 => .ref (7000 + 1) | 1 => .ref (7000 + 2) | 2 => .ref (7000 + 500 + cn (ctl σ 7000 23)) | 3 => .ref (7000 + 700 + cn (ctl σ 7000 24)) | 4 => .ref (7000 + 3) | 5 => .ref (7000 + 4) | 6 => .ref (7000 + 5) | 7 => .ref (7000 + 6) | 8 => .ref (7000 + 7) | 9 => .int (s 9) | 10 => .ref 5000 | _ => .null) := fun s => rfl
        rw [e0, e0, h9]
      rw [t _ (σ 7000) (u2_nj (by omega))]
    · rw [u2_ne e7]
def f_Mborder (σ : XS9) (x y : Int32) (R : Nat) : Int32 := (if n_lt x R then (if n_lt y R then (if (nI (cn x)) = (nI (cn y)) then 0 else (if (σ 5000 1) = 0 then xit (fun i9 s9 => s9 + f_bitCount ((u2 (u2 (u2 σ 5000 0 0) (5010 + cn x) 3 ((σ (5010 + cn x) 3) ||| (1 <<< ((nI (cn y)) &&& 31)))) (5010 + cn y) 3 (((u2 (u2 σ 5000 0 0) (5010 + cn x) 3 ((σ (5010 + cn x) 3) ||| (1 <<< ((nI (cn y)) &&& 31)))) (5010 + cn y) 3) ||| (1 <<< ((nI (cn x)) &&& 31)))) (5010 + i9) 3)) R 0 0 / 2 else 0)) else 0) else 0)
def g_Mborder (σ : XS9) (x y : Int32) (R : Nat) : XS9 := (if n_lt x R then (if n_lt y R then (if (nI (cn x)) = (nI (cn y)) then u2 (u2 σ 5000 0 0) 5000 0 2 else (if (σ 5000 1) = 0 then u2 (u2 (u2 σ 5000 0 0) (5010 + cn x) 3 ((σ (5010 + cn x) 3) ||| (1 <<< ((nI (cn y)) &&& 31)))) (5010 + cn y) 3 (((u2 (u2 σ 5000 0 0) (5010 + cn x) 3 ((σ (5010 + cn x) 3) ||| (1 <<< ((nI (cn y)) &&& 31)))) (5010 + cn y) 3) ||| (1 <<< ((nI (cn x)) &&& 31))) else u2 (u2 σ 5000 0 0) 5000 0 3)) else u2 (u2 σ 5000 0 0) 5000 0 1) else u2 (u2 σ 5000 0 0) 5000 0 1)
theorem ct_X14_border {l : Launch} {h : XH} (hl : l.stackTraces = false) {z : Int64} {σ : XS9} (hbs : xx_bs h) (hfr : ∀ r, 5000 ≤ r → r < 20010 → h r = none) {R : Nat} (hR : σ 5001 900 = nI R) (hR5 : R ≤ 5) {x y : Int32} : XEx l m_X14_border 9 1 4 [.ref 5000, .int x, .int y] (setM z σ h) (some (.int (f_Mborder σ x y R))) (setM z (g_Mborder σ x y R) h) := by
  refine XMet.of hl rfl rfl (Nat.le_of_ble_eq_true rfl) (fun Y O hh hQ => ?_)
  have hz0 := hbs.1
  show SW Y 1 4 (setM z σ h) 0 [.ref 5000, .int x, .int y, xx_d, xx_d, xx_d] []
  refine sw_aload_n O (xx_dt dd_X14_border 0 rfl) rfl ?_
  refine sw_iconst (x := 0) O (xx_dt dd_X14_border 1 rfl) (by decide) ?_
  refine sw_put (h2 := setM z (u2 σ 5000 0 0) h) O (xx_dt dd_X14_border 2 rfl) cl_X14 fl_X14_46 (lm_mod (σ := σ)) (by decide) (by omega) rfl (fun _ => ⟨rfl, rfl⟩) (pm_mod (σ := σ) (by omega)) ?_
  refine sw_aload_n O (xx_dt dd_X14_border 3 rfl) rfl ?_
  refine sw_iload_n O (xx_dt dd_X14_border 4 rfl) rfl ?_
  refine sw_callVx (as := [.int x]) (st := []) (st2 := [.int (bZ (n_lt x R))]) O (ct_X14_isRegion hl (z := z) (σ := u2 σ 5000 0 0) hbs (R := R) hR (by omega) (x := x)) ce_X14_isRegion ml_X14_91 iv_X14_isRegion cl_X14 rfl (lm_mod (σ := u2 σ 5000 0 0)) (xx_dt dd_X14_border 5 rfl) (by decide) rfl rfl (Nat.le_of_ble_eq_true rfl) rfl ?_
  refine sw_if_eqB (tgt := 21) O (xx_dt dd_X14_border 6 rfl) (by decide) (fun q1 => ?_) (fun q1 => ?_)
  · refine sw_aload_n O (xx_dt dd_X14_border 11 rfl) rfl ?_
    refine sw_iconst (x := 1) O (xx_dt dd_X14_border 12 rfl) (by decide) ?_
    refine sw_callVx (as := [.int 1]) (st := []) (st2 := [.int 0]) O (ct_X14_refuse hl (z := z) (σ := u2 σ 5000 0 0) hbs (x := 1)) ce_X14_refuse ml_X14_74 iv_X14_refuse cl_X14 rfl (lm_mod (σ := u2 σ 5000 0 0)) (xx_dt dd_X14_border 13 rfl) (by decide) rfl rfl (Nat.le_of_ble_eq_true rfl) rfl ?_
    exact sw_iret O (xx_dt dd_X14_border 14 rfl) rfl rfl (by rw [hQ]; exact ⟨by unfold f_Mborder; simp only [if_neg q1], by unfold g_Mborder; simp only [if_neg q1]⟩)
  · have hc10 := q1
    refine sw_lsE (ls2 := [.ref 5000, .int (nI (cn x)), .int y, xx_d, xx_d, xx_d]) (by rw [← hc10.1]) ?_
    have hd10 := hc10.2
    refine sw_aload_n O (xx_dt dd_X14_border 7 rfl) rfl ?_
    refine sw_iload_n O (xx_dt dd_X14_border 8 rfl) rfl ?_
    refine sw_callVx (as := [.int y]) (st := []) (st2 := [.int (bZ (n_lt y R))]) O (ct_X14_isRegion hl (z := z) (σ := u2 σ 5000 0 0) hbs (R := R) hR (by omega) (x := y)) ce_X14_isRegion ml_X14_91 iv_X14_isRegion cl_X14 rfl (lm_mod (σ := u2 σ 5000 0 0)) (xx_dt dd_X14_border 9 rfl) (by decide) rfl rfl (Nat.le_of_ble_eq_true rfl) rfl ?_
    refine sw_if_neB (tgt := 27) O (xx_dt dd_X14_border 10 rfl) (by decide) (fun q2 => ?_) (fun q2 => ?_)
    · have hc18 := q2
      refine sw_lsE (ls2 := [.ref 5000, .int (nI (cn x)), .int (nI (cn y)), xx_d, xx_d, xx_d]) (by rw [← hc18.1]) ?_
      have hd18 := hc18.2
      refine sw_iload_n O (xx_dt dd_X14_border 15 rfl) rfl ?_
      refine sw_iload_n O (xx_dt dd_X14_border 16 rfl) rfl ?_
      refine sw_icmp_ne (tgt := 38) O (xx_dt dd_X14_border 17 rfl) (by decide) (fun q3 => ?_) (fun q3 => ?_)
      · refine sw_aload_n O (xx_dt dd_X14_border 22 rfl) rfl ?_
        refine sw_get (v := .int (σ 5000 1)) O (xx_dt dd_X14_border 23 rfl) cl_X14 fl_X14_77 (lm_mod (σ := u2 σ 5000 0 0)) (by decide) rfl ?_
        refine sw_if_eq (tgt := 51) O (xx_dt dd_X14_border 24 rfl) (by decide) (fun q4 => ?_) (fun q4 => ?_)
        · refine sw_aload_n O (xx_dt dd_X14_border 29 rfl) rfl ?_
          refine sw_get (v := .ref 5001) O (xx_dt dd_X14_border 30 rfl) cl_X14 fl_X14_23 (lm_mod (σ := u2 σ 5000 0 0)) (by decide) rfl ?_
          refine sw_iload_n O (xx_dt dd_X14_border 31 rfl) rfl ?_
          refine sw_callVL (ci := 6) (as := [.int (nI (cn x))]) (st := []) (st2 := [.ref (5010 + cn x)]) O (ct_get hl hbs (lm_5001 (σ := u2 σ 5000 0 0) (R := R) hR (by omega)) (by omega) (i := cn x) (x := 5010 + cn x) (by omega) (by omega) rfl) ce_Jx4a65c_get_915e3 ml_X14_61 iv_Jx4a65c_get_915e3 cl_Jx4a65c rfl (lm_5001 (σ := u2 σ 5000 0 0) (R := R) hR (by omega)) (xx_dt dd_X14_border 32 rfl) (by decide) rfl rfl (Nat.le_of_ble_eq_true rfl) rfl ?_
          refine sw_castO O (xx_dt dd_X14_border 33 rfl) cl_X12 (lm_reg (σ := u2 σ 5000 0 0) (R := R) hR (by omega) (j := cn x) (by omega)) cw_X14_65 ?_
          refine sw_dup O (xx_dt dd_X14_border 34 rfl) rfl ?_
          refine sw_get (v := .int (σ (5010 + cn x) 3)) O (xx_dt dd_X14_border 35 rfl) cl_X12 fl_X14_95 (lm_reg (σ := u2 σ 5000 0 0) (R := R) hR (by omega) (j := cn x) (by omega)) (by decide) (congrArg Value.int (congrFun (u2_ne (by omega)) 3)) ?_
          refine sw_iconst (x := 1) O (xx_dt dd_X14_border 36 rfl) (by decide) ?_
          refine sw_iload_n O (xx_dt dd_X14_border 37 rfl) rfl ?_
          refine sw_ishl O (xx_dt dd_X14_border 38 rfl) ?_
          refine sw_ior O (xx_dt dd_X14_border 39 rfl) ?_
          refine sw_put (h2 := setM z (u2 (u2 σ 5000 0 0) (5010 + cn x) 3 ((σ (5010 + cn x) 3) ||| (1 <<< ((nI (cn y)) &&& 31)))) h) O (xx_dt dd_X14_border 40 rfl) cl_X12 fl_X14_95 (lm_reg (σ := u2 σ 5000 0 0) (R := R) hR (by omega) (j := cn x) (by omega)) (by decide) (by omega) rfl (fun _ => ⟨rfl, rfl⟩) (pm_reg (σ := u2 σ 5000 0 0) (R := R) hR (by omega) (j := cn x) (by omega)) ?_
          refine sw_aload_n O (xx_dt dd_X14_border 41 rfl) rfl ?_
          refine sw_get (v := .ref 5001) O (xx_dt dd_X14_border 42 rfl) cl_X14 fl_X14_23 (lm_mod (σ := u2 (u2 σ 5000 0 0) (5010 + cn x) 3 ((σ (5010 + cn x) 3) ||| (1 <<< ((nI (cn y)) &&& 31))))) (by decide) rfl ?_
          refine sw_iload_n O (xx_dt dd_X14_border 43 rfl) rfl ?_
          refine sw_callVL (ci := 6) (as := [.int (nI (cn y))]) (st := []) (st2 := [.ref (5010 + cn y)]) O (ct_get hl hbs (lm_5001 (σ := u2 (u2 σ 5000 0 0) (5010 + cn x) 3 ((σ (5010 + cn x) 3) ||| (1 <<< ((nI (cn y)) &&& 31)))) (R := R) ((congrFun (u2_ne (by omega)) 900).trans hR) (by omega)) (by omega) (i := cn y) (x := 5010 + cn y) (by omega) (by omega) rfl) ce_Jx4a65c_get_915e3 ml_X14_61 iv_Jx4a65c_get_915e3 cl_Jx4a65c rfl (lm_5001 (σ := u2 (u2 σ 5000 0 0) (5010 + cn x) 3 ((σ (5010 + cn x) 3) ||| (1 <<< ((nI (cn y)) &&& 31)))) (R := R) ((congrFun (u2_ne (by omega)) 900).trans hR) (by omega)) (xx_dt dd_X14_border 44 rfl) (by decide) rfl rfl (Nat.le_of_ble_eq_true rfl) rfl ?_
          refine sw_castO O (xx_dt dd_X14_border 45 rfl) cl_X12 (lm_reg (σ := u2 (u2 σ 5000 0 0) (5010 + cn x) 3 ((σ (5010 + cn x) 3) ||| (1 <<< ((nI (cn y)) &&& 31)))) (R := R) ((congrFun (u2_ne (by omega)) 900).trans hR) (by omega) (j := cn y) (by omega)) cw_X14_65 ?_
          refine sw_dup O (xx_dt dd_X14_border 46 rfl) rfl ?_
          refine sw_get (v := .int ((u2 (u2 σ 5000 0 0) (5010 + cn x) 3 ((σ (5010 + cn x) 3) ||| (1 <<< ((nI (cn y)) &&& 31)))) (5010 + cn y) 3)) O (xx_dt dd_X14_border 47 rfl) cl_X12 fl_X14_95 (lm_reg (σ := u2 (u2 σ 5000 0 0) (5010 + cn x) 3 ((σ (5010 + cn x) 3) ||| (1 <<< ((nI (cn y)) &&& 31)))) (R := R) ((congrFun (u2_ne (by omega)) 900).trans hR) (by omega) (j := cn y) (by omega)) (by decide) rfl ?_
          refine sw_iconst (x := 1) O (xx_dt dd_X14_border 48 rfl) (by decide) ?_
          refine sw_iload_n O (xx_dt dd_X14_border 49 rfl) rfl ?_
          refine sw_ishl O (xx_dt dd_X14_border 50 rfl) ?_
          refine sw_ior O (xx_dt dd_X14_border 51 rfl) ?_
          refine sw_put (h2 := setM z (u2 (u2 (u2 σ 5000 0 0) (5010 + cn x) 3 ((σ (5010 + cn x) 3) ||| (1 <<< ((nI (cn y)) &&& 31)))) (5010 + cn y) 3 (((u2 (u2 σ 5000 0 0) (5010 + cn x) 3 ((σ (5010 + cn x) 3) ||| (1 <<< ((nI (cn y)) &&& 31)))) (5010 + cn y) 3) ||| (1 <<< ((nI (cn x)) &&& 31)))) h) O (xx_dt dd_X14_border 52 rfl) cl_X12 fl_X14_95 (lm_reg (σ := u2 (u2 σ 5000 0 0) (5010 + cn x) 3 ((σ (5010 + cn x) 3) ||| (1 <<< ((nI (cn y)) &&& 31)))) (R := R) ((congrFun (u2_ne (by omega)) 900).trans hR) (by omega) (j := cn y) (by omega)) (by decide) (by omega) rfl (fun _ => ⟨rfl, rfl⟩) (pm_reg (σ := u2 (u2 σ 5000 0 0) (5010 + cn x) 3 ((σ (5010 + cn x) 3) ||| (1 <<< ((nI (cn y)) &&& 31)))) (R := R) ((congrFun (u2_ne (by omega)) 900).trans hR) (by omega) (j := cn y) (by omega)) ?_
          refine sw_iconst (x := 0) O (xx_dt dd_X14_border 53 rfl) (by decide) ?_
          refine sw_istore_n (ls2 := [.ref 5000, .int (nI (cn x)), .int (nI (cn y)), .int 0, xx_d, xx_d]) O (xx_dt dd_X14_border 54 rfl) (by decide) rfl ?_
          refine sw_cls (fun hcl1 => ?_)
          refine sw_dom (fun hdm1 => ?_)
          refine sw_aload_n O (xx_dt dd_X14_border 55 rfl) rfl ?_
          refine sw_get (v := .ref 5001) O (xx_dt dd_X14_border 56 rfl) cl_X14 fl_X14_23 (lm_mod (σ := u2 (u2 (u2 σ 5000 0 0) (5010 + cn x) 3 ((σ (5010 + cn x) 3) ||| (1 <<< ((nI (cn y)) &&& 31)))) (5010 + cn y) 3 (((u2 (u2 σ 5000 0 0) (5010 + cn x) 3 ((σ (5010 + cn x) 3) ||| (1 <<< ((nI (cn y)) &&& 31)))) (5010 + cn y) 3) ||| (1 <<< ((nI (cn x)) &&& 31))))) (by decide) rfl ?_
          have hit : setM z (u2 (u2 (u2 σ 5000 0 0) (5010 + cn x) 3 ((σ (5010 + cn x) 3) ||| (1 <<< ((nI (cn y)) &&& 31)))) (5010 + cn y) 3 (((u2 (u2 σ 5000 0 0) (5010 + cn x) 3 ((σ (5010 + cn x) 3) ||| (1 <<< ((nI (cn y)) &&& 31)))) (5010 + cn y) 3) ||| (1 <<< ((nI (cn x)) &&& 31)))) h 19993 = none := (setM_it (by omega) (by omega)).trans (hfr 19993 (by omega) (by omega))
          refine sw_callVL (k := 0) (n := 0) (k' := 1) (n' := 4) (ci := 6) (as := []) (st := []) (st2 := [.ref 19993]) O (ct_AL_iterator hl (lm_5001 (z := z) (σ := u2 (u2 (u2 σ 5000 0 0) (5010 + cn x) 3 ((σ (5010 + cn x) 3) ||| (1 <<< ((nI (cn y)) &&& 31)))) (5010 + cn y) 3 (((u2 (u2 σ 5000 0 0) (5010 + cn x) 3 ((σ (5010 + cn x) 3) ||| (1 <<< ((nI (cn y)) &&& 31)))) (5010 + cn y) 3) ||| (1 <<< ((nI (cn x)) &&& 31)))) (h := h) (R := R) (((congrFun (u2_ne (by omega)) 900).trans (congrFun (u2_ne (by omega)) 900)).trans hR) (by omega)) hit (by omega)) ce_Jx4a65c_iterator_32c93 ml_X14_98 iv_Jx4a65c_iterator_32c93 cl_Jx4a65c rfl (lm_5001 (z := z) (σ := u2 (u2 (u2 σ 5000 0 0) (5010 + cn x) 3 ((σ (5010 + cn x) 3) ||| (1 <<< ((nI (cn y)) &&& 31)))) (5010 + cn y) 3 (((u2 (u2 σ 5000 0 0) (5010 + cn x) 3 ((σ (5010 + cn x) 3) ||| (1 <<< ((nI (cn y)) &&& 31)))) (5010 + cn y) 3) ||| (1 <<< ((nI (cn x)) &&& 31)))) (h := h) (R := R) (((congrFun (u2_ne (by omega)) 900).trans (congrFun (u2_ne (by omega)) 900)).trans hR) (by omega)) (xx_dt dd_X14_border 57 rfl) (by decide) rfl rfl (Nat.le_of_ble_eq_true rfl) rfl ?_
          refine sw_astore (ls2 := [.ref 5000, .int (nI (cn x)), .int (nI (cn y)), .int 0, .ref 19993, xx_d]) O (xx_dt dd_X14_border 58 rfl) (by decide) rfl ?_
          show SW Y 0 0 (xx_up (setM z (u2 (u2 (u2 σ 5000 0 0) (5010 + cn x) 3 ((σ (5010 + cn x) 3) ||| (1 <<< ((nI (cn y)) &&& 31)))) (5010 + cn y) 3 (((u2 (u2 σ 5000 0 0) (5010 + cn x) 3 ((σ (5010 + cn x) 3) ||| (1 <<< ((nI (cn y)) &&& 31)))) (5010 + cn y) 3) ||| (1 <<< ((nI (cn x)) &&& 31)))) h) 19993 (5, 4, itF R 0)) 106 [.ref 5000, .int (nI (cn x)), .int (nI (cn y)), .int 0, .ref 19993, xx_d] []
          refine sw_fori (S := Int32) (f := (fun i9 s9 => s9 + f_bitCount ((u2 (u2 (u2 σ 5000 0 0) (5010 + cn x) 3 ((σ (5010 + cn x) 3) ||| (1 <<< ((nI (cn y)) &&& 31)))) (5010 + cn y) 3 (((u2 (u2 σ 5000 0 0) (5010 + cn x) 3 ((σ (5010 + cn x) 3) ||| (1 <<< ((nI (cn y)) &&& 31)))) (5010 + cn y) 3) ||| (1 <<< ((nI (cn x)) &&& 31)))) (5010 + i9) 3))) (hp := fun i9 => xx_up (setM z (u2 (u2 (u2 σ 5000 0 0) (5010 + cn x) 3 ((σ (5010 + cn x) 3) ||| (1 <<< ((nI (cn y)) &&& 31)))) (5010 + cn y) 3 (((u2 (u2 σ 5000 0 0) (5010 + cn x) 3 ((σ (5010 + cn x) 3) ||| (1 <<< ((nI (cn y)) &&& 31)))) (5010 + cn y) 3) ||| (1 <<< ((nI (cn x)) &&& 31)))) h) 19993 (5, 4, itF R i9)) (lc := fun i9 s9 => [.ref 5000, .int (nI (cn x)), .int (nI (cn y)), .int s9, .ref 19993, xx_d]) (N := R) (fun i9 s9 hi9 kk9 => ?_) R 0 0 (by omega) ?_
          · refine sw_aload O (xx_dt dd_X14_border 59 rfl) rfl ?_
            refine sw_callF (k' := 0) (n' := 0) (as := []) (st := []) (st2 := [.int 1]) O (ct_hasN hl (n := R) (i := i9) (la := _) (xx_up_eq _ _ _) (by omega) ((xx_up_ne (by omega)).trans (lm_5001 (z := z) (σ := u2 (u2 (u2 σ 5000 0 0) (5010 + cn x) 3 ((σ (5010 + cn x) 3) ||| (1 <<< ((nI (cn y)) &&& 31)))) (5010 + cn y) 3 (((u2 (u2 σ 5000 0 0) (5010 + cn x) 3 ((σ (5010 + cn x) 3) ||| (1 <<< ((nI (cn y)) &&& 31)))) (5010 + cn y) 3) ||| (1 <<< ((nI (cn x)) &&& 31)))) (h := h) (R := R) (((congrFun (u2_ne (by omega)) 900).trans (congrFun (u2_ne (by omega)) 900)).trans hR) (by omega))) (by omega) hi9) ce_Jx35411_hasNext_aae02 if_X14_102 cl_Jx35411 rfl (xx_up_eq _ _ _) (xx_dt dd_X14_border 60 rfl) (by decide) rfl rfl (Nat.le_of_ble_eq_true rfl) rfl ?_
            refine sw_if_eq (tgt := 142) O (xx_dt dd_X14_border 61 rfl) (by decide) (fun q9 => absurd q9 (by decide)) (fun _ => ?_)
            refine sw_aload O (xx_dt dd_X14_border 62 rfl) rfl ?_
            refine sw_callF (k' := 0) (n' := 0) (as := []) (st := []) (st2 := [.ref (5010 + i9)]) O (ct_It_next hl (n := R) (i := i9) (la := _) (e := 19990) (x := 5010 + i9) (xx_up_eq _ _ _) (by omega) ((xx_up_ne (by omega)).trans (lm_5001 (z := z) (σ := u2 (u2 (u2 σ 5000 0 0) (5010 + cn x) 3 ((σ (5010 + cn x) 3) ||| (1 <<< ((nI (cn y)) &&& 31)))) (5010 + cn y) 3 (((u2 (u2 σ 5000 0 0) (5010 + cn x) 3 ((σ (5010 + cn x) 3) ||| (1 <<< ((nI (cn y)) &&& 31)))) (5010 + cn y) 3) ||| (1 <<< ((nI (cn x)) &&& 31)))) (h := h) (R := R) (((congrFun (u2_ne (by omega)) 900).trans (congrFun (u2_ne (by omega)) 900)).trans hR) (by omega))) (by omega) ((xx_up_ne (by omega)).trans (setM_no2 hbs).1) (by omega) (by omega) (f0 := hz0.choose) ((xx_up_ne (by omega)).trans ((setM_out (by omega)).trans hz0.choose_spec)) hi9 rfl) ce_Jx35411_next_0502b if_X14_108 cl_Jx35411 rfl (xx_up_eq _ _ _) (xx_dt dd_X14_border 63 rfl) (by decide) rfl rfl (Nat.le_of_ble_eq_true rfl) rfl ?_
            rw [xx_up_up]
            refine sw_castO O (xx_dt dd_X14_border 64 rfl) cl_X12 ((xx_up_ne (by omega)).trans (lm_reg (z := z) (σ := u2 (u2 (u2 σ 5000 0 0) (5010 + cn x) 3 ((σ (5010 + cn x) 3) ||| (1 <<< ((nI (cn y)) &&& 31)))) (5010 + cn y) 3 (((u2 (u2 σ 5000 0 0) (5010 + cn x) 3 ((σ (5010 + cn x) 3) ||| (1 <<< ((nI (cn y)) &&& 31)))) (5010 + cn y) 3) ||| (1 <<< ((nI (cn x)) &&& 31)))) (h := h) (R := R) (((congrFun (u2_ne (by omega)) 900).trans (congrFun (u2_ne (by omega)) 900)).trans hR) (by omega) (j := i9) (by omega))) cw_X14_65 ?_
            refine sw_astore (ls2 := [.ref 5000, .int (nI (cn x)), .int (nI (cn y)), .int s9, .ref 19993, .ref (5010 + i9)]) O (xx_dt dd_X14_border 65 rfl) (by decide) rfl ?_
            refine sw_iload_n O (xx_dt dd_X14_border 66 rfl) rfl ?_
            refine sw_aload O (xx_dt dd_X14_border 67 rfl) rfl ?_
            refine sw_get (v := .int ((u2 (u2 (u2 σ 5000 0 0) (5010 + cn x) 3 ((σ (5010 + cn x) 3) ||| (1 <<< ((nI (cn y)) &&& 31)))) (5010 + cn y) 3 (((u2 (u2 σ 5000 0 0) (5010 + cn x) 3 ((σ (5010 + cn x) 3) ||| (1 <<< ((nI (cn y)) &&& 31)))) (5010 + cn y) 3) ||| (1 <<< ((nI (cn x)) &&& 31)))) (5010 + i9) 3)) O (xx_dt dd_X14_border 68 rfl) cl_X12 fl_X14_95 ((xx_up_ne (by omega)).trans (lm_reg (z := z) (σ := u2 (u2 (u2 σ 5000 0 0) (5010 + cn x) 3 ((σ (5010 + cn x) 3) ||| (1 <<< ((nI (cn y)) &&& 31)))) (5010 + cn y) 3 (((u2 (u2 σ 5000 0 0) (5010 + cn x) 3 ((σ (5010 + cn x) 3) ||| (1 <<< ((nI (cn y)) &&& 31)))) (5010 + cn y) 3) ||| (1 <<< ((nI (cn x)) &&& 31)))) (h := h) (R := R) (((congrFun (u2_ne (by omega)) 900).trans (congrFun (u2_ne (by omega)) 900)).trans hR) (by omega) (j := i9) (by omega))) (by decide) rfl ?_
            refine sw_callSx (as := [.int ((u2 (u2 (u2 σ 5000 0 0) (5010 + cn x) 3 ((σ (5010 + cn x) 3) ||| (1 <<< ((nI (cn y)) &&& 31)))) (5010 + cn y) 3 (((u2 (u2 σ 5000 0 0) (5010 + cn x) 3 ((σ (5010 + cn x) 3) ||| (1 <<< ((nI (cn y)) &&& 31)))) (5010 + cn y) 3) ||| (1 <<< ((nI (cn x)) &&& 31)))) (5010 + i9) 3)]) (st := [.int s9]) (st2 := [.int (f_bitCount ((u2 (u2 (u2 σ 5000 0 0) (5010 + cn x) 3 ((σ (5010 + cn x) 3) ||| (1 <<< ((nI (cn y)) &&& 31)))) (5010 + cn y) 3 (((u2 (u2 σ 5000 0 0) (5010 + cn x) 3 ((σ (5010 + cn x) 3) ||| (1 <<< ((nI (cn y)) &&& 31)))) (5010 + cn y) 3) ||| (1 <<< ((nI (cn x)) &&& 31)))) (5010 + i9) 3)), .int s9]) O (ct_J6_bitCount_0f7a4 hl (x := (u2 (u2 (u2 σ 5000 0 0) (5010 + cn x) 3 ((σ (5010 + cn x) 3) ||| (1 <<< ((nI (cn y)) &&& 31)))) (5010 + cn y) 3 (((u2 (u2 σ 5000 0 0) (5010 + cn x) 3 ((σ (5010 + cn x) 3) ||| (1 <<< ((nI (cn y)) &&& 31)))) (5010 + cn y) 3) ||| (1 <<< ((nI (cn x)) &&& 31)))) (5010 + i9) 3)) ce_J6_bitCount_0f7a4 ml_X14_112 st_J6_bitCount_0f7a4 (xx_dt dd_X14_border 69 rfl) (by decide) rfl rfl (Nat.le_of_ble_eq_true rfl) rfl ?_
            refine sw_iadd O (xx_dt dd_X14_border 70 rfl) ?_
            refine sw_istore_n (ls2 := [.ref 5000, .int (nI (cn x)), .int (nI (cn y)), .int (s9 + (f_bitCount ((u2 (u2 (u2 σ 5000 0 0) (5010 + cn x) 3 ((σ (5010 + cn x) 3) ||| (1 <<< ((nI (cn y)) &&& 31)))) (5010 + cn y) 3 (((u2 (u2 σ 5000 0 0) (5010 + cn x) 3 ((σ (5010 + cn x) 3) ||| (1 <<< ((nI (cn y)) &&& 31)))) (5010 + cn y) 3) ||| (1 <<< ((nI (cn x)) &&& 31)))) (5010 + i9) 3))), .ref 19993, .ref (5010 + i9)]) O (xx_dt dd_X14_border 71 rfl) (by decide) rfl ?_
            refine sw_goto (tgt := 106) O (xx_dt dd_X14_border 72 rfl) (by decide) ?_
            refine sw_dum (ls2 := [.ref 5000, .int (nI (cn x)), .int (nI (cn y)), .int (s9 + (f_bitCount ((u2 (u2 (u2 σ 5000 0 0) (5010 + cn x) 3 ((σ (5010 + cn x) 3) ||| (1 <<< ((nI (cn y)) &&& 31)))) (5010 + cn y) 3 (((u2 (u2 σ 5000 0 0) (5010 + cn x) 3 ((σ (5010 + cn x) 3) ||| (1 <<< ((nI (cn y)) &&& 31)))) (5010 + cn y) 3) ||| (1 <<< ((nI (cn x)) &&& 31)))) (5010 + i9) 3))), .ref 19993, xx_d]) ⟨.inr rfl, .inr rfl, .inr rfl, .inr rfl, .inr rfl, .inl rfl, trivial⟩ ?_
            exact kk9
          · show SW Y 0 0 (xx_up (setM z (u2 (u2 (u2 σ 5000 0 0) (5010 + cn x) 3 ((σ (5010 + cn x) 3) ||| (1 <<< ((nI (cn y)) &&& 31)))) (5010 + cn y) 3 (((u2 (u2 σ 5000 0 0) (5010 + cn x) 3 ((σ (5010 + cn x) 3) ||| (1 <<< ((nI (cn y)) &&& 31)))) (5010 + cn y) 3) ||| (1 <<< ((nI (cn x)) &&& 31)))) h) 19993 (5, 4, itF R R)) 106 [.ref 5000, .int (nI (cn x)), .int (nI (cn y)), .int (xit (fun i9 s9 => s9 + f_bitCount ((u2 (u2 (u2 σ 5000 0 0) (5010 + cn x) 3 ((σ (5010 + cn x) 3) ||| (1 <<< ((nI (cn y)) &&& 31)))) (5010 + cn y) 3 (((u2 (u2 σ 5000 0 0) (5010 + cn x) 3 ((σ (5010 + cn x) 3) ||| (1 <<< ((nI (cn y)) &&& 31)))) (5010 + cn y) 3) ||| (1 <<< ((nI (cn x)) &&& 31)))) (5010 + i9) 3)) R 0 0), .ref 19993, xx_d] []
            refine sw_aload O (xx_dt dd_X14_border 59 rfl) rfl ?_
            refine sw_callF (k' := 0) (n' := 0) (as := []) (st := []) (st2 := [.int 0]) O (ct_hasE hl (n := R) (la := _) (xx_up_eq _ _ _) (by omega) ((xx_up_ne (by omega)).trans (lm_5001 (z := z) (σ := u2 (u2 (u2 σ 5000 0 0) (5010 + cn x) 3 ((σ (5010 + cn x) 3) ||| (1 <<< ((nI (cn y)) &&& 31)))) (5010 + cn y) 3 (((u2 (u2 σ 5000 0 0) (5010 + cn x) 3 ((σ (5010 + cn x) 3) ||| (1 <<< ((nI (cn y)) &&& 31)))) (5010 + cn y) 3) ||| (1 <<< ((nI (cn x)) &&& 31)))) (h := h) (R := R) (((congrFun (u2_ne (by omega)) 900).trans (congrFun (u2_ne (by omega)) 900)).trans hR) (by omega))) (by omega)) ce_Jx35411_hasNext_aae02 if_X14_102 cl_Jx35411 rfl (xx_up_eq _ _ _) (xx_dt dd_X14_border 60 rfl) (by decide) rfl rfl (Nat.le_of_ble_eq_true rfl) rfl ?_
            refine sw_if_eq (tgt := 142) O (xx_dt dd_X14_border 61 rfl) (by decide) (fun _ => ?_) (fun q9 => absurd rfl q9)
            refine sw_iload_n O (xx_dt dd_X14_border 73 rfl) rfl ?_
            refine sw_iconst (x := 2) O (xx_dt dd_X14_border 74 rfl) (by decide) ?_
            refine sw_idiv O (xx_dt dd_X14_border 75 rfl) (by first | decide | assumption) ?_
            exact sw_iretD (h' := setM z (u2 (u2 (u2 σ 5000 0 0) (5010 + cn x) 3 ((σ (5010 + cn x) 3) ||| (1 <<< ((nI (cn y)) &&& 31)))) (5010 + cn y) 3 (((u2 (u2 σ 5000 0 0) (5010 + cn x) 3 ((σ (5010 + cn x) 3) ||| (1 <<< ((nI (cn y)) &&& 31)))) (5010 + cn y) 3) ||| (1 <<< ((nI (cn x)) &&& 31)))) h) O (xx_dt dd_X14_border 76 rfl) rfl rfl (sub_up hit) hcl1 hdm1 (by rw [hQ]; exact ⟨by unfold f_Mborder; simp only [if_pos q1, if_pos q2, if_neg q3, if_pos q4], by unfold g_Mborder; simp only [if_pos q1, if_pos q2, if_neg q3, if_pos q4]⟩)
        · refine sw_aload_n O (xx_dt dd_X14_border 25 rfl) rfl ?_
          refine sw_iconst (x := 3) O (xx_dt dd_X14_border 26 rfl) (by decide) ?_
          refine sw_callVx (as := [.int 3]) (st := []) (st2 := [.int 0]) O (ct_X14_refuse hl (z := z) (σ := u2 σ 5000 0 0) hbs (x := 3)) ce_X14_refuse ml_X14_74 iv_X14_refuse cl_X14 rfl (lm_mod (σ := u2 σ 5000 0 0)) (xx_dt dd_X14_border 27 rfl) (by decide) rfl rfl (Nat.le_of_ble_eq_true rfl) rfl ?_
          exact sw_iret O (xx_dt dd_X14_border 28 rfl) rfl rfl (by rw [hQ]; exact ⟨by unfold f_Mborder; simp only [if_pos q1, if_pos q2, if_neg q3, if_neg q4], by unfold g_Mborder; simp only [if_pos q1, if_pos q2, if_neg q3, if_neg q4]⟩)
      · refine sw_aload_n O (xx_dt dd_X14_border 18 rfl) rfl ?_
        refine sw_iconst (x := 2) O (xx_dt dd_X14_border 19 rfl) (by decide) ?_
        refine sw_callVx (as := [.int 2]) (st := []) (st2 := [.int 0]) O (ct_X14_refuse hl (z := z) (σ := u2 σ 5000 0 0) hbs (x := 2)) ce_X14_refuse ml_X14_74 iv_X14_refuse cl_X14 rfl (lm_mod (σ := u2 σ 5000 0 0)) (xx_dt dd_X14_border 20 rfl) (by decide) rfl rfl (Nat.le_of_ble_eq_true rfl) rfl ?_
        exact sw_iret O (xx_dt dd_X14_border 21 rfl) rfl rfl (by rw [hQ]; exact ⟨by unfold f_Mborder; simp only [if_pos q1, if_pos q2, if_pos q3], by unfold g_Mborder; simp only [if_pos q1, if_pos q2, if_pos q3]⟩)
    · refine sw_aload_n O (xx_dt dd_X14_border 11 rfl) rfl ?_
      refine sw_iconst (x := 1) O (xx_dt dd_X14_border 12 rfl) (by decide) ?_
      refine sw_callVx (as := [.int 1]) (st := []) (st2 := [.int 0]) O (ct_X14_refuse hl (z := z) (σ := u2 σ 5000 0 0) hbs (x := 1)) ce_X14_refuse ml_X14_74 iv_X14_refuse cl_X14 rfl (lm_mod (σ := u2 σ 5000 0 0)) (xx_dt dd_X14_border 13 rfl) (by decide) rfl rfl (Nat.le_of_ble_eq_true rfl) rfl ?_
      exact sw_iret O (xx_dt dd_X14_border 14 rfl) rfl rfl (by rw [hQ]; exact ⟨by unfold f_Mborder; simp only [if_pos q1, if_neg q2], by unfold g_Mborder; simp only [if_pos q1, if_neg q2]⟩)
theorem fr_Kinit {σ : XS9} {b R B q : Nat} (h : q < b ∨ b + 1000 ≤ q) : g_Kinit σ b R B q = σ q := by
  unfold g_Kinit x_Kinit_132 x_Kinit_95
  rw [xit_keep (fun s : XS9 => s q) (fun i s => by (try dsimp only); rw [u2_ne (by omega), u2_ne (by omega)]), xit_keep (fun s : XS9 => s q) (fun i s => by (try dsimp only); rw [u2_ne (by omega)]), fr_clk0 h]
def f_Mopen (σ : XS9) (R B : Nat) : Int32 := (if (σ 5000 1) = 0 then (if R = 0 then 0 else (if B = 0 then 0 else xit (fun i9 s9 => s9 + (u2 (g_Kinit (u2 (u2 σ 5000 0 0) 5000 1 1) 7000 R B) 7000 25 1) (5010 + i9) 2) R 0 0)) else 0)
def g_Mopen (σ : XS9) (R B : Nat) : XS9 := (if (σ 5000 1) = 0 then (if R = 0 then u2 (u2 σ 5000 0 0) 5000 0 1 else (if B = 0 then u2 (u2 σ 5000 0 0) 5000 0 1 else u2 (g_Kinit (u2 (u2 σ 5000 0 0) 5000 1 1) 7000 R B) 7000 25 1)) else u2 (u2 σ 5000 0 0) 5000 0 1)
theorem ct_X14_open {l : Launch} {h : XH} (hl : l.stackTraces = false) {z : Int64} {σ : XS9} (hbs : xx_bs h) (hfr : ∀ r, 5000 ≤ r → r < 20010 → h r = none) {R : Nat} (hR : σ 5001 900 = nI R) (hR5 : R ≤ 5) {B : Nat} (hB : σ 5002 900 = nI B) (hB6 : B ≤ 6) (hk0 : σ 5000 1 = 0 → σ 7000 20 = 0) : XEx l m_X14_open 10 11 62 [.ref 5000] (setM z σ h) (some (.int (f_Mopen σ R B))) (setM z (g_Mopen σ R B) h) := by
  refine XMet.of hl rfl rfl (Nat.le_of_ble_eq_true rfl) (fun Y O hh hQ => ?_)
  have hz0 := hbs.1
  show SW Y 11 62 (setM z σ h) 0 [.ref 5000, xx_d, xx_d, xx_d] []
  refine sw_aload_n O (xx_dt dd_X14_open 0 rfl) rfl ?_
  refine sw_iconst (x := 0) O (xx_dt dd_X14_open 1 rfl) (by decide) ?_
  refine sw_put (h2 := setM z (u2 σ 5000 0 0) h) O (xx_dt dd_X14_open 2 rfl) cl_X14 fl_X14_46 (lm_mod (σ := σ)) (by decide) (by omega) rfl (fun _ => ⟨rfl, rfl⟩) (pm_mod (σ := σ) (by omega)) ?_
  refine sw_aload_n O (xx_dt dd_X14_open 3 rfl) rfl ?_
  refine sw_get (v := .int (σ 5000 1)) O (xx_dt dd_X14_open 4 rfl) cl_X14 fl_X14_77 (lm_mod (σ := u2 σ 5000 0 0)) (by decide) rfl ?_
  refine sw_if_ne (tgt := 32) O (xx_dt dd_X14_open 5 rfl) (by decide) (fun q1 => ?_) (fun q1 => ?_)
  · refine sw_aload_n O (xx_dt dd_X14_open 14 rfl) rfl ?_
    refine sw_iconst (x := 1) O (xx_dt dd_X14_open 15 rfl) (by decide) ?_
    refine sw_callVx (as := [.int 1]) (st := []) (st2 := [.int 0]) O (ct_X14_refuse hl (z := z) (σ := u2 σ 5000 0 0) hbs (x := 1)) ce_X14_refuse ml_X14_74 iv_X14_refuse cl_X14 rfl (lm_mod (σ := u2 σ 5000 0 0)) (xx_dt dd_X14_open 16 rfl) (by decide) rfl rfl (Nat.le_of_ble_eq_true rfl) rfl ?_
    exact sw_iret O (xx_dt dd_X14_open 17 rfl) rfl rfl (by rw [hQ]; exact ⟨by unfold f_Mopen; simp only [if_neg q1], by unfold g_Mopen; simp only [if_neg q1]⟩)
  · refine sw_aload_n O (xx_dt dd_X14_open 6 rfl) rfl ?_
    refine sw_get (v := .ref 5001) O (xx_dt dd_X14_open 7 rfl) cl_X14 fl_X14_23 (lm_mod (σ := u2 σ 5000 0 0)) (by decide) rfl ?_
    refine sw_callVL (ci := 6) (as := []) (st := []) (st2 := [.int (bZ (R = 0))]) O (ct_AL_isEmpty hl (lm_5001 (σ := u2 σ 5000 0 0) (R := R) hR (by omega)) (by omega)) ce_Jx4a65c_isEmpty_aae02 ml_X14_133 iv_Jx4a65c_isEmpty_aae02 cl_Jx4a65c rfl (lm_5001 (σ := u2 σ 5000 0 0) (R := R) hR (by omega)) (xx_dt dd_X14_open 8 rfl) (by decide) rfl rfl (Nat.le_of_ble_eq_true rfl) rfl ?_
    refine sw_if_neB (tgt := 32) O (xx_dt dd_X14_open 9 rfl) (by decide) (fun q2 => ?_) (fun q2 => ?_)
    · refine sw_aload_n O (xx_dt dd_X14_open 14 rfl) rfl ?_
      refine sw_iconst (x := 1) O (xx_dt dd_X14_open 15 rfl) (by decide) ?_
      refine sw_callVx (as := [.int 1]) (st := []) (st2 := [.int 0]) O (ct_X14_refuse hl (z := z) (σ := u2 σ 5000 0 0) hbs (x := 1)) ce_X14_refuse ml_X14_74 iv_X14_refuse cl_X14 rfl (lm_mod (σ := u2 σ 5000 0 0)) (xx_dt dd_X14_open 16 rfl) (by decide) rfl rfl (Nat.le_of_ble_eq_true rfl) rfl ?_
      exact sw_iret O (xx_dt dd_X14_open 17 rfl) rfl rfl (by rw [hQ]; exact ⟨by unfold f_Mopen; simp only [if_pos q1, if_pos q2], by unfold g_Mopen; simp only [if_pos q1, if_pos q2]⟩)
    · refine sw_aload_n O (xx_dt dd_X14_open 10 rfl) rfl ?_
      refine sw_get (v := .ref 5002) O (xx_dt dd_X14_open 11 rfl) cl_X14 fl_X14_27 (lm_mod (σ := u2 σ 5000 0 0)) (by decide) rfl ?_
      refine sw_callVL (ci := 6) (as := []) (st := []) (st2 := [.int (bZ (B = 0))]) O (ct_AL_isEmpty hl (lm_5002 (σ := u2 σ 5000 0 0) (B := B) hB (by omega)) (by omega)) ce_Jx4a65c_isEmpty_aae02 ml_X14_133 iv_Jx4a65c_isEmpty_aae02 cl_Jx4a65c rfl (lm_5002 (σ := u2 σ 5000 0 0) (B := B) hB (by omega)) (xx_dt dd_X14_open 12 rfl) (by decide) rfl rfl (Nat.le_of_ble_eq_true rfl) rfl ?_
      refine sw_if_eqB (tgt := 38) O (xx_dt dd_X14_open 13 rfl) (by decide) (fun q3 => ?_) (fun q3 => ?_)
      · refine sw_aload_n O (xx_dt dd_X14_open 18 rfl) rfl ?_
        refine sw_iconst (x := 1) O (xx_dt dd_X14_open 19 rfl) (by decide) ?_
        refine sw_put (h2 := setM z (u2 (u2 σ 5000 0 0) 5000 1 1) h) O (xx_dt dd_X14_open 20 rfl) cl_X14 fl_X14_77 (lm_mod (σ := u2 σ 5000 0 0)) (by decide) (by omega) rfl (fun _ => ⟨rfl, rfl⟩) (pm_mod (σ := u2 σ 5000 0 0) (by omega)) ?_
        refine sw_aload_n O (xx_dt dd_X14_open 21 rfl) rfl ?_
        refine sw_new (k := 10) (n := 51) (r := 7000) O (xx_dt dd_X14_open 22 rfl) cl_X11 nw_X14_136 (noK_r (z := z) (σ := u2 (u2 σ 5000 0 0) 5000 1 1) (r := 7000) (.inl rfl) (hk0 q1) (by omega) (by omega) hfr) (by omega) ?_
        rw [xx_blk_up]
        refine sw_dup O (xx_dt dd_X14_open 23 rfl) rfl ?_
        refine sw_aload_n O (xx_dt dd_X14_open 24 rfl) rfl ?_
        refine sw_callIx (k := 1) (n := 4) (k' := 9) (n' := 47) (as := [.ref 5000]) (st := [.ref 7000, .ref 5000]) (st2 := [.ref 7000, .ref 5000]) O (ct_Kinit hl (z := z) (σ := u2 (u2 σ 5000 0 0) 5000 1 1) hbs hfr (R := R) hR (by omega) (B := B) hB (by omega) (b := 7000) (.inl rfl) (hk0 q1)) ce_X11_init ml_X14_138 ii_X11_init (xx_dt dd_X14_open 25 rfl) (by decide) rfl rfl (Nat.le_of_ble_eq_true rfl) rfl ?_
        refine sw_put (h2 := setM z (u2 (g_Kinit (u2 (u2 σ 5000 0 0) 5000 1 1) 7000 R B) 7000 25 1) h) O (xx_dt dd_X14_open 26 rfl) cl_X14 fl_X14_141 (lm_mod (σ := g_Kinit (u2 (u2 σ 5000 0 0) 5000 1 1) 7000 R B)) (by decide) (by omega) rfl (fun _ => ⟨rfl, rfl⟩) pm_clkset ?_
        refine sw_iconst (x := 0) O (xx_dt dd_X14_open 27 rfl) (by decide) ?_
        refine sw_istore_n (ls2 := [.ref 5000, .int 0, xx_d, xx_d]) O (xx_dt dd_X14_open 28 rfl) (by decide) rfl ?_
        refine sw_cls (fun hcl1 => ?_)
        refine sw_dom (fun hdm1 => ?_)
        refine sw_aload_n O (xx_dt dd_X14_open 29 rfl) rfl ?_
        refine sw_get (v := .ref 5001) O (xx_dt dd_X14_open 30 rfl) cl_X14 fl_X14_23 (lm_mod (σ := u2 (g_Kinit (u2 (u2 σ 5000 0 0) 5000 1 1) 7000 R B) 7000 25 1)) (by decide) rfl ?_
        have hit : setM z (u2 (g_Kinit (u2 (u2 σ 5000 0 0) 5000 1 1) 7000 R B) 7000 25 1) h 19993 = none := (setM_it (by omega) (by omega)).trans (hfr 19993 (by omega) (by omega))
        refine sw_callVL (k := 0) (n := 0) (k' := 1) (n' := 4) (ci := 6) (as := []) (st := []) (st2 := [.ref 19993]) O (ct_AL_iterator hl (lm_5001 (z := z) (σ := u2 (g_Kinit (u2 (u2 σ 5000 0 0) 5000 1 1) 7000 R B) 7000 25 1) (h := h) (R := R) (((congrFun (u2_ne (by omega)) 900).trans (congrFun (fr_Kinit (by omega)) 900)).trans hR) (by omega)) hit (by omega)) ce_Jx4a65c_iterator_32c93 ml_X14_98 iv_Jx4a65c_iterator_32c93 cl_Jx4a65c rfl (lm_5001 (z := z) (σ := u2 (g_Kinit (u2 (u2 σ 5000 0 0) 5000 1 1) 7000 R B) 7000 25 1) (h := h) (R := R) (((congrFun (u2_ne (by omega)) 900).trans (congrFun (fr_Kinit (by omega)) 900)).trans hR) (by omega)) (xx_dt dd_X14_open 31 rfl) (by decide) rfl rfl (Nat.le_of_ble_eq_true rfl) rfl ?_
        refine sw_astore_n (ls2 := [.ref 5000, .int 0, .ref 19993, xx_d]) O (xx_dt dd_X14_open 32 rfl) (by decide) rfl ?_
        show SW Y 0 0 (xx_up (setM z (u2 (g_Kinit (u2 (u2 σ 5000 0 0) 5000 1 1) 7000 R B) 7000 25 1) h) 19993 (5, 4, itF R 0)) 65 [.ref 5000, .int 0, .ref 19993, xx_d] []
        refine sw_fori (S := Int32) (f := (fun i9 s9 => s9 + (u2 (g_Kinit (u2 (u2 σ 5000 0 0) 5000 1 1) 7000 R B) 7000 25 1) (5010 + i9) 2)) (hp := fun i9 => xx_up (setM z (u2 (g_Kinit (u2 (u2 σ 5000 0 0) 5000 1 1) 7000 R B) 7000 25 1) h) 19993 (5, 4, itF R i9)) (lc := fun i9 s9 => [.ref 5000, .int s9, .ref 19993, xx_d]) (N := R) (fun i9 s9 hi9 kk9 => ?_) R 0 0 (by omega) ?_
        · refine sw_aload_n O (xx_dt dd_X14_open 33 rfl) rfl ?_
          refine sw_callF (k' := 0) (n' := 0) (as := []) (st := []) (st2 := [.int 1]) O (ct_hasN hl (n := R) (i := i9) (la := _) (xx_up_eq _ _ _) (by omega) ((xx_up_ne (by omega)).trans (lm_5001 (z := z) (σ := u2 (g_Kinit (u2 (u2 σ 5000 0 0) 5000 1 1) 7000 R B) 7000 25 1) (h := h) (R := R) (((congrFun (u2_ne (by omega)) 900).trans (congrFun (fr_Kinit (by omega)) 900)).trans hR) (by omega))) (by omega) hi9) ce_Jx35411_hasNext_aae02 if_X14_102 cl_Jx35411 rfl (xx_up_eq _ _ _) (xx_dt dd_X14_open 34 rfl) (by decide) rfl rfl (Nat.le_of_ble_eq_true rfl) rfl ?_
          refine sw_if_eq (tgt := 94) O (xx_dt dd_X14_open 35 rfl) (by decide) (fun q9 => absurd q9 (by decide)) (fun _ => ?_)
          refine sw_aload_n O (xx_dt dd_X14_open 36 rfl) rfl ?_
          refine sw_callF (k' := 0) (n' := 0) (as := []) (st := []) (st2 := [.ref (5010 + i9)]) O (ct_It_next hl (n := R) (i := i9) (la := _) (e := 19990) (x := 5010 + i9) (xx_up_eq _ _ _) (by omega) ((xx_up_ne (by omega)).trans (lm_5001 (z := z) (σ := u2 (g_Kinit (u2 (u2 σ 5000 0 0) 5000 1 1) 7000 R B) 7000 25 1) (h := h) (R := R) (((congrFun (u2_ne (by omega)) 900).trans (congrFun (fr_Kinit (by omega)) 900)).trans hR) (by omega))) (by omega) ((xx_up_ne (by omega)).trans (setM_no2 hbs).1) (by omega) (by omega) (f0 := hz0.choose) ((xx_up_ne (by omega)).trans ((setM_out (by omega)).trans hz0.choose_spec)) hi9 rfl) ce_Jx35411_next_0502b if_X14_108 cl_Jx35411 rfl (xx_up_eq _ _ _) (xx_dt dd_X14_open 37 rfl) (by decide) rfl rfl (Nat.le_of_ble_eq_true rfl) rfl ?_
          rw [xx_up_up]
          refine sw_castO O (xx_dt dd_X14_open 38 rfl) cl_X12 ((xx_up_ne (by omega)).trans (lm_reg (z := z) (σ := u2 (g_Kinit (u2 (u2 σ 5000 0 0) 5000 1 1) 7000 R B) 7000 25 1) (h := h) (R := R) (((congrFun (u2_ne (by omega)) 900).trans (congrFun (fr_Kinit (by omega)) 900)).trans hR) (by omega) (j := i9) (by omega))) cw_X14_65 ?_
          refine sw_astore_n (ls2 := [.ref 5000, .int s9, .ref 19993, .ref (5010 + i9)]) O (xx_dt dd_X14_open 39 rfl) (by decide) rfl ?_
          refine sw_iload_n O (xx_dt dd_X14_open 40 rfl) rfl ?_
          refine sw_aload_n O (xx_dt dd_X14_open 41 rfl) rfl ?_
          refine sw_get (v := .int ((u2 (g_Kinit (u2 (u2 σ 5000 0 0) 5000 1 1) 7000 R B) 7000 25 1) (5010 + i9) 2)) O (xx_dt dd_X14_open 42 rfl) cl_X12 fl_X14_84 ((xx_up_ne (by omega)).trans (lm_reg (z := z) (σ := u2 (g_Kinit (u2 (u2 σ 5000 0 0) 5000 1 1) 7000 R B) 7000 25 1) (h := h) (R := R) (((congrFun (u2_ne (by omega)) 900).trans (congrFun (fr_Kinit (by omega)) 900)).trans hR) (by omega) (j := i9) (by omega))) (by decide) rfl ?_
          refine sw_iadd O (xx_dt dd_X14_open 43 rfl) ?_
          refine sw_istore_n (ls2 := [.ref 5000, .int (s9 + ((u2 (g_Kinit (u2 (u2 σ 5000 0 0) 5000 1 1) 7000 R B) 7000 25 1) (5010 + i9) 2)), .ref 19993, .ref (5010 + i9)]) O (xx_dt dd_X14_open 44 rfl) (by decide) rfl ?_
          refine sw_goto (tgt := 65) O (xx_dt dd_X14_open 45 rfl) (by decide) ?_
          refine sw_dum (ls2 := [.ref 5000, .int (s9 + ((u2 (g_Kinit (u2 (u2 σ 5000 0 0) 5000 1 1) 7000 R B) 7000 25 1) (5010 + i9) 2)), .ref 19993, xx_d]) ⟨.inr rfl, .inr rfl, .inr rfl, .inl rfl, trivial⟩ ?_
          exact kk9
        · show SW Y 0 0 (xx_up (setM z (u2 (g_Kinit (u2 (u2 σ 5000 0 0) 5000 1 1) 7000 R B) 7000 25 1) h) 19993 (5, 4, itF R R)) 65 [.ref 5000, .int (xit (fun i9 s9 => s9 + (u2 (g_Kinit (u2 (u2 σ 5000 0 0) 5000 1 1) 7000 R B) 7000 25 1) (5010 + i9) 2) R 0 0), .ref 19993, xx_d] []
          refine sw_aload_n O (xx_dt dd_X14_open 33 rfl) rfl ?_
          refine sw_callF (k' := 0) (n' := 0) (as := []) (st := []) (st2 := [.int 0]) O (ct_hasE hl (n := R) (la := _) (xx_up_eq _ _ _) (by omega) ((xx_up_ne (by omega)).trans (lm_5001 (z := z) (σ := u2 (g_Kinit (u2 (u2 σ 5000 0 0) 5000 1 1) 7000 R B) 7000 25 1) (h := h) (R := R) (((congrFun (u2_ne (by omega)) 900).trans (congrFun (fr_Kinit (by omega)) 900)).trans hR) (by omega))) (by omega)) ce_Jx35411_hasNext_aae02 if_X14_102 cl_Jx35411 rfl (xx_up_eq _ _ _) (xx_dt dd_X14_open 34 rfl) (by decide) rfl rfl (Nat.le_of_ble_eq_true rfl) rfl ?_
          refine sw_if_eq (tgt := 94) O (xx_dt dd_X14_open 35 rfl) (by decide) (fun _ => ?_) (fun q9 => absurd rfl q9)
          refine sw_iload_n O (xx_dt dd_X14_open 46 rfl) rfl ?_
          exact sw_iretD (h' := setM z (u2 (g_Kinit (u2 (u2 σ 5000 0 0) 5000 1 1) 7000 R B) 7000 25 1) h) O (xx_dt dd_X14_open 47 rfl) rfl rfl (sub_up hit) hcl1 hdm1 (by rw [hQ]; exact ⟨by unfold f_Mopen; simp only [if_pos q1, if_neg q2, if_neg q3], by unfold g_Mopen; simp only [if_pos q1, if_neg q2, if_neg q3]⟩)
      · refine sw_aload_n O (xx_dt dd_X14_open 14 rfl) rfl ?_
        refine sw_iconst (x := 1) O (xx_dt dd_X14_open 15 rfl) (by decide) ?_
        refine sw_callVx (as := [.int 1]) (st := []) (st2 := [.int 0]) O (ct_X14_refuse hl (z := z) (σ := u2 σ 5000 0 0) hbs (x := 1)) ce_X14_refuse ml_X14_74 iv_X14_refuse cl_X14 rfl (lm_mod (σ := u2 σ 5000 0 0)) (xx_dt dd_X14_open 16 rfl) (by decide) rfl rfl (Nat.le_of_ble_eq_true rfl) rfl ?_
        exact sw_iret O (xx_dt dd_X14_open 17 rfl) rfl rfl (by rw [hQ]; exact ⟨by unfold f_Mopen; simp only [if_pos q1, if_neg q2, if_pos q3], by unfold g_Mopen; simp only [if_pos q1, if_neg q2, if_pos q3]⟩)
end
section
/-! ===== the reference: what a close of the clock makes ===== -/
theorem lyB_eq {C C' : XS9} {b i : Nat} {s : Nat → Int32} (h0 : C 5001 900 = C' 5001 900)
    (h1 : C b 21 = C' b 21 ∨ (cn (C' b 21) = cn (C b 21) + 1 ∧ i ≠ 6 ∧ i ≠ 100 + cn (C b 21)))
    (h2 : C b 22 = C' b 22 ∨ (cn (C' b 22) = cn (C b 22) + 1 ∧ i ≠ 7 ∧ i ≠ 200 + cn (C b 22)))
    (h3 : C b 23 = C' b 23 ∨ (cn (C' b 23) = cn (C b 23) + 1 ∧ i ≠ 0 ∧ i ≠ 500 + cn (C' b 23)))
    (h4 : C b 24 = C' b 24 ∨ (cn (C' b 24) = cn (C b 24) + 1 ∧ i ≠ 0 ∧ i ≠ 700 + cn (C' b 24))) : lyB C b i s = lyB C' b i s := by
  have ite : ∀ {p q : Prop} [Decidable p] [Decidable q] {x y : Option XC}, (p ↔ q) → (if p then x else y) = (if q then x else y) := fun e => by
    by_cases a : ‹Prop›
    all_goals simp [e]
  unfold lyB
  by_cases u : i < 8
  · rw [if_pos u, if_pos u]
    split
    · rw [h3.resolve_right (fun e => e.2.1 rfl), h4.resolve_right (fun e => e.2.1 rfl)]
    · rw [h0]
    · rw [h1.resolve_right (fun e => e.2.1 rfl)]
    · rw [h2.resolve_right (fun e => e.2.1 rfl)]
    · rfl
  rw [if_neg u, if_neg u]
  by_cases u1 : i < 200
  · rw [if_pos u1, if_pos u1, h0]
    refine ite ?_
    rcases h1 with e | e
    · rw [e]
    · omega
  rw [if_neg u1, if_neg u1]
  by_cases u2 : i < 300
  · rw [if_pos u2, if_pos u2]
    refine ite ?_
    rcases h2 with e | e
    · rw [e]
    · omega
  rw [if_neg u2, if_neg u2]
  by_cases u3 : i < 700
  · rw [if_pos u3, if_pos u3]
    refine ite ?_
    rcases h3 with e | e
    · rw [e]
    · omega
  rw [if_neg u3, if_neg u3]
  by_cases u4 : i < 900
  · rw [if_pos u4, if_pos u4]
    refine ite ?_
    rcases h4 with e | e
    · rw [e]
    · omega
  rw [if_neg u4, if_neg u4]
theorem ctl_ne {σ : XS9} {q r i : Nat} {x : Int32} {f : Nat → Int32} {e : Nat} (h1 : q ≠ r) (h2 : q ≠ e) (j : Nat) : ctl σ q j = ctl (u2 (uR σ e f) r i x) q j := by
  unfold ctl
  rw [u2_ne h1, uR_ne h2]
theorem lyB_s {C : XS9} {b i : Nat} {s s' : Nat → Int32} (h : s = s' ∨ i = 0 ∧ s 9 = s' 9) : lyB C b i s = lyB C b i s' := by
  rcases h with rfl | ⟨rfl, h⟩
  · rfl
  · have e0 : ∀ s : Nat → Int32, lyB C b 0 s = some (17, 11, fun k => match k with | 0 => .ref (b + 1) | 1 => .ref (b + 2) | 2 => .ref (b + 500 + cn (C b 23)) | 3 => .ref (b + 700 + cn (C b 24)) | 4 => .ref (b + 3) | 5 => .ref (b + 4) | 6 => .ref (b + 5) | 7 => .ref (b + 6) | 8 => .ref (b + 7) | 9 => .int (s 9) | 10 => .ref 5000 | _ => .null) := fun s => rfl
    rw [e0, e0, h]
theorem isCtl_in {b q i : Nat} (hb : b = 7000 ∨ b = 8000) (h1 : b < q) (h2 : q < b + 1000) : isCtl q i = false := notCtl (by omega) i

theorem new_oldP {z : Int64} {σ : XS9} {h : XH} {b : Nat} (hb : b = 7000 ∨ b = 8000) (hf : σ b 20 = nI 1) {n : Nat} (hn : σ b 21 = nI n) (hn9 : n < 60) {R : Nat} (hR : σ 5001 900 = nI R) (hR5 : R ≤ 5) {f : Nat → Int32} : xx_up (xx_up (setM z σ h) (b + 100 + n) (100, R, fun k => .int (f k))) (b + 6) (206, n + 1, fun k => .ref (b + 100 + k)) = setM z (u2 (uR σ (b + 100 + n) f) b 21 (nI (n + 1))) h := by
  have a0 : u2 (uR σ (b + 100 + n) f) b 21 (nI (n + 1)) b = fun j => if j = 21 then nI (n + 1) else σ b j := by rw [u2_eq, uR_ne (by omega)]
  have g : ∀ j, j ≠ 21 → u2 (uR σ (b + 100 + n) f) b 21 (nI (n + 1)) b j = σ b j := fun j hj => by rw [a0]; exact if_neg hj
  have g1 : u2 (uR σ (b + 100 + n) f) b 21 (nI (n + 1)) b 21 = nI (n + 1) := by rw [a0]; exact if_pos rfl
  have hf' : u2 (uR σ (b + 100 + n) f) b 21 (nI (n + 1)) b 20 = nI 1 := by rw [g _ (by omega)]; exact hf
  funext q
  unfold xx_up
  by_cases e1 : q = b + 6
  · rw [if_pos e1, e1]
    rw [lm_kop hb (fl1 hf') g1 (by omega)]
  rw [if_neg e1]
  by_cases e2 : q = b + 100 + n
  · rw [if_pos e2, e2]
    rw [lm_opr hb (fl1 hf') (R := R) (by rw [u2_ne (by omega), uR_ne (by omega)]; exact hR) hR5 g1 (by omega) (by omega), u2_ne (by omega), uR_eq]
  rw [if_neg e2]
  unfold setM
  by_cases e3 : q < b ∨ b + 1000 ≤ q
  · rw [u2_ne (by omega), uR_ne e2, lyQ_K (C := ctl (u2 (uR σ (b + 100 + n) f) b 21 (nI (n + 1)))) (C' := ctl σ) hb (fun r i e => by
      unfold ctl
      by_cases e9 : r = b + 100 + n
      · rw [isCtl_in hb (by omega) (by omega)]
        rfl
      · rw [u2_ne e, uR_ne e9]) (by rw [ct_b hb (by omega), ct_b hb (by omega)]; exact g _ (by omega)) e3]
  · obtain ⟨i, rfl⟩ : ∃ i, q = b + i := ⟨q - b, by omega⟩
    have K : ∀ j, 20 ≤ j → j ≠ 21 → ctl σ b j = ctl (u2 (uR σ (b + 100 + n) f) b 21 (nI (n + 1))) b j := fun j h1 h2 => by rw [ct_b hb h1, ct_b hb h1]; exact (g j h2).symm
    have k9 : cn (ctl σ b 21) = n := by rw [ct_b hb (by omega), hn, cn_nI (by omega)]
    have k8 : cn (ctl (u2 (uR σ (b + 100 + n) f) b 21 (nI (n + 1))) b 21) = n + 1 := by rw [ct_b hb (by omega), g1, cn_nI (by omega)]
    rw [lq_B hb (fl1 hf) (by omega), lq_B hb (fl1 hf') (by omega), lyB_eq (C := ctl σ) (C' := ctl (u2 (uR σ (b + 100 + n) f) b 21 (nI (n + 1)))) (ctl_ne (by omega) (by omega) _) (.inr ⟨by rw [k8, k9], by omega, by rw [k9]; omega⟩) (.inl (K 22 (by omega) (by omega))) (.inl (K 23 (by omega) (by omega))) (.inl (K 24 (by omega) (by omega))), lyB_s (s := σ (b + i)) (s' := u2 (uR σ (b + 100 + n) f) b 21 (nI (n + 1)) (b + i)) (by
      by_cases e4 : i = 0
      · exact .inr ⟨e4, by rw [e4]; exact (g 9 (by omega)).symm⟩
      · exact .inl (by rw [u2_ne (by omega), uR_ne e2]))]
theorem new_oldH {z : Int64} {σ : XS9} {h : XH} {b : Nat} (hb : b = 7000 ∨ b = 8000) (hf : σ b 20 = nI 1) {n : Nat} (hn : σ b 22 = nI n) (hn9 : n < 60) {f : Nat → Int32} : xx_up (xx_up (setM z σ h) (b + 200 + n) (100, 6, fun k => .int (f k))) (b + 7) (206, n + 1, fun k => .ref (b + 200 + k)) = setM z (u2 (uR σ (b + 200 + n) f) b 22 (nI (n + 1))) h := by
  have a0 : u2 (uR σ (b + 200 + n) f) b 22 (nI (n + 1)) b = fun j => if j = 22 then nI (n + 1) else σ b j := by rw [u2_eq, uR_ne (by omega)]
  have g : ∀ j, j ≠ 22 → u2 (uR σ (b + 200 + n) f) b 22 (nI (n + 1)) b j = σ b j := fun j hj => by rw [a0]; exact if_neg hj
  have g1 : u2 (uR σ (b + 200 + n) f) b 22 (nI (n + 1)) b 22 = nI (n + 1) := by rw [a0]; exact if_pos rfl
  have hf' : u2 (uR σ (b + 200 + n) f) b 22 (nI (n + 1)) b 20 = nI 1 := by rw [g _ (by omega)]; exact hf
  funext q
  unfold xx_up
  by_cases e1 : q = b + 7
  · rw [if_pos e1, e1]
    rw [lm_koh hb (fl1 hf') g1 (by omega)]
  rw [if_neg e1]
  by_cases e2 : q = b + 200 + n
  · rw [if_pos e2, e2]
    rw [lm_ohe hb (fl1 hf') g1 (by omega) (by omega), u2_ne (by omega), uR_eq]
  rw [if_neg e2]
  unfold setM
  by_cases e3 : q < b ∨ b + 1000 ≤ q
  · rw [u2_ne (by omega), uR_ne e2, lyQ_K (C := ctl (u2 (uR σ (b + 200 + n) f) b 22 (nI (n + 1)))) (C' := ctl σ) hb (fun r i e => by
      unfold ctl
      by_cases e9 : r = b + 200 + n
      · rw [isCtl_in hb (by omega) (by omega)]
        rfl
      · rw [u2_ne e, uR_ne e9]) (by rw [ct_b hb (by omega), ct_b hb (by omega)]; exact g _ (by omega)) e3]
  · obtain ⟨i, rfl⟩ : ∃ i, q = b + i := ⟨q - b, by omega⟩
    have K : ∀ j, 20 ≤ j → j ≠ 22 → ctl σ b j = ctl (u2 (uR σ (b + 200 + n) f) b 22 (nI (n + 1))) b j := fun j h1 h2 => by rw [ct_b hb h1, ct_b hb h1]; exact (g j h2).symm
    have k9 : cn (ctl σ b 22) = n := by rw [ct_b hb (by omega), hn, cn_nI (by omega)]
    have k8 : cn (ctl (u2 (uR σ (b + 200 + n) f) b 22 (nI (n + 1))) b 22) = n + 1 := by rw [ct_b hb (by omega), g1, cn_nI (by omega)]
    rw [lq_B hb (fl1 hf) (by omega), lq_B hb (fl1 hf') (by omega), lyB_eq (C := ctl σ) (C' := ctl (u2 (uR σ (b + 200 + n) f) b 22 (nI (n + 1)))) (ctl_ne (by omega) (by omega) _) (.inl (K 21 (by omega) (by omega))) (.inr ⟨by rw [k8, k9], by omega, by rw [k9]; omega⟩) (.inl (K 23 (by omega) (by omega))) (.inl (K 24 (by omega) (by omega))), lyB_s (s := σ (b + i)) (s' := u2 (uR σ (b + 200 + n) f) b 22 (nI (n + 1)) (b + i)) (by
      by_cases e4 : i = 0
      · exact .inr ⟨e4, by rw [e4]; exact (g 9 (by omega)).symm⟩
      · exact .inl (by rw [u2_ne (by omega), uR_ne e2]))]
theorem new_wsh {z : Int64} {σ : XS9} {h : XH} {b : Nat} (hb : b = 7000 ∨ b = 8000) (hf : σ b 20 = nI 1) {n : Nat} (hn : σ b 23 = nI n) (hn9 : n < 199) {w : Nat} (hw : σ b 24 = nI w) (hw1 : w < 200) {f : Nat → Int32} : xx_up (xx_up (setM z σ h) (b + 500 + (n + 1)) (100, 6, fun k => .int (f k))) (b) (17, 11, updV (fun k => match k with | 0 => .ref (b + 1) | 1 => .ref (b + 2) | 2 => .ref (b + 500 + n) | 3 => .ref (b + 700 + w) | 4 => .ref (b + 3) | 5 => .ref (b + 4) | 6 => .ref (b + 5) | 7 => .ref (b + 6) | 8 => .ref (b + 7) | 9 => .int ((σ b) 9) | 10 => .ref 5000 | _ => .null) 2 (.ref (b + 500 + (n + 1)))) = setM z (u2 (uR σ (b + 500 + (n + 1)) f) b 23 (nI (n + 1))) h := by
  have a0 : u2 (uR σ (b + 500 + (n + 1)) f) b 23 (nI (n + 1)) b = fun j => if j = 23 then nI (n + 1) else σ b j := by rw [u2_eq, uR_ne (by omega)]
  have g : ∀ j, j ≠ 23 → u2 (uR σ (b + 500 + (n + 1)) f) b 23 (nI (n + 1)) b j = σ b j := fun j hj => by rw [a0]; exact if_neg hj
  have g1 : u2 (uR σ (b + 500 + (n + 1)) f) b 23 (nI (n + 1)) b 23 = nI (n + 1) := by rw [a0]; exact if_pos rfl
  have hf' : u2 (uR σ (b + 500 + (n + 1)) f) b 23 (nI (n + 1)) b 20 = nI 1 := by rw [g _ (by omega)]; exact hf
  funext q
  unfold xx_up
  by_cases e1 : q = b
  · rw [if_pos e1, e1]
    rw [lm_clk hb (fl1 hf') g1 (by omega) (w := w) (by rw [g _ (by omega)]; exact hw) hw1, g 9 (by omega)]
    congr 3
    funext k
    unfold updV
    by_cases e : k = 2
    · subst e; rfl
    · rw [if_neg e]
      match k, e with
      | 0, _ | 1, _ | 3, _ | 4, _ | 5, _ | 6, _ | 7, _ | 8, _ | 9, _ | 10, _ => rfl
      | 2, e => exact absurd rfl e
      | _ + 11, _ => rfl
  rw [if_neg e1]
  by_cases e2 : q = b + 500 + (n + 1)
  · rw [if_pos e2, e2]
    rw [lm_wsh hb (fl1 hf') g1 (by omega) (by omega), u2_ne (by omega), uR_eq]
  rw [if_neg e2]
  unfold setM
  by_cases e3 : q < b ∨ b + 1000 ≤ q
  · rw [u2_ne (by omega), uR_ne e2, lyQ_K (C := ctl (u2 (uR σ (b + 500 + (n + 1)) f) b 23 (nI (n + 1)))) (C' := ctl σ) hb (fun r i e => by
      unfold ctl
      by_cases e9 : r = b + 500 + (n + 1)
      · rw [isCtl_in hb (by omega) (by omega)]
        rfl
      · rw [u2_ne e, uR_ne e9]) (by rw [ct_b hb (by omega), ct_b hb (by omega)]; exact g _ (by omega)) e3]
  · obtain ⟨i, rfl⟩ : ∃ i, q = b + i := ⟨q - b, by omega⟩
    have K : ∀ j, 20 ≤ j → j ≠ 23 → ctl σ b j = ctl (u2 (uR σ (b + 500 + (n + 1)) f) b 23 (nI (n + 1))) b j := fun j h1 h2 => by rw [ct_b hb h1, ct_b hb h1]; exact (g j h2).symm
    have k9 : cn (ctl σ b 23) = n := by rw [ct_b hb (by omega), hn, cn_nI (by omega)]
    have k8 : cn (ctl (u2 (uR σ (b + 500 + (n + 1)) f) b 23 (nI (n + 1))) b 23) = n + 1 := by rw [ct_b hb (by omega), g1, cn_nI (by omega)]
    rw [lq_B hb (fl1 hf) (by omega), lq_B hb (fl1 hf') (by omega), lyB_eq (C := ctl σ) (C' := ctl (u2 (uR σ (b + 500 + (n + 1)) f) b 23 (nI (n + 1)))) (ctl_ne (by omega) (by omega) _) (.inl (K 21 (by omega) (by omega))) (.inl (K 22 (by omega) (by omega))) (.inr ⟨by rw [k8, k9], by omega, by rw [k8]; omega⟩) (.inl (K 24 (by omega) (by omega))), lyB_s (s := σ (b + i)) (s' := u2 (uR σ (b + 500 + (n + 1)) f) b 23 (nI (n + 1)) (b + i)) (by
      by_cases e4 : i = 0
      · exact .inr ⟨e4, by rw [e4]; exact (g 9 (by omega)).symm⟩
      · exact .inl (by rw [u2_ne (by omega), uR_ne e2]))]
theorem new_hwa {z : Int64} {σ : XS9} {h : XH} {b : Nat} (hb : b = 7000 ∨ b = 8000) (hf : σ b 20 = nI 1) {n : Nat} (hn : σ b 24 = nI n) (hn9 : n < 199) {g0 : Nat} (hg : σ b 23 = nI g0) (hg1 : g0 < 200) {f : Nat → Int32} : xx_up (xx_up (setM z σ h) (b + 700 + (n + 1)) (101, 6, fun k => .int (f k))) (b) (17, 11, updV (fun k => match k with | 0 => .ref (b + 1) | 1 => .ref (b + 2) | 2 => .ref (b + 500 + g0) | 3 => .ref (b + 700 + n) | 4 => .ref (b + 3) | 5 => .ref (b + 4) | 6 => .ref (b + 5) | 7 => .ref (b + 6) | 8 => .ref (b + 7) | 9 => .int ((σ b) 9) | 10 => .ref 5000 | _ => .null) 3 (.ref (b + 700 + (n + 1)))) = setM z (u2 (uR σ (b + 700 + (n + 1)) f) b 24 (nI (n + 1))) h := by
  have a0 : u2 (uR σ (b + 700 + (n + 1)) f) b 24 (nI (n + 1)) b = fun j => if j = 24 then nI (n + 1) else σ b j := by rw [u2_eq, uR_ne (by omega)]
  have g : ∀ j, j ≠ 24 → u2 (uR σ (b + 700 + (n + 1)) f) b 24 (nI (n + 1)) b j = σ b j := fun j hj => by rw [a0]; exact if_neg hj
  have g1 : u2 (uR σ (b + 700 + (n + 1)) f) b 24 (nI (n + 1)) b 24 = nI (n + 1) := by rw [a0]; exact if_pos rfl
  have hf' : u2 (uR σ (b + 700 + (n + 1)) f) b 24 (nI (n + 1)) b 20 = nI 1 := by rw [g _ (by omega)]; exact hf
  funext q
  unfold xx_up
  by_cases e1 : q = b
  · rw [if_pos e1, e1]
    rw [lm_clk hb (fl1 hf') (g := g0) (by rw [g _ (by omega)]; exact hg) hg1 g1 (by omega), g 9 (by omega)]
    congr 3
    funext k
    unfold updV
    by_cases e : k = 3
    · subst e; rfl
    · rw [if_neg e]
      match k, e with
      | 0, _ | 1, _ | 2, _ | 4, _ | 5, _ | 6, _ | 7, _ | 8, _ | 9, _ | 10, _ => rfl
      | 3, e => exact absurd rfl e
      | _ + 11, _ => rfl
  rw [if_neg e1]
  by_cases e2 : q = b + 700 + (n + 1)
  · rw [if_pos e2, e2]
    rw [lm_hwa hb (fl1 hf') g1 (by omega) (by omega), u2_ne (by omega), uR_eq]
  rw [if_neg e2]
  unfold setM
  by_cases e3 : q < b ∨ b + 1000 ≤ q
  · rw [u2_ne (by omega), uR_ne e2, lyQ_K (C := ctl (u2 (uR σ (b + 700 + (n + 1)) f) b 24 (nI (n + 1)))) (C' := ctl σ) hb (fun r i e => by
      unfold ctl
      by_cases e9 : r = b + 700 + (n + 1)
      · rw [isCtl_in hb (by omega) (by omega)]
        rfl
      · rw [u2_ne e, uR_ne e9]) (by rw [ct_b hb (by omega), ct_b hb (by omega)]; exact g _ (by omega)) e3]
  · obtain ⟨i, rfl⟩ : ∃ i, q = b + i := ⟨q - b, by omega⟩
    have K : ∀ j, 20 ≤ j → j ≠ 24 → ctl σ b j = ctl (u2 (uR σ (b + 700 + (n + 1)) f) b 24 (nI (n + 1))) b j := fun j h1 h2 => by rw [ct_b hb h1, ct_b hb h1]; exact (g j h2).symm
    have k9 : cn (ctl σ b 24) = n := by rw [ct_b hb (by omega), hn, cn_nI (by omega)]
    have k8 : cn (ctl (u2 (uR σ (b + 700 + (n + 1)) f) b 24 (nI (n + 1))) b 24) = n + 1 := by rw [ct_b hb (by omega), g1, cn_nI (by omega)]
    rw [lq_B hb (fl1 hf) (by omega), lq_B hb (fl1 hf') (by omega), lyB_eq (C := ctl σ) (C' := ctl (u2 (uR σ (b + 700 + (n + 1)) f) b 24 (nI (n + 1)))) (ctl_ne (by omega) (by omega) _) (.inl (K 21 (by omega) (by omega))) (.inl (K 22 (by omega) (by omega))) (.inl (K 23 (by omega) (by omega))) (.inr ⟨by rw [k8, k9], by omega, by rw [k8]; omega⟩), lyB_s (s := σ (b + i)) (s' := u2 (uR σ (b + 700 + (n + 1)) f) b 24 (nI (n + 1)) (b + i)) (by
      by_cases e4 : i = 0
      · exact .inr ⟨e4, by rw [e4]; exact (g 9 (by omega)).symm⟩
      · exact .inl (by rw [u2_ne (by omega), uR_ne e2]))]
end
section
/-! ===== the reference: digits, and the close of a clock ===== -/
theorem i32_tdiv6 {a : Int32} : (a / 6).toInt = a.toInt.tdiv 6 := Int32.toInt_div_of_ne_right _ _ (by decide)
theorem i32_tdivp {a p : Int32} (h : p ≠ -1) : (a / p).toInt = a.toInt.tdiv p.toInt := Int32.toInt_div_of_ne_right _ _ h
theorem tdiv_b {a : Int} {p : Int} (hp : 0 < p) : (0 ≤ a → a.tdiv p = a / p) ∧ (a < 0 → a.tdiv p = -(-a / p)) := by
  refine ⟨fun h => Int.tdiv_eq_ediv_of_nonneg h, fun h => ?_⟩
  have e : a.tdiv p = -((-a).tdiv p) := by rw [Int.neg_tdiv, Int.neg_neg]
  rw [e, Int.tdiv_eq_ediv_of_nonneg (by omega)]
theorem of_int {c : Int32} {r : Nat} (hr : r < 5) : ∃ p : Int, (p = 1 ∨ p = 6 ∨ p = 36 ∨ p = 216 ∨ p = 1296) ∧ (f_power r).toInt = p ∧ (f_of c r).toInt = c.toInt.tdiv p - (c.toInt.tdiv p).tdiv 6 * 6 := by
  have hp : ((f_power r).toInt = 1 ∨ (f_power r).toInt = 6 ∨ (f_power r).toInt = 36 ∨ (f_power r).toInt = 216 ∨ (f_power r).toInt = 1296) ∧ f_power r ≠ -1 := by
    match r, hr with
    | 0, _ => decide
    | 1, _ => decide
    | 2, _ => decide
    | 3, _ => decide
    | 4, _ => decide
  refine ⟨(f_power r).toInt, hp.1, rfl, ?_⟩
  have e1 : (c / f_power r).toInt = c.toInt.tdiv (f_power r).toInt := i32_tdivp hp.2
  have hb1 := Int32.toInt_lt (c / f_power r)
  have hb2 := Int32.le_toInt (c / f_power r)
  unfold f_of
  have hq := tdiv_b (a := (c / f_power r).toInt) (p := 6) (by omega)
  have hm : ((c / f_power r) / 6 * 6).toInt = (c / f_power r).toInt.tdiv 6 * 6 := by
    rw [Int32.toInt_mul, i32_tdiv6]
    have : (6 : Int32).toInt = 6 := rfl
    rw [this]
    apply Int.bmod_eq_of_le
    · by_cases h : 0 ≤ (c / f_power r).toInt
      · rw [hq.1 h]; omega
      · rw [hq.2 (by omega)]; omega
    · by_cases h : 0 ≤ (c / f_power r).toInt
      · rw [hq.1 h]; omega
      · rw [hq.2 (by omega)]; omega
  rw [Int32.toInt_sub, hm, ← e1]
  apply Int.bmod_eq_of_le
  · by_cases h : 0 ≤ (c / f_power r).toInt
    · rw [hq.1 h]; omega
    · rw [hq.2 (by omega)]; omega
  · by_cases h : 0 ≤ (c / f_power r).toInt
    · rw [hq.1 h]; omega
    · rw [hq.2 (by omega)]; omega
def dg (c : Int32) (r i : Nat) : Prop := (f_of c r).toInt ≤ 5 - (i : Int)
theorem dg_0 {c : Int32} {r : Nat} (hr : r < 5) : dg c r 0 := by
  obtain ⟨p, hp, -, e⟩ := of_int (c := c) hr
  unfold dg
  rw [e]
  have hq := tdiv_b (a := c.toInt.tdiv p) (p := 6) (by omega)
  by_cases h : 0 ≤ c.toInt.tdiv p
  · rw [hq.1 h]; omega
  · rw [hq.2 (by omega)]; omega
theorem dg_end {c w : Int32} {r : Nat} (h : dg c r 5) (hw : 0 ≤ w.toInt) : f_of c r ≤ w := by
  unfold dg at h
  rw [Int32.le_iff_toInt_le]
  omega
theorem dg_step {c w : Int32} {r i : Nat} (hr : r < 5) (h : dg c r i) (hg : ¬ f_of c r ≤ w) (hw : 0 ≤ w.toInt) : dg (c - f_power r) r (i + 1) := by
  have hg' : w.toInt < (f_of c r).toInt := by
    rw [Int32.le_iff_toInt_le] at hg
    omega
  obtain ⟨p, hp, ep, e⟩ := of_int (c := c) hr
  obtain ⟨p', hp', ep', e'⟩ := of_int (c := c - f_power r) hr
  have epp : p' = p := by rw [← ep, ← ep']
  subst epp
  unfold dg at h ⊢
  rw [e'] 
  rw [e] at h hg'
  have hb1 := Int32.toInt_lt c
  have hb2 := Int32.le_toInt c
  have hq := tdiv_b (a := c.toInt) (p := p') (by omega)
  have hc : 0 ≤ c.toInt := by
    rcases Int.lt_or_le c.toInt 0 with hc | hc
    · have h1 := hq.2 hc
      have h2 : 0 ≤ -c.toInt / p' := Int.ediv_nonneg (by omega) (by omega)
      have h3 := tdiv_b (a := c.toInt.tdiv p') (p := 6) (by omega)
      rcases Int.lt_or_le (c.toInt.tdiv p') 0 with h4 | h4
      · rw [h3.2 h4] at hg'; omega
      · rw [h3.1 h4] at hg'; omega
    · exact hc
  have h2 : 0 ≤ c.toInt / p' := Int.ediv_nonneg hc (by omega)
  rw [hq.1 hc, Int.tdiv_eq_ediv_of_nonneg h2] at h hg'
  have hge : p' ≤ c.toInt := by
    rcases hp with rfl | rfl | rfl | rfl | rfl <;> omega
  have es : (c - f_power r).toInt = c.toInt - p' := by
    rw [Int32.toInt_sub, ep]
    apply Int.bmod_eq_of_le <;> omega
  have ed : (c.toInt - p') / p' = c.toInt / p' - 1 := by
    rcases hp with rfl | rfl | rfl | rfl | rfl <;> omega
  have h5 : 0 ≤ c.toInt / p' - 1 := by rw [← ed]; exact Int.ediv_nonneg (by omega) (by omega)
  rw [es, Int.tdiv_eq_ediv_of_nonneg (by omega : 0 ≤ c.toInt - p'), ed, Int.tdiv_eq_ediv_of_nonneg h5]
  omega
theorem no_oldP {z : Int64} {σ : XS9} {h : XH} {b : Nat} (hb : b = 7000 ∨ b = 8000) (hf : σ b 20 = nI 1) (hfr : ∀ r, 7000 ≤ r → r < 9000 → h r = none) {n : Nat} (hn : σ b 21 = nI n) (hn9 : n < 60) : setM z σ h (b + 100 + n) = none := by
  obtain ⟨i, e⟩ : ∃ i, b + 100 + n = b + i := ⟨b + 100 + n - b, by omega⟩
  have k9 : cn (ctl σ b 21) = n := by rw [ct_b hb (by omega), hn, cn_nI (by omega)]
  refine (setM_no ?_).trans (hfr _ (by omega) (by omega))
  rw [e, lq_B hb (fl1 hf) (by omega)]
  unfold lyB
  rw [k9, if_neg (by omega)]
  rw [if_pos (by omega), if_neg (by omega)]
theorem no_oldH {z : Int64} {σ : XS9} {h : XH} {b : Nat} (hb : b = 7000 ∨ b = 8000) (hf : σ b 20 = nI 1) (hfr : ∀ r, 7000 ≤ r → r < 9000 → h r = none) {n : Nat} (hn : σ b 22 = nI n) (hn9 : n < 60) : setM z σ h (b + 200 + n) = none := by
  obtain ⟨i, e⟩ : ∃ i, b + 200 + n = b + i := ⟨b + 200 + n - b, by omega⟩
  have k9 : cn (ctl σ b 22) = n := by rw [ct_b hb (by omega), hn, cn_nI (by omega)]
  refine (setM_no ?_).trans (hfr _ (by omega) (by omega))
  rw [e, lq_B hb (fl1 hf) (by omega)]
  unfold lyB
  rw [k9, if_neg (by omega)]
  rw [if_neg (by omega), if_pos (by omega), if_neg (by omega)]
theorem no_wsh {z : Int64} {σ : XS9} {h : XH} {b : Nat} (hb : b = 7000 ∨ b = 8000) (hf : σ b 20 = nI 1) (hfr : ∀ r, 7000 ≤ r → r < 9000 → h r = none) {n : Nat} (hn : σ b 23 = nI n) (hn9 : n < 199) : setM z σ h (b + 500 + (n + 1)) = none := by
  obtain ⟨i, e⟩ : ∃ i, b + 500 + (n + 1) = b + i := ⟨b + 500 + (n + 1) - b, by omega⟩
  have k9 : cn (ctl σ b 23) = n := by rw [ct_b hb (by omega), hn, cn_nI (by omega)]
  refine (setM_no ?_).trans (hfr _ (by omega) (by omega))
  rw [e, lq_B hb (fl1 hf) (by omega)]
  unfold lyB
  rw [k9, if_neg (by omega)]
  rw [if_neg (by omega), if_neg (by omega), if_pos (by omega), if_neg (by omega)]
theorem no_hwa {z : Int64} {σ : XS9} {h : XH} {b : Nat} (hb : b = 7000 ∨ b = 8000) (hf : σ b 20 = nI 1) (hfr : ∀ r, 7000 ≤ r → r < 9000 → h r = none) {n : Nat} (hn : σ b 24 = nI n) (hn9 : n < 199) : setM z σ h (b + 700 + (n + 1)) = none := by
  obtain ⟨i, e⟩ : ∃ i, b + 700 + (n + 1) = b + i := ⟨b + 700 + (n + 1) - b, by omega⟩
  have k9 : cn (ctl σ b 24) = n := by rw [ct_b hb (by omega), hn, cn_nI (by omega)]
  refine (setM_no ?_).trans (hfr _ (by omega) (by omega))
  rw [e, lq_B hb (fl1 hf) (by omega)]
  unfold lyB
  rw [k9, if_neg (by omega)]
  rw [if_neg (by omega), if_neg (by omega), if_neg (by omega), if_pos (by omega), if_neg (by omega)]
end
