/-! ===== the reference is made ===== -/
def s0M : XS9 := fun r i => if r = 5000 then (if i = 2 then 5 else if i = 3 then 1 else if i = 4 then 10 else 0) else 0
theorem s0M_ctl : ctl s0M = fun _ _ => 0 := by
  funext q i
  unfold ctl
  by_cases e : isCtl q i = true
  · rw [if_pos e]
    have h : q ≠ 5000 := fun h => by
      rw [h] at e
      unfold isCtl at e
      rw [show Nat.ble 5001 5000 = false from rfl, show Nat.beq 5000 5004 = false from rfl, show Nat.ble 5030 5000 = false from rfl, show Nat.beq 5000 7000 = false from rfl, show Nat.beq 5000 8000 = false from rfl, show Nat.beq 5000 9000 = false from rfl, show Nat.ble 20000 5000 = false from rfl] at e
      simp at e
    unfold s0M
    rw [if_neg h]
  · rw [if_neg e]
theorem lyQ_0 {z : Int64} {r : Nat} {s : Nat → Int32} (h : r < 5000 ∨ 5007 < r) : lyQ z (fun _ _ => 0) r s = none := by
  unfold lyQ
  have c0 : cn (0 : Int32) = 0 := rfl
  by_cases u : r < 5010
  · rw [if_pos u]
    split <;> first | rfl | omega
  rw [if_neg u]
  simp only [c0, Nat.not_lt_zero, false_and, if_false, if_true, ite_self, eq_self]
abbrev mod_F : Nat → Value := fun k => match k with | 8 => .ref 5001 | 9 => .ref 5002 | 10 => .ref 5003 | 11 => .ref 5004 | 12 => .null | 13 => .ref 5005 | 14 => .ref 5006 | 15 => .ref 5007 | 16 => .long 0 | k => .int (s0M 5000 k)
theorem new_mod {h : XH} : xx_up (xx_up (xx_up (xx_up (xx_up (xx_up (xx_up (xx_up h 5001 (206, 0, fun k => .ref (5010 + k))) 5002 (206, 0, fun k => .ref (5020 + k))) 5003 (206, 0, fun k => .ref (5200 + k))) 5004 (206, 0, fun k => .ref (xx_box (s0M 5004 k) (nmS s0M k)))) 5005 (100, 6, fun _ => .int 0)) 5006 (100, 6, fun _ => .int 0)) 5007 (100, 5, fun _ => .int 0)) 5000 (20, 17, mod_F) = setM 0 s0M h := by
  have e1 : s0M 5001 900 = nI 0 := rfl
  have e2 : s0M 5002 900 = nI 0 := rfl
  have e3 : s0M 5003 900 = nI 0 := rfl
  have e4 : s0M 5004 900 = nI 0 := rfl
  funext q
  unfold xx_up
  by_cases a0 : q = 5000
  · rw [if_pos a0, a0, lm_modN (show s0M 7000 25 = 0 from rfl)]
    congr 3
  rw [if_neg a0]
  by_cases a7 : q = 5007
  · rw [if_pos a7, a7]; exact (lm_5007 (z := 0) (σ := s0M) (h := h)).symm
  rw [if_neg a7]
  by_cases a6 : q = 5006
  · rw [if_pos a6, a6]; exact (lm_5006 (z := 0) (σ := s0M) (h := h)).symm
  rw [if_neg a6]
  by_cases a5 : q = 5005
  · rw [if_pos a5, a5]; exact (lm_5005 (z := 0) (σ := s0M) (h := h)).symm
  rw [if_neg a5]
  by_cases a4 : q = 5004
  · rw [if_pos a4, a4, lm_5004 e4 (by omega)]
  rw [if_neg a4]
  by_cases a3 : q = 5003
  · rw [if_pos a3, a3, lm_5003 e3 (by omega)]
  rw [if_neg a3]
  by_cases a2 : q = 5002
  · rw [if_pos a2, a2, lm_5002 e2 (by omega)]
  rw [if_neg a2]
  by_cases a1 : q = 5001
  · rw [if_pos a1, a1, lm_5001 e1 (by omega)]
  rw [if_neg a1, setM_no (by rw [s0M_ctl]; exact lyQ_0 (by omega))]
theorem ct_X14_init {l : Launch} {h : XH} (hl : l.stackTraces = false) (hbs : xx_bs h) (hfr : ∀ r, 5000 ≤ r → r < 20010 → h r = none) : XEx l m_X14_init 5 7 29 [.ref 5000] (xx_up h 5000 (20, 17, fun j => defaultValue (tyX14 j))) none (setM 0 s0M h) := by
  refine XMet.of hl rfl rfl (Nat.le_of_ble_eq_true rfl) (fun Y O hh hQ => ?_)
  obtain ⟨f0, hz0⟩ := hbs.1
  show SW Y 7 29 (xx_up h 5000 (20, 17, fun j => defaultValue (tyX14 j))) 0 [.ref 5000] []
  refine sw_aload_n O (xx_dt dd_X14_init 0 rfl) rfl ?_
  refine sw_objInit O oi_X14_1 (xx_dt dd_X14_init 1 rfl) (by omega) (Nat.le_of_ble_eq_true rfl) ?_
  refine sw_aload_n O (xx_dt dd_X14_init 2 rfl) rfl ?_
  refine sw_iconst (x := 5) O (xx_dt dd_X14_init 3 rfl) (by decide) ?_
  refine sw_put (h2 := xx_up h 5000 (20, 17, updV (fun j => defaultValue (tyX14 j)) 2 (.int 5))) O (xx_dt dd_X14_init 4 rfl) cl_X14 fl_X14_7 (xx_up_eq _ _ _) (by decide) (by omega) rfl (fun _ => ⟨rfl, rfl⟩) xx_up_up ?_
  refine sw_aload_n O (xx_dt dd_X14_init 5 rfl) rfl ?_
  refine sw_iconst (x := 1) O (xx_dt dd_X14_init 6 rfl) (by decide) ?_
  refine sw_put (h2 := xx_up h 5000 (20, 17, updV (updV (fun j => defaultValue (tyX14 j)) 2 (.int 5)) 3 (.int 1))) O (xx_dt dd_X14_init 7 rfl) cl_X14 fl_X14_13 (xx_up_eq _ _ _) (by decide) (by omega) rfl (fun _ => ⟨rfl, rfl⟩) xx_up_up ?_
  refine sw_aload_n O (xx_dt dd_X14_init 8 rfl) rfl ?_
  refine sw_bipush (x := 10) O (xx_dt dd_X14_init 9 rfl) (by decide) ?_
  refine sw_put (h2 := xx_up h 5000 (20, 17, updV (updV (updV (fun j => defaultValue (tyX14 j)) 2 (.int 5)) 3 (.int 1)) 4 (.int 10))) O (xx_dt dd_X14_init 10 rfl) cl_X14 fl_X14_17 (xx_up_eq _ _ _) (by decide) (by omega) rfl (fun _ => ⟨rfl, rfl⟩) xx_up_up ?_
  refine sw_aload_n O (xx_dt dd_X14_init 11 rfl) rfl ?_
  refine sw_new (k := 6) (n := 26) (r := 5001) O (xx_dt dd_X14_init 12 rfl) cl_Jx4a65c nw_X14_20 ((xx_up_ne (by omega)).trans (hfr 5001 (by omega) (by omega))) (by omega) ?_
  rw [xx_blk_up]
  refine sw_alter (r := 5001) (F2 := vp_V [.int 0, .null, .int 0]) (xx_up_eq _ _ _) (fun j hj => by match j, hj with | 0, _ => rfl | 1, _ => rfl | 2, _ => rfl) ?_
  rw [xx_up_up, xx_up_sw (by omega)]
  refine sw_dup O (xx_dt dd_X14_init 13 rfl) rfl ?_
  refine sw_callIx (k := 6) (n := 26) (k' := 0) (n' := 0) (as := []) (st := [.ref 5001, .ref 5000]) (st2 := [.ref 5001, .ref 5000]) O (ct_AL_init hl (r := 5001) ((xx_up_ne (by omega)).trans (xx_up_eq _ _ _)) (by omega) (fun k _ => rfl) ((xx_up_ne (by omega)).trans ((xx_up_ne (by omega)).trans hz0))) ce_Jx4a65c_init_da8c8 ml_X14_22 ii_Jx4a65c_init_da8c8 (xx_dt dd_X14_init 14 rfl) (by decide) rfl rfl (Nat.le_of_ble_eq_true rfl) rfl ?_
  refine sw_alter (r := 5001) (F2 := fun k => .ref (5010 + k)) (xx_up_eq _ _ _) (fun j hj => absurd hj (by omega)) ?_
  rw [xx_up_up, xx_up_sw (by omega), xx_up_up]
  refine sw_putF (h2 := xx_up (xx_up h 5001 (206, 0, fun k => .ref (5010 + k))) 5000 (20, 17, updV (updV (updV (updV (fun j => defaultValue (tyX14 j)) 2 (.int 5)) 3 (.int 1)) 4 (.int 10)) 8 (.ref 5001))) O (xx_dt dd_X14_init 15 rfl) cl_X14 fz_X14_23 (xx_up_eq _ _ _) (by decide) (by omega) rfl rfl (fun _ => ⟨rfl, rfl⟩) xx_up_up ?_
  refine sw_aload_n O (xx_dt dd_X14_init 16 rfl) rfl ?_
  refine sw_new (k := 5) (n := 23) (r := 5002) O (xx_dt dd_X14_init 17 rfl) cl_Jx4a65c nw_X14_20 ((xx_up_ne (by omega)).trans ((xx_up_ne (by omega)).trans (hfr 5002 (by omega) (by omega)))) (by omega) ?_
  rw [xx_blk_up]
  refine sw_alter (r := 5002) (F2 := vp_V [.int 0, .null, .int 0]) (xx_up_eq _ _ _) (fun j hj => by match j, hj with | 0, _ => rfl | 1, _ => rfl | 2, _ => rfl) ?_
  rw [xx_up_up, xx_up_sw (by omega)]
  refine sw_dup O (xx_dt dd_X14_init 18 rfl) rfl ?_
  refine sw_callIx (k := 5) (n := 23) (k' := 0) (n' := 0) (as := []) (st := [.ref 5002, .ref 5000]) (st2 := [.ref 5002, .ref 5000]) O (ct_AL_init hl (r := 5002) ((xx_up_ne (by omega)).trans (xx_up_eq _ _ _)) (by omega) (fun k _ => rfl) ((xx_up_ne (by omega)).trans ((xx_up_ne (by omega)).trans ((xx_up_ne (by omega)).trans hz0)))) ce_Jx4a65c_init_da8c8 ml_X14_22 ii_Jx4a65c_init_da8c8 (xx_dt dd_X14_init 19 rfl) (by decide) rfl rfl (Nat.le_of_ble_eq_true rfl) rfl ?_
  refine sw_alter (r := 5002) (F2 := fun k => .ref (5020 + k)) (xx_up_eq _ _ _) (fun j hj => absurd hj (by omega)) ?_
  rw [xx_up_up, xx_up_sw (by omega), xx_up_up]
  refine sw_putF (h2 := xx_up (xx_up (xx_up h 5001 (206, 0, fun k => .ref (5010 + k))) 5002 (206, 0, fun k => .ref (5020 + k))) 5000 (20, 17, updV (updV (updV (updV (updV (fun j => defaultValue (tyX14 j)) 2 (.int 5)) 3 (.int 1)) 4 (.int 10)) 8 (.ref 5001)) 9 (.ref 5002))) O (xx_dt dd_X14_init 20 rfl) cl_X14 fz_X14_27 (xx_up_eq _ _ _) (by decide) (by omega) rfl rfl (fun _ => ⟨rfl, rfl⟩) xx_up_up ?_
  refine sw_aload_n O (xx_dt dd_X14_init 21 rfl) rfl ?_
  refine sw_new (k := 4) (n := 20) (r := 5003) O (xx_dt dd_X14_init 22 rfl) cl_Jx4a65c nw_X14_20 ((xx_up_ne (by omega)).trans ((xx_up_ne (by omega)).trans ((xx_up_ne (by omega)).trans (hfr 5003 (by omega) (by omega))))) (by omega) ?_
  rw [xx_blk_up]
  refine sw_alter (r := 5003) (F2 := vp_V [.int 0, .null, .int 0]) (xx_up_eq _ _ _) (fun j hj => by match j, hj with | 0, _ => rfl | 1, _ => rfl | 2, _ => rfl) ?_
  rw [xx_up_up, xx_up_sw (by omega)]
  refine sw_dup O (xx_dt dd_X14_init 23 rfl) rfl ?_
  refine sw_callIx (k := 4) (n := 20) (k' := 0) (n' := 0) (as := []) (st := [.ref 5003, .ref 5000]) (st2 := [.ref 5003, .ref 5000]) O (ct_AL_init hl (r := 5003) ((xx_up_ne (by omega)).trans (xx_up_eq _ _ _)) (by omega) (fun k _ => rfl) ((xx_up_ne (by omega)).trans ((xx_up_ne (by omega)).trans ((xx_up_ne (by omega)).trans ((xx_up_ne (by omega)).trans hz0))))) ce_Jx4a65c_init_da8c8 ml_X14_22 ii_Jx4a65c_init_da8c8 (xx_dt dd_X14_init 24 rfl) (by decide) rfl rfl (Nat.le_of_ble_eq_true rfl) rfl ?_
  refine sw_alter (r := 5003) (F2 := fun k => .ref (5200 + k)) (xx_up_eq _ _ _) (fun j hj => absurd hj (by omega)) ?_
  rw [xx_up_up, xx_up_sw (by omega), xx_up_up]
  refine sw_putF (h2 := xx_up (xx_up (xx_up (xx_up h 5001 (206, 0, fun k => .ref (5010 + k))) 5002 (206, 0, fun k => .ref (5020 + k))) 5003 (206, 0, fun k => .ref (5200 + k))) 5000 (20, 17, updV (updV (updV (updV (updV (updV (fun j => defaultValue (tyX14 j)) 2 (.int 5)) 3 (.int 1)) 4 (.int 10)) 8 (.ref 5001)) 9 (.ref 5002)) 10 (.ref 5003))) O (xx_dt dd_X14_init 25 rfl) cl_X14 fz_X14_30 (xx_up_eq _ _ _) (by decide) (by omega) rfl rfl (fun _ => ⟨rfl, rfl⟩) xx_up_up ?_
  refine sw_aload_n O (xx_dt dd_X14_init 26 rfl) rfl ?_
  refine sw_new (k := 3) (n := 17) (r := 5004) O (xx_dt dd_X14_init 27 rfl) cl_Jx4a65c nw_X14_20 ((xx_up_ne (by omega)).trans ((xx_up_ne (by omega)).trans ((xx_up_ne (by omega)).trans ((xx_up_ne (by omega)).trans (hfr 5004 (by omega) (by omega)))))) (by omega) ?_
  rw [xx_blk_up]
  refine sw_alter (r := 5004) (F2 := vp_V [.int 0, .null, .int 0]) (xx_up_eq _ _ _) (fun j hj => by match j, hj with | 0, _ => rfl | 1, _ => rfl | 2, _ => rfl) ?_
  rw [xx_up_up, xx_up_sw (by omega)]
  refine sw_dup O (xx_dt dd_X14_init 28 rfl) rfl ?_
  refine sw_callIx (k := 3) (n := 17) (k' := 0) (n' := 0) (as := []) (st := [.ref 5004, .ref 5000]) (st2 := [.ref 5004, .ref 5000]) O (ct_AL_init hl (r := 5004) ((xx_up_ne (by omega)).trans (xx_up_eq _ _ _)) (by omega) (fun k _ => rfl) ((xx_up_ne (by omega)).trans ((xx_up_ne (by omega)).trans ((xx_up_ne (by omega)).trans ((xx_up_ne (by omega)).trans ((xx_up_ne (by omega)).trans hz0)))))) ce_Jx4a65c_init_da8c8 ml_X14_22 ii_Jx4a65c_init_da8c8 (xx_dt dd_X14_init 29 rfl) (by decide) rfl rfl (Nat.le_of_ble_eq_true rfl) rfl ?_
  refine sw_alter (r := 5004) (F2 := fun k => .ref (xx_box (s0M 5004 k) (nmS s0M k))) (xx_up_eq _ _ _) (fun j hj => absurd hj (by omega)) ?_
  rw [xx_up_up, xx_up_sw (by omega), xx_up_up]
  refine sw_putF (h2 := xx_up (xx_up (xx_up (xx_up (xx_up h 5001 (206, 0, fun k => .ref (5010 + k))) 5002 (206, 0, fun k => .ref (5020 + k))) 5003 (206, 0, fun k => .ref (5200 + k))) 5004 (206, 0, fun k => .ref (xx_box (s0M 5004 k) (nmS s0M k)))) 5000 (20, 17, updV (updV (updV (updV (updV (updV (updV (fun j => defaultValue (tyX14 j)) 2 (.int 5)) 3 (.int 1)) 4 (.int 10)) 8 (.ref 5001)) 9 (.ref 5002)) 10 (.ref 5003)) 11 (.ref 5004))) O (xx_dt dd_X14_init 30 rfl) cl_X14 fz_X14_33 (xx_up_eq _ _ _) (by decide) (by omega) rfl rfl (fun _ => ⟨rfl, rfl⟩) xx_up_up ?_
  refine sw_aload_n O (xx_dt dd_X14_init 31 rfl) rfl ?_
  refine sw_bipush (x := 6) O (xx_dt dd_X14_init 32 rfl) (by decide) ?_
  refine sw_newarray (k := 2) (n := 11) (t := 100) (N := 6) (r := 5005) O (xx_dt dd_X14_init 33 rfl) ⟨⟨by omega, by omega⟩, rfl⟩ ac_int (by first | decide | (have h9 := xx_nlt0 6 (by omega); exact h9)) (by first | rfl | exact nI_clamp (by omega)) (by show 6 * 4 ≤ _; omega) ((xx_up_ne (by omega)).trans ((xx_up_ne (by omega)).trans ((xx_up_ne (by omega)).trans ((xx_up_ne (by omega)).trans ((xx_up_ne (by omega)).trans (hfr 5005 (by omega) (by omega))))))) (by omega) ?_
  rw [xx_blk_up, def0, xx_up_sw (by omega)]
  refine sw_putF (h2 := xx_up (xx_up (xx_up (xx_up (xx_up (xx_up h 5001 (206, 0, fun k => .ref (5010 + k))) 5002 (206, 0, fun k => .ref (5020 + k))) 5003 (206, 0, fun k => .ref (5200 + k))) 5004 (206, 0, fun k => .ref (xx_box (s0M 5004 k) (nmS s0M k)))) 5005 (100, 6, fun _ => .int 0)) 5000 (20, 17, updV (updV (updV (updV (updV (updV (updV (updV (fun j => defaultValue (tyX14 j)) 2 (.int 5)) 3 (.int 1)) 4 (.int 10)) 8 (.ref 5001)) 9 (.ref 5002)) 10 (.ref 5003)) 11 (.ref 5004)) 13 (.ref 5005))) O (xx_dt dd_X14_init 34 rfl) cl_X14 fz_X14_36 (xx_up_eq _ _ _) (by decide) (by omega) rfl rfl (fun _ => ⟨rfl, rfl⟩) xx_up_up ?_
  refine sw_aload_n O (xx_dt dd_X14_init 35 rfl) rfl ?_
  refine sw_bipush (x := 6) O (xx_dt dd_X14_init 36 rfl) (by decide) ?_
  refine sw_newarray (k := 1) (n := 5) (t := 100) (N := 6) (r := 5006) O (xx_dt dd_X14_init 37 rfl) ⟨⟨by omega, by omega⟩, rfl⟩ ac_int (by first | decide | (have h9 := xx_nlt0 6 (by omega); exact h9)) (by first | rfl | exact nI_clamp (by omega)) (by show 6 * 4 ≤ _; omega) ((xx_up_ne (by omega)).trans ((xx_up_ne (by omega)).trans ((xx_up_ne (by omega)).trans ((xx_up_ne (by omega)).trans ((xx_up_ne (by omega)).trans ((xx_up_ne (by omega)).trans (hfr 5006 (by omega) (by omega)))))))) (by omega) ?_
  rw [xx_blk_up, def0, xx_up_sw (by omega)]
  refine sw_putF (h2 := xx_up (xx_up (xx_up (xx_up (xx_up (xx_up (xx_up h 5001 (206, 0, fun k => .ref (5010 + k))) 5002 (206, 0, fun k => .ref (5020 + k))) 5003 (206, 0, fun k => .ref (5200 + k))) 5004 (206, 0, fun k => .ref (xx_box (s0M 5004 k) (nmS s0M k)))) 5005 (100, 6, fun _ => .int 0)) 5006 (100, 6, fun _ => .int 0)) 5000 (20, 17, updV (updV (updV (updV (updV (updV (updV (updV (updV (fun j => defaultValue (tyX14 j)) 2 (.int 5)) 3 (.int 1)) 4 (.int 10)) 8 (.ref 5001)) 9 (.ref 5002)) 10 (.ref 5003)) 11 (.ref 5004)) 13 (.ref 5005)) 14 (.ref 5006))) O (xx_dt dd_X14_init 38 rfl) cl_X14 fz_X14_40 (xx_up_eq _ _ _) (by decide) (by omega) rfl rfl (fun _ => ⟨rfl, rfl⟩) xx_up_up ?_
  refine sw_aload_n O (xx_dt dd_X14_init 39 rfl) rfl ?_
  refine sw_iconst (x := 5) O (xx_dt dd_X14_init 40 rfl) (by decide) ?_
  refine sw_newarray (k := 0) (n := 0) (t := 100) (N := 5) (r := 5007) O (xx_dt dd_X14_init 41 rfl) ⟨⟨by omega, by omega⟩, rfl⟩ ac_int (by first | decide | (have h9 := xx_nlt0 5 (by omega); exact h9)) (by first | rfl | exact nI_clamp (by omega)) (by show 5 * 4 ≤ _; omega) ((xx_up_ne (by omega)).trans ((xx_up_ne (by omega)).trans ((xx_up_ne (by omega)).trans ((xx_up_ne (by omega)).trans ((xx_up_ne (by omega)).trans ((xx_up_ne (by omega)).trans ((xx_up_ne (by omega)).trans (hfr 5007 (by omega) (by omega))))))))) (by omega) ?_
  rw [xx_blk_up, def0, xx_up_sw (by omega)]
  refine sw_putF (h2 := xx_up (xx_up (xx_up (xx_up (xx_up (xx_up (xx_up (xx_up h 5001 (206, 0, fun k => .ref (5010 + k))) 5002 (206, 0, fun k => .ref (5020 + k))) 5003 (206, 0, fun k => .ref (5200 + k))) 5004 (206, 0, fun k => .ref (xx_box (s0M 5004 k) (nmS s0M k)))) 5005 (100, 6, fun _ => .int 0)) 5006 (100, 6, fun _ => .int 0)) 5007 (100, 5, fun _ => .int 0)) 5000 (20, 17, updV (updV (updV (updV (updV (updV (updV (updV (updV (updV (fun j => defaultValue (tyX14 j)) 2 (.int 5)) 3 (.int 1)) 4 (.int 10)) 8 (.ref 5001)) 9 (.ref 5002)) 10 (.ref 5003)) 11 (.ref 5004)) 13 (.ref 5005)) 14 (.ref 5006)) 15 (.ref 5007))) O (xx_dt dd_X14_init 42 rfl) cl_X14 fz_X14_43 (xx_up_eq _ _ _) (by decide) (by omega) rfl rfl (fun _ => ⟨rfl, rfl⟩) xx_up_up ?_
  refine sw_alter (F2 := mod_F) (xx_up_eq _ _ _) (fun j hj => by match j, hj with | 0, _ => rfl | 1, _ => rfl | 2, _ => rfl | 3, _ => rfl | 4, _ => rfl | 5, _ => rfl | 6, _ => rfl | 7, _ => rfl | 8, _ => rfl | 9, _ => rfl | 10, _ => rfl | 11, _ => rfl | 12, _ => rfl | 13, _ => rfl | 14, _ => rfl | 15, _ => rfl | 16, _ => rfl | k9 + 17, h9 => exact absurd h9 (by omega)) ?_
  rw [xx_up_up, new_mod]
  exact sw_ret O (xx_dt dd_X14_init 43 rfl) rfl (by rw [hQ]; exact ⟨rfl, rfl⟩)
