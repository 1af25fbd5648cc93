/-! ===== constructors with rows of -1 ===== -/
theorem lyr_1140 {k : Nat} (hk : k < 5) (s : Nat → Int32) : lyC (1141 + k) s = some (100, 5, fun j => .int (s j)) := by
  have := lr_1140 (fun _ => s) (fun _ => none) hk
  unfold setC at this
  rw [if_pos (by omega)] at this
  exact this
def zR1140 (z : XS9) (n : Nat) : XS9 := fun q => if 1141 ≤ q ∧ q < 1141 + n then (fun _ => -1) else z q
theorem zR1140_s (z : XS9) (n : Nat) : (fun q => if q = 1141 + n then (fun _ => (-1 : Int32)) else zR1140 z n q) = zR1140 z (n + 1) := by
  funext q
  unfold zR1140
  by_cases e : q = 1141 + n
  · rw [if_pos e, if_pos (by omega)]
  · rw [if_neg e]
    by_cases e2 : 1141 ≤ q ∧ q < 1141 + n
    · rw [if_pos e2, if_pos (by omega)]
    · rw [if_neg e2, if_neg (by omega)]
theorem lyr_1050 {k : Nat} (hk : k < 64) (s : Nat → Int32) : lyC (1051 + k) s = some (100, 6, fun j => .int (s j)) := by
  have := lr_1050 (fun _ => s) (fun _ => none) hk
  unfold setC at this
  rw [if_pos (by omega)] at this
  exact this
def zR1050 (z : XS9) (n : Nat) : XS9 := fun q => if 1051 ≤ q ∧ q < 1051 + n then (fun _ => -1) else z q
theorem zR1050_s (z : XS9) (n : Nat) : (fun q => if q = 1051 + n then (fun _ => (-1 : Int32)) else zR1050 z n q) = zR1050 z (n + 1) := by
  funext q
  unfold zR1050
  by_cases e : q = 1051 + n
  · rw [if_pos e, if_pos (by omega)]
  · rw [if_neg e]
    by_cases e2 : 1051 ≤ q ∧ q < 1051 + n
    · rw [if_pos e2, if_pos (by omega)]
    · rw [if_neg e2, if_neg (by omega)]
theorem ct_X3_init {l : Launch} {h : XH} (hl : l.stackTraces = false) (hf : ∀ q, 1140 ≤ q → q < 1146 → q ≠ 1005 → h q = none) (hb : h 1005 = some (9, 2, fun j => defaultValue (tyX3 j))) : XEx l m_X3_init 1 6 30 [.ref 1005] h none (setI [(1005, 1), (1140, 6)] s0C h) := by
  refine XMet.of hl rfl rfl (Nat.le_of_ble_eq_true rfl) (fun Y O hh hQ => ?_)
  have fr_1140 : ∀ {q : Nat}, q < 6 → inI [] (1140 + q) = false := by decide
  have mb_1140 : ∀ i, i < 6 → lyC (1140 + i) (z9 (1140 + i)) = some (if i = 0 then (103, 5, fun q => .ref (1140 + 1 + q)) else (100, 5, fun _ => .int 0)) := by
    intro i hi
    cases i with
    | zero => rfl
    | succ k =>
      have h9 := lr_1140 z9 (fun _ => none) (k := k) (by omega)
      unfold setC at h9
      rw [if_pos (by omega)] at h9
      rw [show 1140 + (k + 1) = 1141 + k by omega, if_neg (by omega)]
      exact h9
  rw [show h = xx_up (setI [] z9 h) 1005 (9, 2, fun j => defaultValue (tyX3 j)) from (xx_up_self hb).symm]
  show SW Y 6 30 _ 0 [.ref 1005, xx_d] []
  refine sw_aload_n O (xx_dt dd_X3_init 0 rfl) rfl ?_
  refine sw_objInit O oi_X3_3 (xx_dt dd_X3_init 1 rfl) (by omega) (Nat.le_of_ble_eq_true rfl) ?_
  refine sw_aload_n O (xx_dt dd_X3_init 2 rfl) rfl ?_
  refine sw_iconst (x := 5) O (xx_dt dd_X3_init 3 rfl) (by decide) ?_
  refine sw_iconst (x := 5) O (xx_dt dd_X3_init 4 rfl) (by decide) ?_
  refine sw_multi (k := 0) (n := 0) (N := 5) (K := 5) (r := 1140) O (xx_dt dd_X3_init 5 rfl) mu_X3_9 (by decide) (by decide) (by decide) (by decide) (by omega) (by omega) (fun q hq => ob_free (by omega) (fr_1140 hq) (hf _ (by omega) (by omega) (by omega))) (by omega) ?_
  rw [ob_new (by omega) mb_1140]
  refine sw_putF (h2 := xx_up (setI [(1140, 6)] z9 h) 1005 (9, 2, updV (fun j => defaultValue (tyX3 j)) 0 (.ref 1140))) O (xx_dt dd_X3_init 6 rfl) cl_X3 fz_X3_11 (xx_up_eq _ _ _) (by decide) (by omega) rfl rfl (fun _ => ⟨rfl, rfl⟩) xx_up_up ?_
  refine sw_alter (r := 1005) (t := 9) (N := 2) (F2 := fun k => match k with | 0 => .ref (1140) | 1 => .int (z9 1005 1) | _ => .null) (xx_up_eq _ _ _) (fun j hj => ?_) ?_
  · match j, hj with
    | 0, _ => rfl
    | 1, _ => rfl
  rw [xx_up_up, ob_done (σ' := z9) rfl (fun _ _ _ => rfl)]
  refine sw_iconst (x := 0) O (xx_dt dd_X3_init 7 rfl) (by decide) ?_
  refine sw_istore_n (ls2 := [.ref 1005, .int 0]) O (xx_dt dd_X3_init 8 rfl) (by decide) rfl ?_
  rw [show setI [(1005, 1), (1140, 6)] z9 h = setI [(1005, 1), (1140, 6)] (zR1140 z9 0) h from setI_congr (fun q hq => by unfold zR1140; rw [if_neg (by omega)])]
  refine sw_for (S := Nat) (fun i _ => i + 1) (fun i s => s = i) (hp := fun s => setI [(1005, 1), (1140, 6)] (zR1140 z9 s) h) (hd := 16) (lc := fun i s => [.ref 1005, .int (nI i)]) (N := 5) (fun i s hi hs => ⟨rfl, fun kk => ?_⟩) 5 0 0 (by omega) rfl (fun hs => ?_)
  · subst hs
    refine sw_iload_n O (xx_dt dd_X3_init 9 rfl) rfl ?_
    refine sw_iconst (x := 5) O (xx_dt dd_X3_init 10 rfl) (by decide) ?_
    refine sw_icmp_ge (tgt := 37) O (xx_dt dd_X3_init 11 rfl) (by decide) (fun q => absurd q (nI_ge (b := 5) hi (by omega))) (fun q => ?_)
    refine sw_aload_n O (xx_dt dd_X3_init 12 rfl) rfl ?_
    refine sw_get (v := .ref 1140) O (xx_dt dd_X3_init 13 rfl) cl_X3 fl_X3_11 (f := fun k => match k with | 0 => .ref (1140) | 1 => .int ((zR1140 z9 s) 1005 1) | _ => .null) (setI_in (by decide)) (by decide) rfl ?_
    refine sw_iload_n O (xx_dt dd_X3_init 14 rfl) rfl ?_
    refine sw_aaload (t := 103) (N := 5) (f := fun k => .ref (1141 + k)) (v := .ref (1141 + s)) O (xx_dt dd_X3_init 15 rfl) (by omega) (by omega) (setI_in (by decide)) (pk_in s 5 hi) (by rw [nI_clamp (by omega)]) ?_
    refine sw_iconst (x := (-1)) O (xx_dt dd_X3_init 16 rfl) (by decide) ?_
    refine sw_callSx (as := [.ref (1141 + s), .int (-1)]) (st := []) (st2 := []) O (ct_fillG hl (a := 1141 + s) (n := 5) (x := -1) (F := fun k => .int ((zR1140 z9 s) (1141 + s) k)) ((setI_in (by simp only [inI, List.any_cons, List.any_nil, Bool.or_false, Bool.or_eq_true, decide_eq_true_eq]; omega)).trans (lyr_1140 hi _)) (by omega) (by omega)) ce_J7_fill_53178 ml_X3_16 st_J7_fill_53178 (xx_dt dd_X3_init 17 rfl) (by decide) rfl rfl (Nat.le_of_ble_eq_true rfl) rfl ?_
    rw [setI_up (x := fun _ => -1) (by simp only [inI, List.any_cons, List.any_nil, Bool.or_false, Bool.or_eq_true, decide_eq_true_eq]; omega) (lyr_1140 hi _), zR1140_s]
    refine sw_iinc (y := nI (s + 1)) (ls2 := [.ref 1005, .int (nI (s + 1))]) O (xx_dt dd_X3_init 18 rfl) rfl (nI_1 _) (by decide) rfl ?_
    refine sw_goto (tgt := 16) O (xx_dt dd_X3_init 19 rfl) (by decide) ?_
    exact kk
  · generalize hz : xit (fun i _ => i + 1) 5 0 0 = z at hs ⊢
    subst hs
    refine sw_iload_n O (xx_dt dd_X3_init 9 rfl) rfl ?_
    refine sw_iconst (x := 5) O (xx_dt dd_X3_init 10 rfl) (by decide) ?_
    refine sw_icmp_ge (tgt := 37) O (xx_dt dd_X3_init 11 rfl) (by decide) (fun q => ?_) (fun q => absurd (Int32.le_refl _) q)
    rw [show setI [(1005, 1), (1140, 6)] (zR1140 z9 5) h = setI [(1005, 1), (1140, 6)] s0C h from setI_congr (fun q hq => by
      simp only [inI, List.any_cons, List.any_nil, Bool.or_false, Bool.or_eq_true, decide_eq_true_eq] at hq
      unfold zR1140
      by_cases e : 1141 ≤ q ∧ q < 1141 + 5
      · rw [if_pos e]
        funext k
        unfold s0C
        rw [if_neg (by omega), if_neg (by omega), if_pos (by omega)]
      · rw [if_neg e]
        exact (s0C_z (by omega) (by omega) (by omega) (by omega)).symm)]
    exact sw_ret O (xx_dt dd_X3_init 20 rfl) rfl (by rw [hQ]; exact ⟨rfl, rfl⟩)
def zM1 : XS9 := fun q => if q = 1042 then (fun _ => -1) else z9 q
def zM2 : XS9 := fun q => if q = 1042 then (fun j => if j = 0 then 0 else -1) else zM1 q
def zM3 : XS9 := fun q => if q = 1043 then (fun _ => -1) else zR1050 zM2 64 q
def zM4 : XS9 := fun q => if q = 1040 then (fun _ => -1) else zM3 q
theorem ct_X2_init {l : Launch} {h : XH} (hl : l.stackTraces = false) (hf : ∀ q, 1020 ≤ q → q < 1125 → q ≠ 1003 → h q = none) (hb : h 1003 = some (8, 11, fun j => defaultValue (tyX2 j))) : XEx l m_X2_init 1 90 707 [.ref 1003] h none (setI [(1003, 1), (1120, 5), (1044, 1), (1043, 1), (1050, 65), (1042, 1), (1041, 1), (1040, 1), (1030, 7), (1021, 7), (1020, 1)] s0C h) := by
  refine XMet.of hl rfl rfl (Nat.le_of_ble_eq_true rfl) (fun Y O hh hQ => ?_)
  have fr_1021 : ∀ {q : Nat}, q < 7 → inI [(1020, 1)] (1021 + q) = false := by decide
  have mb_1021 : ∀ i, i < 7 → lyC (1021 + i) (z9 (1021 + i)) = some (if i = 0 then (103, 6, fun q => .ref (1021 + 1 + q)) else (100, 6, fun _ => .int 0)) := by
    intro i hi
    cases i with
    | zero => rfl
    | succ k =>
      have h9 := lr_1021 z9 (fun _ => none) (k := k) (by omega)
      unfold setC at h9
      rw [if_pos (by omega)] at h9
      rw [show 1021 + (k + 1) = 1022 + k by omega, if_neg (by omega)]
      exact h9
  have fr_1030 : ∀ {q : Nat}, q < 7 → inI [(1021, 7), (1020, 1)] (1030 + q) = false := by decide
  have mb_1030 : ∀ i, i < 7 → lyC (1030 + i) (z9 (1030 + i)) = some (if i = 0 then (103, 6, fun q => .ref (1030 + 1 + q)) else (100, 6, fun _ => .int 0)) := by
    intro i hi
    cases i with
    | zero => rfl
    | succ k =>
      have h9 := lr_1030 z9 (fun _ => none) (k := k) (by omega)
      unfold setC at h9
      rw [if_pos (by omega)] at h9
      rw [show 1030 + (k + 1) = 1031 + k by omega, if_neg (by omega)]
      exact h9
  have fr_1050 : ∀ {q : Nat}, q < 65 → inI [(1042, 1), (1041, 1), (1040, 1), (1030, 7), (1021, 7), (1020, 1)] (1050 + q) = false := by decide
  have mb_1050 : ∀ i, i < 65 → lyC (1050 + i) (z9 (1050 + i)) = some (if i = 0 then (103, 64, fun q => .ref (1050 + 1 + q)) else (100, 6, fun _ => .int 0)) := by
    intro i hi
    cases i with
    | zero => rfl
    | succ k =>
      have h9 := lr_1050 z9 (fun _ => none) (k := k) (by omega)
      unfold setC at h9
      rw [if_pos (by omega)] at h9
      rw [show 1050 + (k + 1) = 1051 + k by omega, if_neg (by omega)]
      exact h9
  have fr_1120 : ∀ {q : Nat}, q < 5 → inI [(1044, 1), (1043, 1), (1050, 65), (1042, 1), (1041, 1), (1040, 1), (1030, 7), (1021, 7), (1020, 1)] (1120 + q) = false := by decide
  have mb_1120 : ∀ i, i < 5 → lyC (1120 + i) (z9 (1120 + i)) = some (if i = 0 then (103, 4, fun q => .ref (1120 + 1 + q)) else (100, 5, fun _ => .int 0)) := by
    intro i hi
    cases i with
    | zero => rfl
    | succ k =>
      have h9 := lr_1120 z9 (fun _ => none) (k := k) (by omega)
      unfold setC at h9
      rw [if_pos (by omega)] at h9
      rw [show 1120 + (k + 1) = 1121 + k by omega, if_neg (by omega)]
      exact h9
  rw [show h = xx_up (setI [] z9 h) 1003 (8, 11, fun j => defaultValue (tyX2 j)) from (xx_up_self hb).symm]
  show SW Y 90 707 _ 0 [.ref 1003, xx_d] []
  refine sw_aload_n O (xx_dt dd_X2_init 0 rfl) rfl ?_
  refine sw_objInit O oi_X2_3 (xx_dt dd_X2_init 1 rfl) (by omega) (Nat.le_of_ble_eq_true rfl) ?_
  refine sw_aload_n O (xx_dt dd_X2_init 2 rfl) rfl ?_
  refine sw_bipush (x := 6) O (xx_dt dd_X2_init 3 rfl) (by decide) ?_
  refine sw_newarray (k := 89) (n := 701) (t := 100) (N := 6) (r := 1020) O (xx_dt dd_X2_init 4 rfl) ⟨⟨by omega, by omega⟩, rfl⟩ ac_int (by decide) (by decide) (by decide) (ob_free (by decide) (by decide) (hf 1020 (by omega) (by omega) (by omega))) (by omega) ?_
  rw [ob_new (by omega) (fun i hi => by obtain rfl : i = 0 := (by omega); rfl)]
  refine sw_putF (h2 := xx_up (setI [(1020, 1)] z9 h) 1003 (8, 11, updV (fun j => defaultValue (tyX2 j)) 0 (.ref 1020))) O (xx_dt dd_X2_init 5 rfl) cl_X2 fz_X2_9 (xx_up_eq _ _ _) (by decide) (by omega) rfl rfl (fun _ => ⟨rfl, rfl⟩) xx_up_up ?_
  refine sw_aload_n O (xx_dt dd_X2_init 6 rfl) rfl ?_
  refine sw_bipush (x := 6) O (xx_dt dd_X2_init 7 rfl) (by decide) ?_
  refine sw_bipush (x := 6) O (xx_dt dd_X2_init 8 rfl) (by decide) ?_
  refine sw_multi (k := 82) (n := 659) (N := 6) (K := 6) (r := 1021) O (xx_dt dd_X2_init 9 rfl) mu_X2_15 (by decide) (by decide) (by decide) (by decide) (by omega) (by omega) (fun q hq => ob_free (by omega) (fr_1021 hq) (hf _ (by omega) (by omega) (by omega))) (by omega) ?_
  rw [ob_new (by omega) mb_1021]
  refine sw_putF (h2 := xx_up (setI [(1021, 7), (1020, 1)] z9 h) 1003 (8, 11, updV (updV (fun j => defaultValue (tyX2 j)) 0 (.ref 1020)) 1 (.ref 1021))) O (xx_dt dd_X2_init 10 rfl) cl_X2 fz_X2_17 (xx_up_eq _ _ _) (by decide) (by omega) rfl rfl (fun _ => ⟨rfl, rfl⟩) xx_up_up ?_
  refine sw_aload_n O (xx_dt dd_X2_init 11 rfl) rfl ?_
  refine sw_bipush (x := 6) O (xx_dt dd_X2_init 12 rfl) (by decide) ?_
  refine sw_bipush (x := 6) O (xx_dt dd_X2_init 13 rfl) (by decide) ?_
  refine sw_multi (k := 75) (n := 617) (N := 6) (K := 6) (r := 1030) O (xx_dt dd_X2_init 14 rfl) mu_X2_15 (by decide) (by decide) (by decide) (by decide) (by omega) (by omega) (fun q hq => ob_free (by omega) (fr_1030 hq) (hf _ (by omega) (by omega) (by omega))) (by omega) ?_
  rw [ob_new (by omega) mb_1030]
  refine sw_putF (h2 := xx_up (setI [(1030, 7), (1021, 7), (1020, 1)] z9 h) 1003 (8, 11, updV (updV (updV (fun j => defaultValue (tyX2 j)) 0 (.ref 1020)) 1 (.ref 1021)) 2 (.ref 1030))) O (xx_dt dd_X2_init 15 rfl) cl_X2 fz_X2_20 (xx_up_eq _ _ _) (by decide) (by omega) rfl rfl (fun _ => ⟨rfl, rfl⟩) xx_up_up ?_
  refine sw_aload_n O (xx_dt dd_X2_init 16 rfl) rfl ?_
  refine sw_bipush (x := 6) O (xx_dt dd_X2_init 17 rfl) (by decide) ?_
  refine sw_newarray (k := 74) (n := 611) (t := 100) (N := 6) (r := 1040) O (xx_dt dd_X2_init 18 rfl) ⟨⟨by omega, by omega⟩, rfl⟩ ac_int (by decide) (by decide) (by decide) (ob_free (by decide) (by decide) (hf 1040 (by omega) (by omega) (by omega))) (by omega) ?_
  rw [ob_new (by omega) (fun i hi => by obtain rfl : i = 0 := (by omega); rfl)]
  refine sw_putF (h2 := xx_up (setI [(1040, 1), (1030, 7), (1021, 7), (1020, 1)] z9 h) 1003 (8, 11, updV (updV (updV (updV (fun j => defaultValue (tyX2 j)) 0 (.ref 1020)) 1 (.ref 1021)) 2 (.ref 1030)) 3 (.ref 1040))) O (xx_dt dd_X2_init 19 rfl) cl_X2 fz_X2_23 (xx_up_eq _ _ _) (by decide) (by omega) rfl rfl (fun _ => ⟨rfl, rfl⟩) xx_up_up ?_
  refine sw_aload_n O (xx_dt dd_X2_init 20 rfl) rfl ?_
  refine sw_bipush (x := 64) O (xx_dt dd_X2_init 21 rfl) (by decide) ?_
  refine sw_newarray (k := 73) (n := 547) (t := 100) (N := 64) (r := 1041) O (xx_dt dd_X2_init 22 rfl) ⟨⟨by omega, by omega⟩, rfl⟩ ac_int (by decide) (by decide) (by decide) (ob_free (by decide) (by decide) (hf 1041 (by omega) (by omega) (by omega))) (by omega) ?_
  rw [ob_new (by omega) (fun i hi => by obtain rfl : i = 0 := (by omega); rfl)]
  refine sw_putF (h2 := xx_up (setI [(1041, 1), (1040, 1), (1030, 7), (1021, 7), (1020, 1)] z9 h) 1003 (8, 11, updV (updV (updV (updV (updV (fun j => defaultValue (tyX2 j)) 0 (.ref 1020)) 1 (.ref 1021)) 2 (.ref 1030)) 3 (.ref 1040)) 4 (.ref 1041))) O (xx_dt dd_X2_init 23 rfl) cl_X2 fz_X2_26 (xx_up_eq _ _ _) (by decide) (by omega) rfl rfl (fun _ => ⟨rfl, rfl⟩) xx_up_up ?_
  refine sw_aload_n O (xx_dt dd_X2_init 24 rfl) rfl ?_
  refine sw_bipush (x := 64) O (xx_dt dd_X2_init 25 rfl) (by decide) ?_
  refine sw_newarray (k := 72) (n := 483) (t := 100) (N := 64) (r := 1042) O (xx_dt dd_X2_init 26 rfl) ⟨⟨by omega, by omega⟩, rfl⟩ ac_int (by decide) (by decide) (by decide) (ob_free (by decide) (by decide) (hf 1042 (by omega) (by omega) (by omega))) (by omega) ?_
  rw [ob_new (by omega) (fun i hi => by obtain rfl : i = 0 := (by omega); rfl)]
  refine sw_putF (h2 := xx_up (setI [(1042, 1), (1041, 1), (1040, 1), (1030, 7), (1021, 7), (1020, 1)] z9 h) 1003 (8, 11, updV (updV (updV (updV (updV (updV (fun j => defaultValue (tyX2 j)) 0 (.ref 1020)) 1 (.ref 1021)) 2 (.ref 1030)) 3 (.ref 1040)) 4 (.ref 1041)) 6 (.ref 1042))) O (xx_dt dd_X2_init 27 rfl) cl_X2 fz_X2_29 (xx_up_eq _ _ _) (by decide) (by omega) rfl rfl (fun _ => ⟨rfl, rfl⟩) xx_up_up ?_
  refine sw_aload_n O (xx_dt dd_X2_init 28 rfl) rfl ?_
  refine sw_bipush (x := 64) O (xx_dt dd_X2_init 29 rfl) (by decide) ?_
  refine sw_bipush (x := 6) O (xx_dt dd_X2_init 30 rfl) (by decide) ?_
  refine sw_multi (k := 7) (n := 35) (N := 64) (K := 6) (r := 1050) O (xx_dt dd_X2_init 31 rfl) mu_X2_15 (by decide) (by decide) (by decide) (by decide) (by omega) (by omega) (fun q hq => ob_free (by omega) (fr_1050 hq) (hf _ (by omega) (by omega) (by omega))) (by omega) ?_
  rw [ob_new (by omega) mb_1050]
  refine sw_putF (h2 := xx_up (setI [(1050, 65), (1042, 1), (1041, 1), (1040, 1), (1030, 7), (1021, 7), (1020, 1)] z9 h) 1003 (8, 11, updV (updV (updV (updV (updV (updV (updV (fun j => defaultValue (tyX2 j)) 0 (.ref 1020)) 1 (.ref 1021)) 2 (.ref 1030)) 3 (.ref 1040)) 4 (.ref 1041)) 6 (.ref 1042)) 7 (.ref 1050))) O (xx_dt dd_X2_init 32 rfl) cl_X2 fz_X2_32 (xx_up_eq _ _ _) (by decide) (by omega) rfl rfl (fun _ => ⟨rfl, rfl⟩) xx_up_up ?_
  refine sw_aload_n O (xx_dt dd_X2_init 33 rfl) rfl ?_
  refine sw_bipush (x := 6) O (xx_dt dd_X2_init 34 rfl) (by decide) ?_
  refine sw_newarray (k := 6) (n := 29) (t := 100) (N := 6) (r := 1043) O (xx_dt dd_X2_init 35 rfl) ⟨⟨by omega, by omega⟩, rfl⟩ ac_int (by decide) (by decide) (by decide) (ob_free (by decide) (by decide) (hf 1043 (by omega) (by omega) (by omega))) (by omega) ?_
  rw [ob_new (by omega) (fun i hi => by obtain rfl : i = 0 := (by omega); rfl)]
  refine sw_putF (h2 := xx_up (setI [(1043, 1), (1050, 65), (1042, 1), (1041, 1), (1040, 1), (1030, 7), (1021, 7), (1020, 1)] z9 h) 1003 (8, 11, updV (updV (updV (updV (updV (updV (updV (updV (fun j => defaultValue (tyX2 j)) 0 (.ref 1020)) 1 (.ref 1021)) 2 (.ref 1030)) 3 (.ref 1040)) 4 (.ref 1041)) 6 (.ref 1042)) 7 (.ref 1050)) 8 (.ref 1043))) O (xx_dt dd_X2_init 36 rfl) cl_X2 fz_X2_35 (xx_up_eq _ _ _) (by decide) (by omega) rfl rfl (fun _ => ⟨rfl, rfl⟩) xx_up_up ?_
  refine sw_aload_n O (xx_dt dd_X2_init 37 rfl) rfl ?_
  refine sw_iconst (x := 5) O (xx_dt dd_X2_init 38 rfl) (by decide) ?_
  refine sw_newarray (k := 5) (n := 24) (t := 100) (N := 5) (r := 1044) O (xx_dt dd_X2_init 39 rfl) ⟨⟨by omega, by omega⟩, rfl⟩ ac_int (by decide) (by decide) (by decide) (ob_free (by decide) (by decide) (hf 1044 (by omega) (by omega) (by omega))) (by omega) ?_
  rw [ob_new (by omega) (fun i hi => by obtain rfl : i = 0 := (by omega); rfl)]
  refine sw_putF (h2 := xx_up (setI [(1044, 1), (1043, 1), (1050, 65), (1042, 1), (1041, 1), (1040, 1), (1030, 7), (1021, 7), (1020, 1)] z9 h) 1003 (8, 11, updV (updV (updV (updV (updV (updV (updV (updV (updV (fun j => defaultValue (tyX2 j)) 0 (.ref 1020)) 1 (.ref 1021)) 2 (.ref 1030)) 3 (.ref 1040)) 4 (.ref 1041)) 6 (.ref 1042)) 7 (.ref 1050)) 8 (.ref 1043)) 9 (.ref 1044))) O (xx_dt dd_X2_init 40 rfl) cl_X2 fz_X2_38 (xx_up_eq _ _ _) (by decide) (by omega) rfl rfl (fun _ => ⟨rfl, rfl⟩) xx_up_up ?_
  refine sw_aload_n O (xx_dt dd_X2_init 41 rfl) rfl ?_
  refine sw_iconst (x := 4) O (xx_dt dd_X2_init 42 rfl) (by decide) ?_
  refine sw_iconst (x := 5) O (xx_dt dd_X2_init 43 rfl) (by decide) ?_
  refine sw_multi (k := 0) (n := 0) (N := 4) (K := 5) (r := 1120) O (xx_dt dd_X2_init 44 rfl) mu_X2_15 (by decide) (by decide) (by decide) (by decide) (by omega) (by omega) (fun q hq => ob_free (by omega) (fr_1120 hq) (hf _ (by omega) (by omega) (by omega))) (by omega) ?_
  rw [ob_new (by omega) mb_1120]
  refine sw_putF (h2 := xx_up (setI [(1120, 5), (1044, 1), (1043, 1), (1050, 65), (1042, 1), (1041, 1), (1040, 1), (1030, 7), (1021, 7), (1020, 1)] z9 h) 1003 (8, 11, updV (updV (updV (updV (updV (updV (updV (updV (updV (updV (fun j => defaultValue (tyX2 j)) 0 (.ref 1020)) 1 (.ref 1021)) 2 (.ref 1030)) 3 (.ref 1040)) 4 (.ref 1041)) 6 (.ref 1042)) 7 (.ref 1050)) 8 (.ref 1043)) 9 (.ref 1044)) 10 (.ref 1120))) O (xx_dt dd_X2_init 45 rfl) cl_X2 fz_X2_41 (xx_up_eq _ _ _) (by decide) (by omega) rfl rfl (fun _ => ⟨rfl, rfl⟩) xx_up_up ?_
  refine sw_alter (r := 1003) (t := 8) (N := 11) (F2 := fun k => match k with | 0 => .ref (1020) | 1 => .ref (1021) | 2 => .ref (1030) | 3 => .ref (1040) | 4 => .ref (1041) | 5 => .int (z9 1003 5) | 6 => .ref (1042) | 7 => .ref (1050) | 8 => .ref (1043) | 9 => .ref (1044) | 10 => .ref (1120) | _ => .null) (xx_up_eq _ _ _) (fun j hj => ?_) ?_
  · match j, hj with
    | 0, _ => rfl
    | 1, _ => rfl
    | 2, _ => rfl
    | 3, _ => rfl
    | 4, _ => rfl
    | 5, _ => rfl
    | 6, _ => rfl
    | 7, _ => rfl
    | 8, _ => rfl
    | 9, _ => rfl
    | 10, _ => rfl
  rw [xx_up_up, ob_done (σ' := z9) rfl (fun _ _ _ => rfl)]
  refine sw_aload_n O (xx_dt dd_X2_init 46 rfl) rfl ?_
  refine sw_get (v := .ref 1042) O (xx_dt dd_X2_init 47 rfl) cl_X2 fl_X2_29 (f := fun k => match k with | 0 => .ref (1020) | 1 => .ref (1021) | 2 => .ref (1030) | 3 => .ref (1040) | 4 => .ref (1041) | 5 => .int (z9 1003 5) | 6 => .ref (1042) | 7 => .ref (1050) | 8 => .ref (1043) | 9 => .ref (1044) | 10 => .ref (1120) | _ => .null) (setI_in (by decide)) (by decide) rfl ?_
  refine sw_iconst (x := (-1)) O (xx_dt dd_X2_init 48 rfl) (by decide) ?_
  refine sw_callSx (as := [.ref (1042), .int (-1)]) (st := []) (st2 := []) O (ct_fillG hl (a := 1042) (n := 64) (x := -1) (F := fun k => .int (z9 (1042) k)) (setI_in (by decide)) (by omega) (by omega)) ce_J7_fill_53178 ml_X2_44 st_J7_fill_53178 (xx_dt dd_X2_init 49 rfl) (by decide) rfl rfl (Nat.le_of_ble_eq_true rfl) rfl ?_
  rw [setI_up (x := fun _ => -1) (by decide) rfl, show (fun q => if q = 1042 then (fun _ => (-1 : Int32)) else z9 q) = zM1 from rfl]
  refine sw_aload_n O (xx_dt dd_X2_init 50 rfl) rfl ?_
  refine sw_get (v := .ref 1042) O (xx_dt dd_X2_init 51 rfl) cl_X2 fl_X2_29 (f := fun k => match k with | 0 => .ref (1020) | 1 => .ref (1021) | 2 => .ref (1030) | 3 => .ref (1040) | 4 => .ref (1041) | 5 => .int (zM1 1003 5) | 6 => .ref (1042) | 7 => .ref (1050) | 8 => .ref (1043) | 9 => .ref (1044) | 10 => .ref (1120) | _ => .null) (setI_in (by decide)) (by decide) rfl ?_
  refine sw_iconst (x := 0) O (xx_dt dd_X2_init 52 rfl) (by decide) ?_
  refine sw_iconst (x := 0) O (xx_dt dd_X2_init 53 rfl) (by decide) ?_
  refine sw_iastore (h2 := setI [(1003, 1), (1120, 5), (1044, 1), (1043, 1), (1050, 65), (1042, 1), (1041, 1), (1040, 1), (1030, 7), (1021, 7), (1020, 1)] zM2 h) (N := 64) (f := fun k => .int (zM1 1042 k)) O (xx_dt dd_X2_init 54 rfl) (setI_in (by decide)) (by unfold vp_in; decide) (by omega) ?_ ?_
  · rw [setI_up (x := fun j => if j = 0 then 0 else -1) (by decide) (c := (100, 64, updV (fun k => .int (zM1 1042 k)) (Int32.toNatClampNeg 0) (.int 0))) ?_]
    · rfl
    · show some _ = some _
      congr 3
      funext k
      show Value.int (if k = 0 then 0 else -1) = if k = 0 then Value.int 0 else Value.int (zM1 1042 k)
      by_cases e : k = 0
      · rw [if_pos e, if_pos e]
      · rw [if_neg e, if_neg e]
        rfl
  refine sw_iconst (x := 0) O (xx_dt dd_X2_init 55 rfl) (by decide) ?_
  refine sw_istore_n (ls2 := [.ref 1003, .int 0]) O (xx_dt dd_X2_init 56 rfl) (by decide) rfl ?_
  rw [show setI [(1003, 1), (1120, 5), (1044, 1), (1043, 1), (1050, 65), (1042, 1), (1041, 1), (1040, 1), (1030, 7), (1021, 7), (1020, 1)] zM2 h = setI [(1003, 1), (1120, 5), (1044, 1), (1043, 1), (1050, 65), (1042, 1), (1041, 1), (1040, 1), (1030, 7), (1021, 7), (1020, 1)] (zR1050 zM2 0) h from setI_congr (fun q hq => by unfold zR1050; rw [if_neg (by omega)])]
  refine sw_for (S := Nat) (fun i _ => i + 1) (fun i s => s = i) (hp := fun s => setI [(1003, 1), (1120, 5), (1044, 1), (1043, 1), (1050, 65), (1042, 1), (1041, 1), (1040, 1), (1030, 7), (1021, 7), (1020, 1)] (zR1050 zM2 s) h) (hd := 114) (lc := fun i s => [.ref 1003, .int (nI i)]) (N := 64) (fun i s hi hs => ⟨rfl, fun kk => ?_⟩) 64 0 0 (by omega) rfl (fun hs => ?_)
  · subst hs
    refine sw_iload_n O (xx_dt dd_X2_init 57 rfl) rfl ?_
    refine sw_bipush (x := 64) O (xx_dt dd_X2_init 58 rfl) (by decide) ?_
    refine sw_icmp_ge (tgt := 136) O (xx_dt dd_X2_init 59 rfl) (by decide) (fun q => absurd q (nI_ge (b := 64) hi (by omega))) (fun q => ?_)
    refine sw_aload_n O (xx_dt dd_X2_init 60 rfl) rfl ?_
    refine sw_get (v := .ref 1050) O (xx_dt dd_X2_init 61 rfl) cl_X2 fl_X2_32 (f := fun k => match k with | 0 => .ref (1020) | 1 => .ref (1021) | 2 => .ref (1030) | 3 => .ref (1040) | 4 => .ref (1041) | 5 => .int ((zR1050 zM2 s) 1003 5) | 6 => .ref (1042) | 7 => .ref (1050) | 8 => .ref (1043) | 9 => .ref (1044) | 10 => .ref (1120) | _ => .null) (setI_in (by decide)) (by decide) rfl ?_
    refine sw_iload_n O (xx_dt dd_X2_init 62 rfl) rfl ?_
    refine sw_aaload (t := 103) (N := 64) (f := fun k => .ref (1051 + k)) (v := .ref (1051 + s)) O (xx_dt dd_X2_init 63 rfl) (by omega) (by omega) (setI_in (by decide)) (pk_in s 64 hi) (by rw [nI_clamp (by omega)]) ?_
    refine sw_iconst (x := (-1)) O (xx_dt dd_X2_init 64 rfl) (by decide) ?_
    refine sw_callSx (as := [.ref (1051 + s), .int (-1)]) (st := []) (st2 := []) O (ct_fillG hl (a := 1051 + s) (n := 6) (x := -1) (F := fun k => .int ((zR1050 zM2 s) (1051 + s) k)) ((setI_in (by simp only [inI, List.any_cons, List.any_nil, Bool.or_false, Bool.or_eq_true, decide_eq_true_eq]; omega)).trans (lyr_1050 hi _)) (by omega) (by omega)) ce_J7_fill_53178 ml_X2_44 st_J7_fill_53178 (xx_dt dd_X2_init 65 rfl) (by decide) rfl rfl (Nat.le_of_ble_eq_true rfl) rfl ?_
    rw [setI_up (x := fun _ => -1) (by simp only [inI, List.any_cons, List.any_nil, Bool.or_false, Bool.or_eq_true, decide_eq_true_eq]; omega) (lyr_1050 hi _), zR1050_s]
    refine sw_iinc (y := nI (s + 1)) (ls2 := [.ref 1003, .int (nI (s + 1))]) O (xx_dt dd_X2_init 66 rfl) rfl (nI_1 _) (by decide) rfl ?_
    refine sw_goto (tgt := 114) O (xx_dt dd_X2_init 67 rfl) (by decide) ?_
    exact kk
  · generalize hz : xit (fun i _ => i + 1) 64 0 0 = z at hs ⊢
    subst hs
    refine sw_iload_n O (xx_dt dd_X2_init 57 rfl) rfl ?_
    refine sw_bipush (x := 64) O (xx_dt dd_X2_init 58 rfl) (by decide) ?_
    refine sw_icmp_ge (tgt := 136) O (xx_dt dd_X2_init 59 rfl) (by decide) (fun q => ?_) (fun q => absurd (Int32.le_refl _) q)
    refine sw_aload_n O (xx_dt dd_X2_init 68 rfl) rfl ?_
    refine sw_get (v := .ref 1043) O (xx_dt dd_X2_init 69 rfl) cl_X2 fl_X2_35 (f := fun k => match k with | 0 => .ref (1020) | 1 => .ref (1021) | 2 => .ref (1030) | 3 => .ref (1040) | 4 => .ref (1041) | 5 => .int ((zR1050 zM2 64) 1003 5) | 6 => .ref (1042) | 7 => .ref (1050) | 8 => .ref (1043) | 9 => .ref (1044) | 10 => .ref (1120) | _ => .null) (setI_in (by decide)) (by decide) rfl ?_
    refine sw_iconst (x := (-1)) O (xx_dt dd_X2_init 70 rfl) (by decide) ?_
    refine sw_callSx (as := [.ref (1043), .int (-1)]) (st := []) (st2 := []) O (ct_fillG hl (a := 1043) (n := 6) (x := -1) (F := fun k => .int ((zR1050 zM2 64) (1043) k)) (setI_in (by decide)) (by omega) (by omega)) ce_J7_fill_53178 ml_X2_44 st_J7_fill_53178 (xx_dt dd_X2_init 71 rfl) (by decide) rfl rfl (Nat.le_of_ble_eq_true rfl) rfl ?_
    rw [setI_up (x := fun _ => -1) (by decide) rfl, show (fun q => if q = 1043 then (fun _ => (-1 : Int32)) else zR1050 zM2 64 q) = zM3 from rfl]
    refine sw_aload_n O (xx_dt dd_X2_init 72 rfl) rfl ?_
    refine sw_get (v := .ref 1040) O (xx_dt dd_X2_init 73 rfl) cl_X2 fl_X2_23 (f := fun k => match k with | 0 => .ref (1020) | 1 => .ref (1021) | 2 => .ref (1030) | 3 => .ref (1040) | 4 => .ref (1041) | 5 => .int (zM3 1003 5) | 6 => .ref (1042) | 7 => .ref (1050) | 8 => .ref (1043) | 9 => .ref (1044) | 10 => .ref (1120) | _ => .null) (setI_in (by decide)) (by decide) rfl ?_
    refine sw_iconst (x := (-1)) O (xx_dt dd_X2_init 74 rfl) (by decide) ?_
    refine sw_callSx (as := [.ref (1040), .int (-1)]) (st := []) (st2 := []) O (ct_fillG hl (a := 1040) (n := 6) (x := -1) (F := fun k => .int (zM3 (1040) k)) (setI_in (by decide)) (by omega) (by omega)) ce_J7_fill_53178 ml_X2_44 st_J7_fill_53178 (xx_dt dd_X2_init 75 rfl) (by decide) rfl rfl (Nat.le_of_ble_eq_true rfl) rfl ?_
    rw [setI_up (x := fun _ => -1) (by decide) rfl, show (fun q => if q = 1040 then (fun _ => (-1 : Int32)) else zM3 q) = zM4 from rfl]
    rw [show setI [(1003, 1), (1120, 5), (1044, 1), (1043, 1), (1050, 65), (1042, 1), (1041, 1), (1040, 1), (1030, 7), (1021, 7), (1020, 1)] zM4 h = setI [(1003, 1), (1120, 5), (1044, 1), (1043, 1), (1050, 65), (1042, 1), (1041, 1), (1040, 1), (1030, 7), (1021, 7), (1020, 1)] s0C h from setI_congr (fun q hq => by
      simp only [inI, List.any_cons, List.any_nil, Bool.or_false, Bool.or_eq_true, decide_eq_true_eq] at hq
      unfold zM4 zM3 zR1050
      by_cases e1 : q = 1040
      · rw [if_pos e1]
        funext k
        unfold s0C
        rw [if_neg (by omega), if_neg (by omega), if_pos (by omega)]
      · rw [if_neg e1]
        by_cases e2 : q = 1043
        · rw [if_pos e2]
          funext k
          unfold s0C
          rw [if_neg (by omega), if_neg (by omega), if_pos (by omega)]
        · rw [if_neg e2]
          by_cases e3 : 1051 ≤ q ∧ q < 1051 + 64
          · rw [if_pos e3]
            funext k
            unfold s0C
            rw [if_neg (by omega), if_neg (by omega), if_pos (by omega)]
          · rw [if_neg e3]
            unfold zM2
            by_cases e4 : q = 1042
            · rw [if_pos e4]
              funext k
              subst e4
              rfl
            · rw [if_neg e4]
              unfold zM1
              rw [if_neg e4]
              exact (s0C_z (by omega) e4 (by omega) (by omega)).symm)]
    exact sw_ret O (xx_dt dd_X2_init 76 rfl) rfl (by rw [hQ]; exact ⟨rfl, rfl⟩)
theorem inI_app {I J : List (Nat × Nat)} {q : Nat} : inI (J ++ I) q = (inI J q || inI I q) := List.any_append
theorem setI_call {I J : List (Nat × Nat)} {σ : XS9} {h : XH} {b : Nat} {F d : XC} (hb : inI J b = true) (h0 : inI J 1000 = false) (hne : (1000 : Nat) ≠ b) : setI J σ (xx_up (xx_up (setI I σ h) 1000 F) b d) = xx_up (setI (J ++ I) σ h) 1000 F := by
  funext q
  show (if inI J q = true then lyC q (σ q) else if q = b then some d else if q = 1000 then some F else if inI I q = true then lyC q (σ q) else h q) = if q = 1000 then some F else if inI (J ++ I) q = true then lyC q (σ q) else h q
  rw [inI_app]
  by_cases e0 : q = 1000
  · subst e0
    rw [if_neg (by rw [h0]; decide), if_neg hne, if_pos rfl, if_pos rfl]
  · rw [if_neg e0, if_neg e0]
    by_cases e1 : inI J q = true
    · rw [if_pos e1, if_pos (by rw [e1]; rfl)]
    · rw [if_neg e1]
      have e2 : q ≠ b := fun e => e1 (by rw [e]; exact hb)
      have e3 : inI J q = false := by cases z : inI J q with | true => exact absurd z e1 | false => rfl
      rw [if_neg e2, e3, Bool.false_or]
theorem cl_free {I : List (Nat × Nat)} {σ : XS9} {h : XH} {b q : Nat} {F d : XC} (h1 : q ≠ b) (h2 : q ≠ 1000) (h3 : inI I q = false) (hq : h q = none) : xx_up (xx_up (setI I σ h) 1000 F) b d q = none := by
  rw [xx_up_ne h1, xx_up_ne h2]
  unfold setI
  rw [h3]
  exact hq
def ivC : List (Nat × Nat) := [(1000, 1), (1006, 1), (1153, 1), (1152, 1), (1151, 1), (1150, 1), (1005, 1), (1140, 6), (1004, 1), (1130, 4), (1003, 1), (1120, 5), (1044, 1), (1043, 1), (1050, 65), (1042, 1), (1041, 1), (1040, 1), (1030, 7), (1021, 7), (1020, 1), (3000, 1), (3008, 1), (3007, 1), (3300, 61), (3200, 61), (3100, 61), (3006, 1), (3005, 1), (3004, 1), (3003, 1), (3002, 1), (3001, 1), (2000, 1), (2008, 1), (2007, 1), (2300, 61), (2200, 61), (2100, 61), (2006, 1), (2005, 1), (2004, 1), (2003, 1), (2002, 1), (2001, 1), (1001, 1), (1017, 1), (1016, 1), (1015, 1), (1014, 1), (1013, 1), (1012, 1), (1011, 1), (1010, 1)]
theorem ivC_out {q : Nat} (h1 : 1000 ≤ q) (h2 : q < 4000) (hq : inI ivC q = false) (s : Nat → Int32) : lyC q s = none := by
  simp only [ivC, inI, List.any_cons, List.any_nil, Bool.or_false, Bool.or_eq_false_iff, decide_eq_false_iff_not] at hq
  by_cases a : 2000 ≤ q
  · unfold lyC lyK
    (repeat' split) <;> first | rfl | (exfalso; omega) | (exfalso; revert hq; decide)
  · unfold lyC
    rw [if_neg (by omega), if_neg a, if_neg (by omega), if_neg (by omega), if_neg (by omega), if_neg (by omega), if_neg (by omega), if_neg (by omega)]
    split <;> first | rfl | (exfalso; omega)
theorem ivC_all {σ : XS9} {h : XH} (hf : ∀ q, 1000 ≤ q → q < 4000 → q ≠ 1000 → h q = none) : setI ivC σ h = setC σ h := by
  funext q
  unfold setI setC
  by_cases e : 1000 ≤ q ∧ q < 4000
  · rw [if_pos e]
    cases z : inI ivC q with
    | true => exact if_pos rfl
    | false =>
      rw [if_neg (by decide), ivC_out e.1 e.2 z]
      refine hf q e.1 e.2 (fun e0 => ?_)
      subst e0
      exact absurd z (by decide)
  · rw [if_neg e]
    refine if_neg (fun z => e ?_)
    simp only [ivC, inI, List.any_cons, List.any_nil, Bool.or_false, Bool.or_eq_true, decide_eq_true_eq] at z
    omega
theorem ct_X7_init {l : Launch} {h : XH} (hl : l.stackTraces = false) (hf : ∀ q, 1000 ≤ q → q < 4000 → q ≠ 1000 → h q = none) (hb : h 1000 = some (13, 12, fun j => defaultValue (tyX7 j))) : XEx l m_X7_init 2 501 3605 [.ref 1000] h none (setC s0C h) := by
  refine XMet.of hl rfl rfl (Nat.le_of_ble_eq_true rfl) (fun Y O hh hQ => ?_)
  rw [show h = xx_up (setI [] s0C h) 1000 (13, 12, fun j => defaultValue (tyX7 j)) from (xx_up_self hb).symm]
  show SW Y 501 3605 _ 0 [.ref 1000] []
  refine sw_aload_n O (xx_dt dd_X7_init 0 rfl) rfl ?_
  refine sw_objInit O oi_X7_3 (xx_dt dd_X7_init 1 rfl) (by omega) (Nat.le_of_ble_eq_true rfl) ?_
  refine sw_aload_n O (xx_dt dd_X7_init 2 rfl) rfl ?_
  refine sw_new (k := 500) (n := 3593) (r := 1001) O (xx_dt dd_X7_init 3 rfl) cl_X6 nw_X7_9 (ob_free (by decide) (by decide) (hf 1001 (by omega) (by omega) (by omega))) (by omega) ?_
  rw [xx_blk_up]
  refine sw_dup O (xx_dt dd_X7_init 4 rfl) rfl ?_
  refine sw_callIx (k := 492) (n := 3549) (k' := 8) (n' := 44) (as := []) (st := [.ref 1001, .ref 1000]) (st2 := [.ref 1001, .ref 1000]) O (ct_X6_init hl (fun q h1 h2 h3 => cl_free h3 (by omega) (by rfl) (hf q (by omega) (by omega) (by omega))) (xx_up_eq _ _ _)) ce_X6_init ml_X7_11 ii_X6_init (xx_dt dd_X7_init 5 rfl) (by decide) rfl rfl (Nat.le_of_ble_eq_true rfl) rfl ?_
  rw [setI_call (by decide) (by decide) (by decide)]
  rw [show [(1001, 1), (1017, 1), (1016, 1), (1015, 1), (1014, 1), (1013, 1), (1012, 1), (1011, 1), (1010, 1)] ++ [] = [(1001, 1), (1017, 1), (1016, 1), (1015, 1), (1014, 1), (1013, 1), (1012, 1), (1011, 1), (1010, 1)] from rfl]
  refine sw_putF (h2 := xx_up (setI [(1001, 1), (1017, 1), (1016, 1), (1015, 1), (1014, 1), (1013, 1), (1012, 1), (1011, 1), (1010, 1)] s0C h) 1000 (13, 12, updV (fun j => defaultValue (tyX7 j)) 0 (.ref 1001))) O (xx_dt dd_X7_init 6 rfl) cl_X7 fz_X7_12 (xx_up_eq _ _ _) (by decide) (by omega) rfl rfl (fun _ => ⟨rfl, rfl⟩) xx_up_up ?_
  refine sw_aload_n O (xx_dt dd_X7_init 7 rfl) rfl ?_
  refine sw_new (k := 491) (n := 3536) (r := 2000) O (xx_dt dd_X7_init 8 rfl) cl_X1 nw_X7_16 (ob_free (by decide) (by decide) (hf 2000 (by omega) (by omega) (by omega))) (by omega) ?_
  rw [xx_blk_up]
  refine sw_dup O (xx_dt dd_X7_init 9 rfl) rfl ?_
  refine sw_callIx (k := 300) (n := 2181) (k' := 191) (n' := 1355) (as := []) (st := [.ref 2000, .ref 1000]) (st2 := [.ref 2000, .ref 1000]) O (ct_X1_init_2000 hl (fun q h1 h2 h3 => cl_free h3 (by omega) (by simp only [inI, List.any_cons, List.any_nil, Bool.or_false, Bool.or_eq_false_iff, decide_eq_false_iff_not]; omega) (hf q (by omega) (by omega) (by omega))) (xx_up_eq _ _ _)) ce_X1_init ml_X7_18 ii_X1_init (xx_dt dd_X7_init 10 rfl) (by decide) rfl rfl (Nat.le_of_ble_eq_true rfl) rfl ?_
  rw [setI_call (by decide) (by decide) (by decide)]
  rw [show [(2000, 1), (2008, 1), (2007, 1), (2300, 61), (2200, 61), (2100, 61), (2006, 1), (2005, 1), (2004, 1), (2003, 1), (2002, 1), (2001, 1)] ++ [(1001, 1), (1017, 1), (1016, 1), (1015, 1), (1014, 1), (1013, 1), (1012, 1), (1011, 1), (1010, 1)] = [(2000, 1), (2008, 1), (2007, 1), (2300, 61), (2200, 61), (2100, 61), (2006, 1), (2005, 1), (2004, 1), (2003, 1), (2002, 1), (2001, 1), (1001, 1), (1017, 1), (1016, 1), (1015, 1), (1014, 1), (1013, 1), (1012, 1), (1011, 1), (1010, 1)] from rfl]
  refine sw_putF (h2 := xx_up (setI [(2000, 1), (2008, 1), (2007, 1), (2300, 61), (2200, 61), (2100, 61), (2006, 1), (2005, 1), (2004, 1), (2003, 1), (2002, 1), (2001, 1), (1001, 1), (1017, 1), (1016, 1), (1015, 1), (1014, 1), (1013, 1), (1012, 1), (1011, 1), (1010, 1)] s0C h) 1000 (13, 12, updV (updV (fun j => defaultValue (tyX7 j)) 0 (.ref 1001)) 1 (.ref 2000))) O (xx_dt dd_X7_init 11 rfl) cl_X7 fz_X7_19 (xx_up_eq _ _ _) (by decide) (by omega) rfl rfl (fun _ => ⟨rfl, rfl⟩) xx_up_up ?_
  refine sw_aload_n O (xx_dt dd_X7_init 12 rfl) rfl ?_
  refine sw_new (k := 299) (n := 2168) (r := 3000) O (xx_dt dd_X7_init 13 rfl) cl_X1 nw_X7_16 (ob_free (by decide) (by decide) (hf 3000 (by omega) (by omega) (by omega))) (by omega) ?_
  rw [xx_blk_up]
  refine sw_dup O (xx_dt dd_X7_init 14 rfl) rfl ?_
  refine sw_callIx (k := 108) (n := 813) (k' := 191) (n' := 1355) (as := []) (st := [.ref 3000, .ref 1000]) (st2 := [.ref 3000, .ref 1000]) O (ct_X1_init_3000 hl (fun q h1 h2 h3 => cl_free h3 (by omega) (by simp only [inI, List.any_cons, List.any_nil, Bool.or_false, Bool.or_eq_false_iff, decide_eq_false_iff_not]; omega) (hf q (by omega) (by omega) (by omega))) (xx_up_eq _ _ _)) ce_X1_init ml_X7_18 ii_X1_init (xx_dt dd_X7_init 15 rfl) (by decide) rfl rfl (Nat.le_of_ble_eq_true rfl) rfl ?_
  rw [setI_call (by decide) (by decide) (by decide)]
  rw [show [(3000, 1), (3008, 1), (3007, 1), (3300, 61), (3200, 61), (3100, 61), (3006, 1), (3005, 1), (3004, 1), (3003, 1), (3002, 1), (3001, 1)] ++ [(2000, 1), (2008, 1), (2007, 1), (2300, 61), (2200, 61), (2100, 61), (2006, 1), (2005, 1), (2004, 1), (2003, 1), (2002, 1), (2001, 1), (1001, 1), (1017, 1), (1016, 1), (1015, 1), (1014, 1), (1013, 1), (1012, 1), (1011, 1), (1010, 1)] = [(3000, 1), (3008, 1), (3007, 1), (3300, 61), (3200, 61), (3100, 61), (3006, 1), (3005, 1), (3004, 1), (3003, 1), (3002, 1), (3001, 1), (2000, 1), (2008, 1), (2007, 1), (2300, 61), (2200, 61), (2100, 61), (2006, 1), (2005, 1), (2004, 1), (2003, 1), (2002, 1), (2001, 1), (1001, 1), (1017, 1), (1016, 1), (1015, 1), (1014, 1), (1013, 1), (1012, 1), (1011, 1), (1010, 1)] from rfl]
  refine sw_putF (h2 := xx_up (setI [(3000, 1), (3008, 1), (3007, 1), (3300, 61), (3200, 61), (3100, 61), (3006, 1), (3005, 1), (3004, 1), (3003, 1), (3002, 1), (3001, 1), (2000, 1), (2008, 1), (2007, 1), (2300, 61), (2200, 61), (2100, 61), (2006, 1), (2005, 1), (2004, 1), (2003, 1), (2002, 1), (2001, 1), (1001, 1), (1017, 1), (1016, 1), (1015, 1), (1014, 1), (1013, 1), (1012, 1), (1011, 1), (1010, 1)] s0C h) 1000 (13, 12, updV (updV (updV (fun j => defaultValue (tyX7 j)) 0 (.ref 1001)) 1 (.ref 2000)) 2 (.ref 3000))) O (xx_dt dd_X7_init 16 rfl) cl_X7 fz_X7_23 (xx_up_eq _ _ _) (by decide) (by omega) rfl rfl (fun _ => ⟨rfl, rfl⟩) xx_up_up ?_
  refine sw_aload_n O (xx_dt dd_X7_init 17 rfl) rfl ?_
  refine sw_new (k := 107) (n := 802) (r := 1003) O (xx_dt dd_X7_init 18 rfl) cl_X2 nw_X7_26 (ob_free (by decide) (by decide) (hf 1003 (by omega) (by omega) (by omega))) (by omega) ?_
  rw [xx_blk_up]
  refine sw_dup O (xx_dt dd_X7_init 19 rfl) rfl ?_
  refine sw_callIx (k := 17) (n := 95) (k' := 90) (n' := 707) (as := []) (st := [.ref 1003, .ref 1000]) (st2 := [.ref 1003, .ref 1000]) O (ct_X2_init hl (fun q h1 h2 h3 => cl_free h3 (by omega) (by simp only [inI, List.any_cons, List.any_nil, Bool.or_false, Bool.or_eq_false_iff, decide_eq_false_iff_not]; omega) (hf q (by omega) (by omega) (by omega))) (xx_up_eq _ _ _)) ce_X2_init ml_X7_28 ii_X2_init (xx_dt dd_X7_init 20 rfl) (by decide) rfl rfl (Nat.le_of_ble_eq_true rfl) rfl ?_
  rw [setI_call (by decide) (by decide) (by decide)]
  rw [show [(1003, 1), (1120, 5), (1044, 1), (1043, 1), (1050, 65), (1042, 1), (1041, 1), (1040, 1), (1030, 7), (1021, 7), (1020, 1)] ++ [(3000, 1), (3008, 1), (3007, 1), (3300, 61), (3200, 61), (3100, 61), (3006, 1), (3005, 1), (3004, 1), (3003, 1), (3002, 1), (3001, 1), (2000, 1), (2008, 1), (2007, 1), (2300, 61), (2200, 61), (2100, 61), (2006, 1), (2005, 1), (2004, 1), (2003, 1), (2002, 1), (2001, 1), (1001, 1), (1017, 1), (1016, 1), (1015, 1), (1014, 1), (1013, 1), (1012, 1), (1011, 1), (1010, 1)] = [(1003, 1), (1120, 5), (1044, 1), (1043, 1), (1050, 65), (1042, 1), (1041, 1), (1040, 1), (1030, 7), (1021, 7), (1020, 1), (3000, 1), (3008, 1), (3007, 1), (3300, 61), (3200, 61), (3100, 61), (3006, 1), (3005, 1), (3004, 1), (3003, 1), (3002, 1), (3001, 1), (2000, 1), (2008, 1), (2007, 1), (2300, 61), (2200, 61), (2100, 61), (2006, 1), (2005, 1), (2004, 1), (2003, 1), (2002, 1), (2001, 1), (1001, 1), (1017, 1), (1016, 1), (1015, 1), (1014, 1), (1013, 1), (1012, 1), (1011, 1), (1010, 1)] from rfl]
  refine sw_putF (h2 := xx_up (setI [(1003, 1), (1120, 5), (1044, 1), (1043, 1), (1050, 65), (1042, 1), (1041, 1), (1040, 1), (1030, 7), (1021, 7), (1020, 1), (3000, 1), (3008, 1), (3007, 1), (3300, 61), (3200, 61), (3100, 61), (3006, 1), (3005, 1), (3004, 1), (3003, 1), (3002, 1), (3001, 1), (2000, 1), (2008, 1), (2007, 1), (2300, 61), (2200, 61), (2100, 61), (2006, 1), (2005, 1), (2004, 1), (2003, 1), (2002, 1), (2001, 1), (1001, 1), (1017, 1), (1016, 1), (1015, 1), (1014, 1), (1013, 1), (1012, 1), (1011, 1), (1010, 1)] s0C h) 1000 (13, 12, updV (updV (updV (updV (fun j => defaultValue (tyX7 j)) 0 (.ref 1001)) 1 (.ref 2000)) 2 (.ref 3000)) 3 (.ref 1003))) O (xx_dt dd_X7_init 21 rfl) cl_X7 fz_X7_29 (xx_up_eq _ _ _) (by decide) (by omega) rfl rfl (fun _ => ⟨rfl, rfl⟩) xx_up_up ?_
  refine sw_aload_n O (xx_dt dd_X7_init 22 rfl) rfl ?_
  refine sw_new (k := 16) (n := 94) (r := 1004) O (xx_dt dd_X7_init 23 rfl) cl_X4 nw_X7_33 (ob_free (by decide) (by decide) (hf 1004 (by omega) (by omega) (by omega))) (by omega) ?_
  rw [xx_blk_up]
  refine sw_dup O (xx_dt dd_X7_init 24 rfl) rfl ?_
  refine sw_callIx (k := 12) (n := 73) (k' := 4) (n' := 21) (as := []) (st := [.ref 1004, .ref 1000]) (st2 := [.ref 1004, .ref 1000]) O (ct_X4_init hl (fun q h1 h2 h3 => cl_free h3 (by omega) (by simp only [inI, List.any_cons, List.any_nil, Bool.or_false, Bool.or_eq_false_iff, decide_eq_false_iff_not]; omega) (hf q (by omega) (by omega) (by omega))) (xx_up_eq _ _ _)) ce_X4_init ml_X7_35 ii_X4_init (xx_dt dd_X7_init 25 rfl) (by decide) rfl rfl (Nat.le_of_ble_eq_true rfl) rfl ?_
  rw [setI_call (by decide) (by decide) (by decide)]
  rw [show [(1004, 1), (1130, 4)] ++ [(1003, 1), (1120, 5), (1044, 1), (1043, 1), (1050, 65), (1042, 1), (1041, 1), (1040, 1), (1030, 7), (1021, 7), (1020, 1), (3000, 1), (3008, 1), (3007, 1), (3300, 61), (3200, 61), (3100, 61), (3006, 1), (3005, 1), (3004, 1), (3003, 1), (3002, 1), (3001, 1), (2000, 1), (2008, 1), (2007, 1), (2300, 61), (2200, 61), (2100, 61), (2006, 1), (2005, 1), (2004, 1), (2003, 1), (2002, 1), (2001, 1), (1001, 1), (1017, 1), (1016, 1), (1015, 1), (1014, 1), (1013, 1), (1012, 1), (1011, 1), (1010, 1)] = [(1004, 1), (1130, 4), (1003, 1), (1120, 5), (1044, 1), (1043, 1), (1050, 65), (1042, 1), (1041, 1), (1040, 1), (1030, 7), (1021, 7), (1020, 1), (3000, 1), (3008, 1), (3007, 1), (3300, 61), (3200, 61), (3100, 61), (3006, 1), (3005, 1), (3004, 1), (3003, 1), (3002, 1), (3001, 1), (2000, 1), (2008, 1), (2007, 1), (2300, 61), (2200, 61), (2100, 61), (2006, 1), (2005, 1), (2004, 1), (2003, 1), (2002, 1), (2001, 1), (1001, 1), (1017, 1), (1016, 1), (1015, 1), (1014, 1), (1013, 1), (1012, 1), (1011, 1), (1010, 1)] from rfl]
  refine sw_putF (h2 := xx_up (setI [(1004, 1), (1130, 4), (1003, 1), (1120, 5), (1044, 1), (1043, 1), (1050, 65), (1042, 1), (1041, 1), (1040, 1), (1030, 7), (1021, 7), (1020, 1), (3000, 1), (3008, 1), (3007, 1), (3300, 61), (3200, 61), (3100, 61), (3006, 1), (3005, 1), (3004, 1), (3003, 1), (3002, 1), (3001, 1), (2000, 1), (2008, 1), (2007, 1), (2300, 61), (2200, 61), (2100, 61), (2006, 1), (2005, 1), (2004, 1), (2003, 1), (2002, 1), (2001, 1), (1001, 1), (1017, 1), (1016, 1), (1015, 1), (1014, 1), (1013, 1), (1012, 1), (1011, 1), (1010, 1)] s0C h) 1000 (13, 12, updV (updV (updV (updV (updV (fun j => defaultValue (tyX7 j)) 0 (.ref 1001)) 1 (.ref 2000)) 2 (.ref 3000)) 3 (.ref 1003)) 4 (.ref 1004))) O (xx_dt dd_X7_init 26 rfl) cl_X7 fz_X7_36 (xx_up_eq _ _ _) (by decide) (by omega) rfl rfl (fun _ => ⟨rfl, rfl⟩) xx_up_up ?_
  refine sw_aload_n O (xx_dt dd_X7_init 27 rfl) rfl ?_
  refine sw_new (k := 11) (n := 71) (r := 1005) O (xx_dt dd_X7_init 28 rfl) cl_X3 nw_X7_40 (ob_free (by decide) (by decide) (hf 1005 (by omega) (by omega) (by omega))) (by omega) ?_
  rw [xx_blk_up]
  refine sw_dup O (xx_dt dd_X7_init 29 rfl) rfl ?_
  refine sw_callIx (k := 5) (n := 41) (k' := 6) (n' := 30) (as := []) (st := [.ref 1005, .ref 1000]) (st2 := [.ref 1005, .ref 1000]) O (ct_X3_init hl (fun q h1 h2 h3 => cl_free h3 (by omega) (by simp only [inI, List.any_cons, List.any_nil, Bool.or_false, Bool.or_eq_false_iff, decide_eq_false_iff_not]; omega) (hf q (by omega) (by omega) (by omega))) (xx_up_eq _ _ _)) ce_X3_init ml_X7_42 ii_X3_init (xx_dt dd_X7_init 30 rfl) (by decide) rfl rfl (Nat.le_of_ble_eq_true rfl) rfl ?_
  rw [setI_call (by decide) (by decide) (by decide)]
  rw [show [(1005, 1), (1140, 6)] ++ [(1004, 1), (1130, 4), (1003, 1), (1120, 5), (1044, 1), (1043, 1), (1050, 65), (1042, 1), (1041, 1), (1040, 1), (1030, 7), (1021, 7), (1020, 1), (3000, 1), (3008, 1), (3007, 1), (3300, 61), (3200, 61), (3100, 61), (3006, 1), (3005, 1), (3004, 1), (3003, 1), (3002, 1), (3001, 1), (2000, 1), (2008, 1), (2007, 1), (2300, 61), (2200, 61), (2100, 61), (2006, 1), (2005, 1), (2004, 1), (2003, 1), (2002, 1), (2001, 1), (1001, 1), (1017, 1), (1016, 1), (1015, 1), (1014, 1), (1013, 1), (1012, 1), (1011, 1), (1010, 1)] = [(1005, 1), (1140, 6), (1004, 1), (1130, 4), (1003, 1), (1120, 5), (1044, 1), (1043, 1), (1050, 65), (1042, 1), (1041, 1), (1040, 1), (1030, 7), (1021, 7), (1020, 1), (3000, 1), (3008, 1), (3007, 1), (3300, 61), (3200, 61), (3100, 61), (3006, 1), (3005, 1), (3004, 1), (3003, 1), (3002, 1), (3001, 1), (2000, 1), (2008, 1), (2007, 1), (2300, 61), (2200, 61), (2100, 61), (2006, 1), (2005, 1), (2004, 1), (2003, 1), (2002, 1), (2001, 1), (1001, 1), (1017, 1), (1016, 1), (1015, 1), (1014, 1), (1013, 1), (1012, 1), (1011, 1), (1010, 1)] from rfl]
  refine sw_putF (h2 := xx_up (setI [(1005, 1), (1140, 6), (1004, 1), (1130, 4), (1003, 1), (1120, 5), (1044, 1), (1043, 1), (1050, 65), (1042, 1), (1041, 1), (1040, 1), (1030, 7), (1021, 7), (1020, 1), (3000, 1), (3008, 1), (3007, 1), (3300, 61), (3200, 61), (3100, 61), (3006, 1), (3005, 1), (3004, 1), (3003, 1), (3002, 1), (3001, 1), (2000, 1), (2008, 1), (2007, 1), (2300, 61), (2200, 61), (2100, 61), (2006, 1), (2005, 1), (2004, 1), (2003, 1), (2002, 1), (2001, 1), (1001, 1), (1017, 1), (1016, 1), (1015, 1), (1014, 1), (1013, 1), (1012, 1), (1011, 1), (1010, 1)] s0C h) 1000 (13, 12, updV (updV (updV (updV (updV (updV (fun j => defaultValue (tyX7 j)) 0 (.ref 1001)) 1 (.ref 2000)) 2 (.ref 3000)) 3 (.ref 1003)) 4 (.ref 1004)) 5 (.ref 1005))) O (xx_dt dd_X7_init 31 rfl) cl_X7 fz_X7_43 (xx_up_eq _ _ _) (by decide) (by omega) rfl rfl (fun _ => ⟨rfl, rfl⟩) xx_up_up ?_
  refine sw_aload_n O (xx_dt dd_X7_init 32 rfl) rfl ?_
  refine sw_new (k := 4) (n := 36) (r := 1006) O (xx_dt dd_X7_init 33 rfl) cl_X5 nw_X7_47 (ob_free (by decide) (by decide) (hf 1006 (by omega) (by omega) (by omega))) (by omega) ?_
  rw [xx_blk_up]
  refine sw_dup O (xx_dt dd_X7_init 34 rfl) rfl ?_
  refine sw_callIx (k := 0) (n := 0) (k' := 4) (n' := 36) (as := []) (st := [.ref 1006, .ref 1000]) (st2 := [.ref 1006, .ref 1000]) O (ct_X5_init hl (fun q h1 h2 h3 => cl_free h3 (by omega) (by simp only [inI, List.any_cons, List.any_nil, Bool.or_false, Bool.or_eq_false_iff, decide_eq_false_iff_not]; omega) (hf q (by omega) (by omega) (by omega))) (xx_up_eq _ _ _)) ce_X5_init ml_X7_49 ii_X5_init (xx_dt dd_X7_init 35 rfl) (by decide) rfl rfl (Nat.le_of_ble_eq_true rfl) rfl ?_
  rw [setI_call (by decide) (by decide) (by decide)]
  rw [show [(1006, 1), (1153, 1), (1152, 1), (1151, 1), (1150, 1)] ++ [(1005, 1), (1140, 6), (1004, 1), (1130, 4), (1003, 1), (1120, 5), (1044, 1), (1043, 1), (1050, 65), (1042, 1), (1041, 1), (1040, 1), (1030, 7), (1021, 7), (1020, 1), (3000, 1), (3008, 1), (3007, 1), (3300, 61), (3200, 61), (3100, 61), (3006, 1), (3005, 1), (3004, 1), (3003, 1), (3002, 1), (3001, 1), (2000, 1), (2008, 1), (2007, 1), (2300, 61), (2200, 61), (2100, 61), (2006, 1), (2005, 1), (2004, 1), (2003, 1), (2002, 1), (2001, 1), (1001, 1), (1017, 1), (1016, 1), (1015, 1), (1014, 1), (1013, 1), (1012, 1), (1011, 1), (1010, 1)] = [(1006, 1), (1153, 1), (1152, 1), (1151, 1), (1150, 1), (1005, 1), (1140, 6), (1004, 1), (1130, 4), (1003, 1), (1120, 5), (1044, 1), (1043, 1), (1050, 65), (1042, 1), (1041, 1), (1040, 1), (1030, 7), (1021, 7), (1020, 1), (3000, 1), (3008, 1), (3007, 1), (3300, 61), (3200, 61), (3100, 61), (3006, 1), (3005, 1), (3004, 1), (3003, 1), (3002, 1), (3001, 1), (2000, 1), (2008, 1), (2007, 1), (2300, 61), (2200, 61), (2100, 61), (2006, 1), (2005, 1), (2004, 1), (2003, 1), (2002, 1), (2001, 1), (1001, 1), (1017, 1), (1016, 1), (1015, 1), (1014, 1), (1013, 1), (1012, 1), (1011, 1), (1010, 1)] from rfl]
  refine sw_putF (h2 := xx_up (setI [(1006, 1), (1153, 1), (1152, 1), (1151, 1), (1150, 1), (1005, 1), (1140, 6), (1004, 1), (1130, 4), (1003, 1), (1120, 5), (1044, 1), (1043, 1), (1050, 65), (1042, 1), (1041, 1), (1040, 1), (1030, 7), (1021, 7), (1020, 1), (3000, 1), (3008, 1), (3007, 1), (3300, 61), (3200, 61), (3100, 61), (3006, 1), (3005, 1), (3004, 1), (3003, 1), (3002, 1), (3001, 1), (2000, 1), (2008, 1), (2007, 1), (2300, 61), (2200, 61), (2100, 61), (2006, 1), (2005, 1), (2004, 1), (2003, 1), (2002, 1), (2001, 1), (1001, 1), (1017, 1), (1016, 1), (1015, 1), (1014, 1), (1013, 1), (1012, 1), (1011, 1), (1010, 1)] s0C h) 1000 (13, 12, updV (updV (updV (updV (updV (updV (updV (fun j => defaultValue (tyX7 j)) 0 (.ref 1001)) 1 (.ref 2000)) 2 (.ref 3000)) 3 (.ref 1003)) 4 (.ref 1004)) 5 (.ref 1005)) 6 (.ref 1006))) O (xx_dt dd_X7_init 36 rfl) cl_X7 fz_X7_50 (xx_up_eq _ _ _) (by decide) (by omega) rfl rfl (fun _ => ⟨rfl, rfl⟩) xx_up_up ?_
  refine sw_aload_n O (xx_dt dd_X7_init 37 rfl) rfl ?_
  refine sw_iconst (x := 0) O (xx_dt dd_X7_init 38 rfl) (by decide) ?_
  refine sw_put (h2 := xx_up (setI [(1006, 1), (1153, 1), (1152, 1), (1151, 1), (1150, 1), (1005, 1), (1140, 6), (1004, 1), (1130, 4), (1003, 1), (1120, 5), (1044, 1), (1043, 1), (1050, 65), (1042, 1), (1041, 1), (1040, 1), (1030, 7), (1021, 7), (1020, 1), (3000, 1), (3008, 1), (3007, 1), (3300, 61), (3200, 61), (3100, 61), (3006, 1), (3005, 1), (3004, 1), (3003, 1), (3002, 1), (3001, 1), (2000, 1), (2008, 1), (2007, 1), (2300, 61), (2200, 61), (2100, 61), (2006, 1), (2005, 1), (2004, 1), (2003, 1), (2002, 1), (2001, 1), (1001, 1), (1017, 1), (1016, 1), (1015, 1), (1014, 1), (1013, 1), (1012, 1), (1011, 1), (1010, 1)] s0C h) 1000 (13, 12, updV (updV (updV (updV (updV (updV (updV (updV (fun j => defaultValue (tyX7 j)) 0 (.ref 1001)) 1 (.ref 2000)) 2 (.ref 3000)) 3 (.ref 1003)) 4 (.ref 1004)) 5 (.ref 1005)) 6 (.ref 1006)) 7 (.int 0))) O (xx_dt dd_X7_init 39 rfl) cl_X7 fl_X7_54 (xx_up_eq _ _ _) (by decide) (by omega) rfl (fun _ => ⟨rfl, rfl⟩) xx_up_up ?_
  refine sw_aload_n O (xx_dt dd_X7_init 40 rfl) rfl ?_
  refine sw_bipush (x := 10) O (xx_dt dd_X7_init 41 rfl) (by decide) ?_
  refine sw_put (h2 := xx_up (setI [(1006, 1), (1153, 1), (1152, 1), (1151, 1), (1150, 1), (1005, 1), (1140, 6), (1004, 1), (1130, 4), (1003, 1), (1120, 5), (1044, 1), (1043, 1), (1050, 65), (1042, 1), (1041, 1), (1040, 1), (1030, 7), (1021, 7), (1020, 1), (3000, 1), (3008, 1), (3007, 1), (3300, 61), (3200, 61), (3100, 61), (3006, 1), (3005, 1), (3004, 1), (3003, 1), (3002, 1), (3001, 1), (2000, 1), (2008, 1), (2007, 1), (2300, 61), (2200, 61), (2100, 61), (2006, 1), (2005, 1), (2004, 1), (2003, 1), (2002, 1), (2001, 1), (1001, 1), (1017, 1), (1016, 1), (1015, 1), (1014, 1), (1013, 1), (1012, 1), (1011, 1), (1010, 1)] s0C h) 1000 (13, 12, updV (updV (updV (updV (updV (updV (updV (updV (updV (fun j => defaultValue (tyX7 j)) 0 (.ref 1001)) 1 (.ref 2000)) 2 (.ref 3000)) 3 (.ref 1003)) 4 (.ref 1004)) 5 (.ref 1005)) 6 (.ref 1006)) 7 (.int 0)) 8 (.int 10))) O (xx_dt dd_X7_init 42 rfl) cl_X7 fl_X7_58 (xx_up_eq _ _ _) (by decide) (by omega) rfl (fun _ => ⟨rfl, rfl⟩) xx_up_up ?_
  refine sw_alter (r := 1000) (t := 13) (N := 12) (F2 := fun k => match k with | 0 => .ref (1001) | 1 => .ref (2000) | 2 => .ref (3000) | 3 => .ref (1003) | 4 => .ref (1004) | 5 => .ref (1005) | 6 => .ref (1006) | 7 => .int (s0C 1000 7) | 8 => .int (s0C 1000 8) | 9 => .int (s0C 1000 9) | 10 => .int (s0C 1000 10) | 11 => .int (s0C 1000 11) | _ => .null) (xx_up_eq _ _ _) (fun j hj => ?_) ?_
  · match j, hj with
    | 0, _ => rfl
    | 1, _ => rfl
    | 2, _ => rfl
    | 3, _ => rfl
    | 4, _ => rfl
    | 5, _ => rfl
    | 6, _ => rfl
    | 7, _ => rfl
    | 8, _ => rfl
    | 9, _ => rfl
    | 10, _ => rfl
    | 11, _ => rfl
  rw [xx_up_up, ob_done (σ' := s0C) rfl (fun _ _ _ => rfl)]
  rw [show [(1000, 1), (1006, 1), (1153, 1), (1152, 1), (1151, 1), (1150, 1), (1005, 1), (1140, 6), (1004, 1), (1130, 4), (1003, 1), (1120, 5), (1044, 1), (1043, 1), (1050, 65), (1042, 1), (1041, 1), (1040, 1), (1030, 7), (1021, 7), (1020, 1), (3000, 1), (3008, 1), (3007, 1), (3300, 61), (3200, 61), (3100, 61), (3006, 1), (3005, 1), (3004, 1), (3003, 1), (3002, 1), (3001, 1), (2000, 1), (2008, 1), (2007, 1), (2300, 61), (2200, 61), (2100, 61), (2006, 1), (2005, 1), (2004, 1), (2003, 1), (2002, 1), (2001, 1), (1001, 1), (1017, 1), (1016, 1), (1015, 1), (1014, 1), (1013, 1), (1012, 1), (1011, 1), (1010, 1)] = ivC from rfl, ivC_all hf]
  exact sw_ret O (xx_dt dd_X7_init 43 rfl) rfl (by rw [hQ]; exact ⟨rfl, rfl⟩)
