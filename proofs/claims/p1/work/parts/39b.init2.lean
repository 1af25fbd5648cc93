section
/-! ===== constructors with rows of -1 ===== -/
theorem lyr_1140 {k : Nat} (hk : k < 5) (s : Nat → Int32) : lyC (1141 + k) s = some (100, 5, fun j => .int (s j)) := by
  have := lr_1140 (fun _ => s) (fun _ => none) hk
  unfold setC at this
  rw [if_pos (by omega)] at this
  exact this
def zR1140 (z : XS9) (n : Nat) : XS9 := fun q => if 1141 ≤ q ∧ q < 1141 + n then (fun _ => -1) else z q
theorem zR1140_s (z : XS9) (n : Nat) : (fun q => if q = 1141 + n then (fun _ => (-1 : Int32)) else zR1140 z n q) = zR1140 z (n + 1) := by
  funext q
  unfold zR1140
  by_cases e : q = 1141 + n
  · rw [if_pos e, if_pos (by omega)]
  · rw [if_neg e]
    by_cases e2 : 1141 ≤ q ∧ q < 1141 + n
    · rw [if_pos e2, if_pos (by omega)]
    · rw [if_neg e2, if_neg (by omega)]
theorem lyr_1050 {k : Nat} (hk : k < 64) (s : Nat → Int32) : lyC (1051 + k) s = some (100, 6, fun j => .int (s j)) := by
  have := lr_1050 (fun _ => s) (fun _ => none) hk
  unfold setC at this
  rw [if_pos (by omega)] at this
  exact this
def zR1050 (z : XS9) (n : Nat) : XS9 := fun q => if 1051 ≤ q ∧ q < 1051 + n then (fun _ => -1) else z q
theorem zR1050_s (z : XS9) (n : Nat) : (fun q => if q = 1051 + n then (fun _ => (-1 : Int32)) else zR1050 z n q) = zR1050 z (n + 1) := by
  funext q
  unfold zR1050
  by_cases e : q = 1051 + n
  · rw [if_pos e, if_pos (by omega)]
  · rw [if_neg e]
    by_cases e2 : 1051 ≤ q ∧ q < 1051 + n
    · rw [if_pos e2, if_pos (by omega)]
    · rw [if_neg e2, if_neg (by omega)]
theorem ct_X3_init {l : Launch} {h : XH} (hl : l.stackTraces = false) (hf : ∀ q, 1140 ≤ q → q < 1146 → q ≠ 1005 → h q = none) (hb : h 1005 = some (9, 2, fun j => defaultValue (tyX3 j))) : XEx l m_X3_init 1 6 30 [.ref 1005] h none (setI [(1005, 1), (1140, 6)] s0C h) := by
  refine XMet.of hl rfl rfl (Nat.le_of_ble_eq_true rfl) (fun Y O hh hQ => ?_)
  have fr_1140 : ∀ {q : Nat}, q < 6 → inI [] (1140 + q) = false := by decide
  have mb_1140 : ∀ i, i < 6 → lyC (1140 + i) (z9 (1140 + i)) = some (if i = 0 then (103, 5, fun q => .ref (1140 + 1 + q)) else (100, 5, fun _ => .int 0)) := by
    intro i hi
    cases i with
    | zero => rfl
    | succ k =>
      have h9 := lr_1140 z9 (fun _ => none) (k := k) (by omega)
      unfold setC at h9
      rw [if_pos (by omega)] at h9
      rw [show 1140 + (k + 1) = 1141 + k by omega, if_neg (by omega)]
      exact h9
  rw [show h = xx_up (setI [] z9 h) 1005 (9, 2, fun j => defaultValue (tyX3 j)) from (xx_up_self hb).symm]
  show SW Y 6 30 _ 0 [.ref 1005, xx_d] []
  refine sw_aload_n O (xx_dt dd_X3_init 0 rfl) rfl ?_
  refine sw_objInit O oi_X3_3 (xx_dt dd_X3_init 1 rfl) (by omega) (Nat.le_of_ble_eq_true rfl) ?_
  refine sw_aload_n O (xx_dt dd_X3_init 2 rfl) rfl ?_
  refine sw_iconst (x := 5) O (xx_dt dd_X3_init 3 rfl) (by decide) ?_
  refine sw_iconst (x := 5) O (xx_dt dd_X3_init 4 rfl) (by decide) ?_
  refine sw_multi (k := 0) (n := 0) (N := 5) (K := 5) (r := 1140) O (xx_dt dd_X3_init 5 rfl) mu_X3_9 (by decide) (by decide) (by decide) (by decide) (by omega) (by omega) (fun q hq => ob_free (by omega) (fr_1140 hq) (hf _ (by omega) (by omega) (by omega))) (by omega) ?_
  rw [ob_new (by omega) mb_1140]
  refine sw_putF (h2 := xx_up (setI [(1140, 6)] z9 h) 1005 (9, 2, updV (fun j => defaultValue (tyX3 j)) 0 (.ref 1140))) O (xx_dt dd_X3_init 6 rfl) cl_X3 fz_X3_11 (xx_up_eq _ _ _) (by decide) (by omega) rfl rfl (fun _ => ⟨rfl, rfl⟩) xx_up_up ?_
  refine sw_alter (r := 1005) (t := 9) (N := 2) (F2 := fun k => match k with | 0 => .ref (1140) | 1 => .int (z9 1005 1) | _ => .null) (xx_up_eq _ _ _) (fun j hj => ?_) ?_
  · match j, hj with
    | 0, _ => rfl
    | 1, _ => rfl
  rw [xx_up_up, ob_done (σ' := z9) rfl (fun _ _ _ => rfl)]
  refine sw_iconst (x := 0) O (xx_dt dd_X3_init 7 rfl) (by decide) ?_
  refine sw_istore_n (ls2 := [.ref 1005, .int 0]) O (xx_dt dd_X3_init 8 rfl) (by decide) rfl ?_
  rw [show setI [(1005, 1), (1140, 6)] z9 h = setI [(1005, 1), (1140, 6)] (zR1140 z9 0) h from setI_congr (fun q hq => by unfold zR1140; rw [if_neg (by omega)])]
  refine sw_for (S := Nat) (fun i _ => i + 1) (fun i s => s = i) (hp := fun s => setI [(1005, 1), (1140, 6)] (zR1140 z9 s) h) (hd := 16) (lc := fun i s => [.ref 1005, .int (nI i)]) (N := 5) (fun i s hi hs => ⟨rfl, fun kk => ?_⟩) 5 0 0 (by omega) rfl (fun hs => ?_)
  · subst hs
    refine sw_iload_n O (xx_dt dd_X3_init 9 rfl) rfl ?_
    refine sw_iconst (x := 5) O (xx_dt dd_X3_init 10 rfl) (by decide) ?_
    refine sw_icmp_ge (tgt := 37) O (xx_dt dd_X3_init 11 rfl) (by decide) (fun q => absurd q (nI_ge (b := 5) hi (by omega))) (fun q => ?_)
    refine sw_aload_n O (xx_dt dd_X3_init 12 rfl) rfl ?_
    refine sw_get (v := .ref 1140) O (xx_dt dd_X3_init 13 rfl) cl_X3 fl_X3_11 (f := fun k => match k with | 0 => .ref (1140) | 1 => .int ((zR1140 z9 s) 1005 1) | _ => .null) (setI_in (by decide)) (by decide) rfl ?_
    refine sw_iload_n O (xx_dt dd_X3_init 14 rfl) rfl ?_
    refine sw_aaload (t := 103) (N := 5) (f := fun k => .ref (1141 + k)) (v := .ref (1141 + s)) O (xx_dt dd_X3_init 15 rfl) (by omega) (by omega) (setI_in (by decide)) (pk_in s 5 hi) (by rw [nI_clamp (by omega)]) ?_
    refine sw_iconst (x := (-1)) O (xx_dt dd_X3_init 16 rfl) (by decide) ?_
    refine sw_callSx (as := [.ref (1141 + s), .int (-1)]) (st := []) (st2 := []) O (ct_fillG hl (a := 1141 + s) (n := 5) (x := -1) (F := fun k => .int ((zR1140 z9 s) (1141 + s) k)) ((setI_in (by simp only [inI, List.any_cons, List.any_nil, Bool.or_false, Bool.or_eq_true, decide_eq_true_eq]; omega)).trans (lyr_1140 hi _)) (by omega) (by omega)) ce_J7_fill_53178 ml_X3_16 st_J7_fill_53178 (xx_dt dd_X3_init 17 rfl) (by decide) rfl rfl (Nat.le_of_ble_eq_true rfl) rfl ?_
    rw [setI_up (x := fun _ => -1) (by simp only [inI, List.any_cons, List.any_nil, Bool.or_false, Bool.or_eq_true, decide_eq_true_eq]; omega) (lyr_1140 hi _), zR1140_s]
    refine sw_iinc (y := nI (s + 1)) (ls2 := [.ref 1005, .int (nI (s + 1))]) O (xx_dt dd_X3_init 18 rfl) rfl (nI_1 _) (by decide) rfl ?_
    refine sw_goto (tgt := 16) O (xx_dt dd_X3_init 19 rfl) (by decide) ?_
    exact kk
  · generalize hz : xit (fun i _ => i + 1) 5 0 0 = z at hs ⊢
    subst hs
    refine sw_iload_n O (xx_dt dd_X3_init 9 rfl) rfl ?_
    refine sw_iconst (x := 5) O (xx_dt dd_X3_init 10 rfl) (by decide) ?_
    refine sw_icmp_ge (tgt := 37) O (xx_dt dd_X3_init 11 rfl) (by decide) (fun q => ?_) (fun q => absurd (Int32.le_refl _) q)
    rw [show setI [(1005, 1), (1140, 6)] (zR1140 z9 5) h = setI [(1005, 1), (1140, 6)] s0C h from setI_congr (fun q hq => by
      simp only [inI, List.any_cons, List.any_nil, Bool.or_false, Bool.or_eq_true, decide_eq_true_eq] at hq
      unfold zR1140
      by_cases e : 1141 ≤ q ∧ q < 1141 + 5
      · rw [if_pos e]
        funext k
        unfold s0C
        rw [if_neg (by omega), if_neg (by omega), if_pos (by omega)]
      · rw [if_neg e]
        exact (s0C_z (by omega) (by omega) (by omega) (by omega)).symm)]
    exact sw_ret O (xx_dt dd_X3_init 20 rfl) rfl (by rw [hQ]; exact ⟨rfl, rfl⟩)
def zM1 : XS9 := fun q => if q = 1042 then (fun _ => -1) else z9 q
def zM2 : XS9 := fun q => if q = 1042 then (fun j => if j = 0 then 0 else -1) else zM1 q
def zM3 : XS9 := fun q => if q = 1043 then (fun _ => -1) else zR1050 zM2 64 q
def zM4 : XS9 := fun q => if q = 1040 then (fun _ => -1) else zM3 q
theorem ct_X2_init {l : Launch} {h : XH} (hl : l.stackTraces = false) (hf : ∀ q, 1020 ≤ q → q < 1125 → q ≠ 1003 → h q = none) (hb : h 1003 = some (8, 11, fun j => defaultValue (tyX2 j))) : XEx l m_X2_init 1 90 707 [.ref 1003] h none (setI [(1003, 1), (1120, 5), (1044, 1), (1043, 1), (1050, 65), (1042, 1), (1041, 1), (1040, 1), (1030, 7), (1021, 7), (1020, 1)] s0C h) := by
  refine XMet.of hl rfl rfl (Nat.le_of_ble_eq_true rfl) (fun Y O hh hQ => ?_)
  have fr_1021 : ∀ {q : Nat}, q < 7 → inI [(1020, 1)] (1021 + q) = false := by decide
  have mb_1021 : ∀ i, i < 7 → lyC (1021 + i) (z9 (1021 + i)) = some (if i = 0 then (103, 6, fun q => .ref (1021 + 1 + q)) else (100, 6, fun _ => .int 0)) := by
    intro i hi
    cases i with
    | zero => rfl
    | succ k =>
      have h9 := lr_1021 z9 (fun _ => none) (k := k) (by omega)
      unfold setC at h9
      rw [if_pos (by omega)] at h9
      rw [show 1021 + (k + 1) = 1022 + k by omega, if_neg (by omega)]
      exact h9
  have fr_1030 : ∀ {q : Nat}, q < 7 → inI [(1021, 7), (1020, 1)] (1030 + q) = false := by decide
  have mb_1030 : ∀ i, i < 7 → lyC (1030 + i) (z9 (1030 + i)) = some (if i = 0 then (103, 6, fun q => .ref (1030 + 1 + q)) else (100, 6, fun _ => .int 0)) := by
    intro i hi
    cases i with
    | zero => rfl
    | succ k =>
      have h9 := lr_1030 z9 (fun _ => none) (k := k) (by omega)
      unfold setC at h9
      rw [if_pos (by omega)] at h9
      rw [show 1030 + (k + 1) = 1031 + k by omega, if_neg (by omega)]
      exact h9
  have fr_1050 : ∀ {q : Nat}, q < 65 → inI [(1042, 1), (1041, 1), (1040, 1), (1030, 7), (1021, 7), (1020, 1)] (1050 + q) = false := by decide
  have mb_1050 : ∀ i, i < 65 → lyC (1050 + i) (z9 (1050 + i)) = some (if i = 0 then (103, 64, fun q => .ref (1050 + 1 + q)) else (100, 6, fun _ => .int 0)) := by
    intro i hi
    cases i with
    | zero => rfl
    | succ k =>
      have h9 := lr_1050 z9 (fun _ => none) (k := k) (by omega)
      unfold setC at h9
      rw [if_pos (by omega)] at h9
      rw [show 1050 + (k + 1) = 1051 + k by omega, if_neg (by omega)]
      exact h9
  have fr_1120 : ∀ {q : Nat}, q < 5 → inI [(1044, 1), (1043, 1), (1050, 65), (1042, 1), (1041, 1), (1040, 1), (1030, 7), (1021, 7), (1020, 1)] (1120 + q) = false := by decide
  have mb_1120 : ∀ i, i < 5 → lyC (1120 + i) (z9 (1120 + i)) = some (if i = 0 then (103, 4, fun q => .ref (1120 + 1 + q)) else (100, 5, fun _ => .int 0)) := by
    intro i hi
    cases i with
    | zero => rfl
    | succ k =>
      have h9 := lr_1120 z9 (fun _ => none) (k := k) (by omega)
      unfold setC at h9
      rw [if_pos (by omega)] at h9
      rw [show 1120 + (k + 1) = 1121 + k by omega, if_neg (by omega)]
      exact h9
  rw [show h = xx_up (setI [] z9 h) 1003 (8, 11, fun j => defaultValue (tyX2 j)) from (xx_up_self hb).symm]
  show SW Y 90 707 _ 0 [.ref 1003, xx_d] []
  refine sw_aload_n O (xx_dt dd_X2_init 0 rfl) rfl ?_
  refine sw_objInit O oi_X2_3 (xx_dt dd_X2_init 1 rfl) (by omega) (Nat.le_of_ble_eq_true rfl) ?_
  refine sw_aload_n O (xx_dt dd_X2_init 2 rfl) rfl ?_
  refine sw_bipush (x := 6) O (xx_dt dd_X2_init 3 rfl) (by decide) ?_
  refine sw_newarray (k := 89) (n := 701) (t := 100) (N := 6) (r := 1020) O (xx_dt dd_X2_init 4 rfl) ⟨⟨by omega, by omega⟩, rfl⟩ ac_int (by decide) (by decide) (by decide) (ob_free (by decide) (by decide) (hf 1020 (by omega) (by omega) (by omega))) (by omega) ?_
  rw [ob_new (by omega) (fun i hi => by obtain rfl : i = 0 := (by omega); rfl)]
  refine sw_putF (h2 := xx_up (setI [(1020, 1)] z9 h) 1003 (8, 11, updV (fun j => defaultValue (tyX2 j)) 0 (.ref 1020))) O (xx_dt dd_X2_init 5 rfl) cl_X2 fz_X2_9 (xx_up_eq _ _ _) (by decide) (by omega) rfl rfl (fun _ => ⟨rfl, rfl⟩) xx_up_up ?_
  refine sw_aload_n O (xx_dt dd_X2_init 6 rfl) rfl ?_
  refine sw_bipush (x := 6) O (xx_dt dd_X2_init 7 rfl) (by decide) ?_
  refine sw_bipush (x := 6) O (xx_dt dd_X2_init 8 rfl) (by decide) ?_
  refine sw_multi (k := 82) (n := 659) (N := 6) (K := 6) (r := 1021) O (xx_dt dd_X2_init 9 rfl) mu_X2_15 (by decide) (by decide) (by decide) (by decide) (by omega) (by omega) (fun q hq => ob_free (by omega) (fr_1021 hq) (hf _ (by omega) (by omega) (by omega))) (by omega) ?_
  rw [ob_new (by omega) mb_1021]
  refine sw_putF (h2 := xx_up (setI [(1021, 7), (1020, 1)] z9 h) 1003 (8, 11, updV (updV (fun j => defaultValue (tyX2 j)) 0 (.ref 1020)) 1 (.ref 1021))) O (xx_dt dd_X2_init 10 rfl) cl_X2 fz_X2_17 (xx_up_eq _ _ _) (by decide) (by omega) rfl rfl (fun _ => ⟨rfl, rfl⟩) xx_up_up ?_
  refine sw_aload_n O (xx_dt dd_X2_init 11 rfl) rfl ?_
  refine sw_bipush (x := 6) O (xx_dt dd_X2_init 12 rfl) (by decide) ?_
  refine sw_bipush (x := 6) O (xx_dt dd_X2_init 13 rfl) (by decide) ?_
  refine sw_multi (k := 75) (n := 617) (N := 6) (K := 6) (r := 1030) O (xx_dt dd_X2_init 14 rfl) mu_X2_15 (by decide) (by decide) (by decide) (by decide) (by omega) (by omega) (fun q hq => ob_free (by omega) (fr_1030 hq) (hf _ (by omega) (by omega) (by omega))) (by omega) ?_
  rw [ob_new (by omega) mb_1030]
  refine sw_putF (h2 := xx_up (setI [(1030, 7), (1021, 7), (1020, 1)] z9 h) 1003 (8, 11, updV (updV (updV (fun j => defaultValue (tyX2 j)) 0 (.ref 1020)) 1 (.ref 1021)) 2 (.ref 1030))) O (xx_dt dd_X2_init 15 rfl) cl_X2 fz_X2_20 (xx_up_eq _ _ _) (by decide) (by omega) rfl rfl (fun _ => ⟨rfl, rfl⟩) xx_up_up ?_
  refine sw_aload_n O (xx_dt dd_X2_init 16 rfl) rfl ?_
  refine sw_bipush (x := 6) O (xx_dt dd_X2_init 17 rfl) (by decide) ?_
  refine sw_newarray (k := 74) (n := 611) (t := 100) (N := 6) (r := 1040) O (xx_dt dd_X2_init 18 rfl) ⟨⟨by omega, by omega⟩, rfl⟩ ac_int (by decide) (by decide) (by decide) (ob_free (by decide) (by decide) (hf 1040 (by omega) (by omega) (by omega))) (by omega) ?_
  rw [ob_new (by omega) (fun i hi => by obtain rfl : i = 0 := (by omega); rfl)]
  refine sw_putF (h2 := xx_up (setI [(1040, 1), (1030, 7), (1021, 7), (1020, 1)] z9 h) 1003 (8, 11, updV (updV (updV (updV (fun j => defaultValue (tyX2 j)) 0 (.ref 1020)) 1 (.ref 1021)) 2 (.ref 1030)) 3 (.ref 1040))) O (xx_dt dd_X2_init 19 rfl) cl_X2 fz_X2_23 (xx_up_eq _ _ _) (by decide) (by omega) rfl rfl (fun _ => ⟨rfl, rfl⟩) xx_up_up ?_
  refine sw_aload_n O (xx_dt dd_X2_init 20 rfl) rfl ?_
  refine sw_bipush (x := 64) O (xx_dt dd_X2_init 21 rfl) (by decide) ?_
  refine sw_newarray (k := 73) (n := 547) (t := 100) (N := 64) (r := 1041) O (xx_dt dd_X2_init 22 rfl) ⟨⟨by omega, by omega⟩, rfl⟩ ac_int (by decide) (by decide) (by decide) (ob_free (by decide) (by decide) (hf 1041 (by omega) (by omega) (by omega))) (by omega) ?_
  rw [ob_new (by omega) (fun i hi => by obtain rfl : i = 0 := (by omega); rfl)]
  refine sw_putF (h2 := xx_up (setI [(1041, 1), (1040, 1), (1030, 7), (1021, 7), (1020, 1)] z9 h) 1003 (8, 11, updV (updV (updV (updV (updV (fun j => defaultValue (tyX2 j)) 0 (.ref 1020)) 1 (.ref 1021)) 2 (.ref 1030)) 3 (.ref 1040)) 4 (.ref 1041))) O (xx_dt dd_X2_init 23 rfl) cl_X2 fz_X2_26 (xx_up_eq _ _ _) (by decide) (by omega) rfl rfl (fun _ => ⟨rfl, rfl⟩) xx_up_up ?_
  refine sw_aload_n O (xx_dt dd_X2_init 24 rfl) rfl ?_
  refine sw_bipush (x := 64) O (xx_dt dd_X2_init 25 rfl) (by decide) ?_
  refine sw_newarray (k := 72) (n := 483) (t := 100) (N := 64) (r := 1042) O (xx_dt dd_X2_init 26 rfl) ⟨⟨by omega, by omega⟩, rfl⟩ ac_int (by decide) (by decide) (by decide) (ob_free (by decide) (by decide) (hf 1042 (by omega) (by omega) (by omega))) (by omega) ?_
  rw [ob_new (by omega) (fun i hi => by obtain rfl : i = 0 := (by omega); rfl)]
  refine sw_putF (h2 := xx_up (setI [(1042, 1), (1041, 1), (1040, 1), (1030, 7), (1021, 7), (1020, 1)] z9 h) 1003 (8, 11, updV (updV (updV (updV (updV (updV (fun j => defaultValue (tyX2 j)) 0 (.ref 1020)) 1 (.ref 1021)) 2 (.ref 1030)) 3 (.ref 1040)) 4 (.ref 1041)) 6 (.ref 1042))) O (xx_dt dd_X2_init 27 rfl) cl_X2 fz_X2_29 (xx_up_eq _ _ _) (by decide) (by omega) rfl rfl (fun _ => ⟨rfl, rfl⟩) xx_up_up ?_
  refine sw_aload_n O (xx_dt dd_X2_init 28 rfl) rfl ?_
  refine sw_bipush (x := 64) O (xx_dt dd_X2_init 29 rfl) (by decide) ?_
  refine sw_bipush (x := 6) O (xx_dt dd_X2_init 30 rfl) (by decide) ?_
  refine sw_multi (k := 7) (n := 35) (N := 64) (K := 6) (r := 1050) O (xx_dt dd_X2_init 31 rfl) mu_X2_15 (by decide) (by decide) (by decide) (by decide) (by omega) (by omega) (fun q hq => ob_free (by omega) (fr_1050 hq) (hf _ (by omega) (by omega) (by omega))) (by omega) ?_
  rw [ob_new (by omega) mb_1050]
  refine sw_putF (h2 := xx_up (setI [(1050, 65), (1042, 1), (1041, 1), (1040, 1), (1030, 7), (1021, 7), (1020, 1)] z9 h) 1003 (8, 11, updV (updV (updV (updV (updV (updV (updV (fun j => defaultValue (tyX2 j)) 0 (.ref 1020)) 1 (.ref 1021)) 2 (.ref 1030)) 3 (.ref 1040)) 4 (.ref 1041)) 6 (.ref 1042)) 7 (.ref 1050))) O (xx_dt dd_X2_init 32 rfl) cl_X2 fz_X2_32 (xx_up_eq _ _ _) (by decide) (by omega) rfl rfl (fun _ => ⟨rfl, rfl⟩) xx_up_up ?_
  refine sw_aload_n O (xx_dt dd_X2_init 33 rfl) rfl ?_
  refine sw_bipush (x := 6) O (xx_dt dd_X2_init 34 rfl) (by decide) ?_
  refine sw_newarray (k := 6) (n := 29) (t := 100) (N := 6) (r := 1043) O (xx_dt dd_X2_init 35 rfl) ⟨⟨by omega, by omega⟩, rfl⟩ ac_int (by decide) (by decide) (by decide) (ob_free (by decide) (by decide) (hf 1043 (by omega) (by omega) (by omega))) (by omega) ?_
  rw [ob_new (by omega) (fun i hi => by obtain rfl : i = 0 := (by omega); rfl)]
  refine sw_putF (h2 := xx_up (setI [(1043, 1), (1050, 65), (1042, 1), (1041, 1), (1040, 1), (1030, 7), (1021, 7), (1020, 1)] z9 h) 1003 (8, 11, updV (updV (updV (updV (updV (updV (updV (updV (fun j => defaultValue (tyX2 j)) 0 (.ref 1020)) 1 (.ref 1021)) 2 (.ref 1030)) 3 (.ref 1040)) 4 (.ref 1041)) 6 (.ref 1042)) 7 (.ref 1050)) 8 (.ref 1043))) O (xx_dt dd_X2_init 36 rfl) cl_X2 fz_X2_35 (xx_up_eq _ _ _) (by decide) (by omega) rfl rfl (fun _ => ⟨rfl, rfl⟩) xx_up_up ?_
  refine sw_aload_n O (xx_dt dd_X2_init 37 rfl) rfl ?_
  refine sw_iconst (x := 5) O (xx_dt dd_X2_init 38 rfl) (by decide) ?_
  refine sw_newarray (k := 5) (n := 24) (t := 100) (N := 5) (r := 1044) O (xx_dt dd_X2_init 39 rfl) ⟨⟨by omega, by omega⟩, rfl⟩ ac_int (by decide) (by decide) (by decide) (ob_free (by decide) (by decide) (hf 1044 (by omega) (by omega) (by omega))) (by omega) ?_
  rw [ob_new (by omega) (fun i hi => by obtain rfl : i = 0 := (by omega); rfl)]
  refine sw_putF (h2 := xx_up (setI [(1044, 1), (1043, 1), (1050, 65), (1042, 1), (1041, 1), (1040, 1), (1030, 7), (1021, 7), (1020, 1)] z9 h) 1003 (8, 11, updV (updV (updV (updV (updV (updV (updV (updV (updV (fun j => defaultValue (tyX2 j)) 0 (.ref 1020)) 1 (.ref 1021)) 2 (.ref 1030)) 3 (.ref 1040)) 4 (.ref 1041)) 6 (.ref 1042)) 7 (.ref 1050)) 8 (.ref 1043)) 9 (.ref 1044))) O (xx_dt dd_X2_init 40 rfl) cl_X2 fz_X2_38 (xx_up_eq _ _ _) (by decide) (by omega) rfl rfl (fun _ => ⟨rfl, rfl⟩) xx_up_up ?_
  refine sw_aload_n O (xx_dt dd_X2_init 41 rfl) rfl ?_
  refine sw_iconst (x := 4) O (xx_dt dd_X2_init 42 rfl) (by decide) ?_
  refine sw_iconst (x := 5) O (xx_dt dd_X2_init 43 rfl) (by decide) ?_
  refine sw_multi (k := 0) (n := 0) (N := 4) (K := 5) (r := 1120) O (xx_dt dd_X2_init 44 rfl) mu_X2_15 (by decide) (by decide) (by decide) (by decide) (by omega) (by omega) (fun q hq => ob_free (by omega) (fr_1120 hq) (hf _ (by omega) (by omega) (by omega))) (by omega) ?_
  rw [ob_new (by omega) mb_1120]
  refine sw_putF (h2 := xx_up (setI [(1120, 5), (1044, 1), (1043, 1), (1050, 65), (1042, 1), (1041, 1), (1040, 1), (1030, 7), (1021, 7), (1020, 1)] z9 h) 1003 (8, 11, updV (updV (updV (updV (updV (updV (updV (updV (updV (updV (fun j => defaultValue (tyX2 j)) 0 (.ref 1020)) 1 (.ref 1021)) 2 (.ref 1030)) 3 (.ref 1040)) 4 (.ref 1041)) 6 (.ref 1042)) 7 (.ref 1050)) 8 (.ref 1043)) 9 (.ref 1044)) 10 (.ref 1120))) O (xx_dt dd_X2_init 45 rfl) cl_X2 fz_X2_41 (xx_up_eq _ _ _) (by decide) (by omega) rfl rfl (fun _ => ⟨rfl, rfl⟩) xx_up_up ?_
  refine sw_alter (r := 1003) (t := 8) (N := 11) (F2 := fun k => match k with | 0 => .ref (1020) | 1 => .ref (1021) | 2 => .ref (1030) | 3 => .ref (1040) | 4 => .ref (1041) | 5 => .int (z9 1003 5) | 6 => .ref (1042) | 7 => .ref (1050) | 8 => .ref (1043) | 9 => .ref (1044) | 10 => .ref (1120) | _ => .null) (xx_up_eq _ _ _) (fun j hj => ?_) ?_
  · match j, hj with
    | 0, _ => rfl
    | 1, _ => rfl
    | 2, _ => rfl
    | 3, _ => rfl
    | 4, _ => rfl
    | 5, _ => rfl
    | 6, _ => rfl
    | 7, _ => rfl
    | 8, _ => rfl
    | 9, _ => rfl
    | 10, _ => rfl
  rw [xx_up_up, ob_done (σ' := z9) rfl (fun _ _ _ => rfl)]
  refine sw_aload_n O (xx_dt dd_X2_init 46 rfl) rfl ?_
  refine sw_get (v := .ref 1042) O (xx_dt dd_X2_init 47 rfl) cl_X2 fl_X2_29 (f := fun k => match k with | 0 => .ref (1020) | 1 => .ref (1021) | 2 => .ref (1030) | 3 => .ref (1040) | 4 => .ref (1041) | 5 => .int (z9 1003 5) | 6 => .ref (1042) | 7 => .ref (1050) | 8 => .ref (1043) | 9 => .ref (1044) | 10 => .ref (1120) | _ => .null) (setI_in (by decide)) (by decide) rfl ?_
  refine sw_iconst (x := (-1)) O (xx_dt dd_X2_init 48 rfl) (by decide) ?_
  refine sw_callSx (as := [.ref (1042), .int (-1)]) (st := []) (st2 := []) O (ct_fillG hl (a := 1042) (n := 64) (x := -1) (F := fun k => .int (z9 (1042) k)) (setI_in (by decide)) (by omega) (by omega)) ce_J7_fill_53178 ml_X2_44 st_J7_fill_53178 (xx_dt dd_X2_init 49 rfl) (by decide) rfl rfl (Nat.le_of_ble_eq_true rfl) rfl ?_
  rw [setI_up (x := fun _ => -1) (by decide) rfl, show (fun q => if q = 1042 then (fun _ => (-1 : Int32)) else z9 q) = zM1 from rfl]
  refine sw_aload_n O (xx_dt dd_X2_init 50 rfl) rfl ?_
  refine sw_get (v := .ref 1042) O (xx_dt dd_X2_init 51 rfl) cl_X2 fl_X2_29 (f := fun k => match k with | 0 => .ref (1020) | 1 => .ref (1021) | 2 => .ref (1030) | 3 => .ref (1040) | 4 => .ref (1041) | 5 => .int (zM1 1003 5) | 6 => .ref (1042) | 7 => .ref (1050) | 8 => .ref (1043) | 9 => .ref (1044) | 10 => .ref (1120) | _ => .null) (setI_in (by decide)) (by decide) rfl ?_
  refine sw_iconst (x := 0) O (xx_dt dd_X2_init 52 rfl) (by decide) ?_
  refine sw_iconst (x := 0) O (xx_dt dd_X2_init 53 rfl) (by decide) ?_
  refine sw_iastore (h2 := setI [(1003, 1), (1120, 5), (1044, 1), (1043, 1), (1050, 65), (1042, 1), (1041, 1), (1040, 1), (1030, 7), (1021, 7), (1020, 1)] zM2 h) (N := 64) (f := fun k => .int (zM1 1042 k)) O (xx_dt dd_X2_init 54 rfl) (setI_in (by decide)) (by unfold vp_in; decide) (by omega) ?_ ?_
  · rw [setI_up (x := fun j => if j = 0 then 0 else -1) (by decide) (c := (100, 64, updV (fun k => .int (zM1 1042 k)) (Int32.toNatClampNeg 0) (.int 0))) ?_]
    · rfl
    · show some _ = some _
      congr 3
      funext k
      show Value.int (if k = 0 then 0 else -1) = if k = 0 then Value.int 0 else Value.int (zM1 1042 k)
      by_cases e : k = 0
      · rw [if_pos e, if_pos e]
      · rw [if_neg e, if_neg e]
        rfl
  refine sw_iconst (x := 0) O (xx_dt dd_X2_init 55 rfl) (by decide) ?_
  refine sw_istore_n (ls2 := [.ref 1003, .int 0]) O (xx_dt dd_X2_init 56 rfl) (by decide) rfl ?_
  rw [show setI [(1003, 1), (1120, 5), (1044, 1), (1043, 1), (1050, 65), (1042, 1), (1041, 1), (1040, 1), (1030, 7), (1021, 7), (1020, 1)] zM2 h = setI [(1003, 1), (1120, 5), (1044, 1), (1043, 1), (1050, 65), (1042, 1), (1041, 1), (1040, 1), (1030, 7), (1021, 7), (1020, 1)] (zR1050 zM2 0) h from setI_congr (fun q hq => by unfold zR1050; rw [if_neg (by omega)])]
  refine sw_for (S := Nat) (fun i _ => i + 1) (fun i s => s = i) (hp := fun s => setI [(1003, 1), (1120, 5), (1044, 1), (1043, 1), (1050, 65), (1042, 1), (1041, 1), (1040, 1), (1030, 7), (1021, 7), (1020, 1)] (zR1050 zM2 s) h) (hd := 114) (lc := fun i s => [.ref 1003, .int (nI i)]) (N := 64) (fun i s hi hs => ⟨rfl, fun kk => ?_⟩) 64 0 0 (by omega) rfl (fun hs => ?_)
  · subst hs
    refine sw_iload_n O (xx_dt dd_X2_init 57 rfl) rfl ?_
    refine sw_bipush (x := 64) O (xx_dt dd_X2_init 58 rfl) (by decide) ?_
    refine sw_icmp_ge (tgt := 136) O (xx_dt dd_X2_init 59 rfl) (by decide) (fun q => absurd q (nI_ge (b := 64) hi (by omega))) (fun q => ?_)
    refine sw_aload_n O (xx_dt dd_X2_init 60 rfl) rfl ?_
    refine sw_get (v := .ref 1050) O (xx_dt dd_X2_init 61 rfl) cl_X2 fl_X2_32 (f := fun k => match k with | 0 => .ref (1020) | 1 => .ref (1021) | 2 => .ref (1030) | 3 => .ref (1040) | 4 => .ref (1041) | 5 => .int ((zR1050 zM2 s) 1003 5) | 6 => .ref (1042) | 7 => .ref (1050) | 8 => .ref (1043) | 9 => .ref (1044) | 10 => .ref (1120) | _ => .null) (setI_in (by decide)) (by decide) rfl ?_
    refine sw_iload_n O (xx_dt dd_X2_init 62 rfl) rfl ?_
    refine sw_aaload (t := 103) (N := 64) (f := fun k => .ref (1051 + k)) (v := .ref (1051 + s)) O (xx_dt dd_X2_init 63 rfl) (by omega) (by omega) (setI_in (by decide)) (pk_in s 64 hi) (by rw [nI_clamp (by omega)]) ?_
    refine sw_iconst (x := (-1)) O (xx_dt dd_X2_init 64 rfl) (by decide) ?_
    refine sw_callSx (as := [.ref (1051 + s), .int (-1)]) (st := []) (st2 := []) O (ct_fillG hl (a := 1051 + s) (n := 6) (x := -1) (F := fun k => .int ((zR1050 zM2 s) (1051 + s) k)) ((setI_in (by simp only [inI, List.any_cons, List.any_nil, Bool.or_false, Bool.or_eq_true, decide_eq_true_eq]; omega)).trans (lyr_1050 hi _)) (by omega) (by omega)) ce_J7_fill_53178 ml_X2_44 st_J7_fill_53178 (xx_dt dd_X2_init 65 rfl) (by decide) rfl rfl (Nat.le_of_ble_eq_true rfl) rfl ?_
    rw [setI_up (x := fun _ => -1) (by simp only [inI, List.any_cons, List.any_nil, Bool.or_false, Bool.or_eq_true, decide_eq_true_eq]; omega) (lyr_1050 hi _), zR1050_s]
    refine sw_iinc (y := nI (s + 1)) (ls2 := [.ref 1003, .int (nI (s + 1))]) O (xx_dt dd_X2_init 66 rfl) rfl (nI_1 _) (by decide) rfl ?_
    refine sw_goto (tgt := 114) O (xx_dt dd_X2_init 67 rfl) (by decide) ?_
    exact kk
  · generalize hz : xit (fun i _ => i + 1) 64 0 0 = z at hs ⊢
    subst hs
    refine sw_iload_n O (xx_dt dd_X2_init 57 rfl) rfl ?_
    refine sw_bipush (x := 64) O (xx_dt dd_X2_init 58 rfl) (by decide) ?_
    refine sw_icmp_ge (tgt := 136) O (xx_dt dd_X2_init 59 rfl) (by decide) (fun q => ?_) (fun q => absurd (Int32.le_refl _) q)
    refine sw_aload_n O (xx_dt dd_X2_init 68 rfl) rfl ?_
    refine sw_get (v := .ref 1043) O (xx_dt dd_X2_init 69 rfl) cl_X2 fl_X2_35 (f := fun k => match k with | 0 => .ref (1020) | 1 => .ref (1021) | 2 => .ref (1030) | 3 => .ref (1040) | 4 => .ref (1041) | 5 => .int ((zR1050 zM2 64) 1003 5) | 6 => .ref (1042) | 7 => .ref (1050) | 8 => .ref (1043) | 9 => .ref (1044) | 10 => .ref (1120) | _ => .null) (setI_in (by decide)) (by decide) rfl ?_
    refine sw_iconst (x := (-1)) O (xx_dt dd_X2_init 70 rfl) (by decide) ?_
    refine sw_callSx (as := [.ref (1043), .int (-1)]) (st := []) (st2 := []) O (ct_fillG hl (a := 1043) (n := 6) (x := -1) (F := fun k => .int ((zR1050 zM2 64) (1043) k)) (setI_in (by decide)) (by omega) (by omega)) ce_J7_fill_53178 ml_X2_44 st_J7_fill_53178 (xx_dt dd_X2_init 71 rfl) (by decide) rfl rfl (Nat.le_of_ble_eq_true rfl) rfl ?_
    rw [setI_up (x := fun _ => -1) (by decide) rfl, show (fun q => if q = 1043 then (fun _ => (-1 : Int32)) else zR1050 zM2 64 q) = zM3 from rfl]
    refine sw_aload_n O (xx_dt dd_X2_init 72 rfl) rfl ?_
    refine sw_get (v := .ref 1040) O (xx_dt dd_X2_init 73 rfl) cl_X2 fl_X2_23 (f := fun k => match k with | 0 => .ref (1020) | 1 => .ref (1021) | 2 => .ref (1030) | 3 => .ref (1040) | 4 => .ref (1041) | 5 => .int (zM3 1003 5) | 6 => .ref (1042) | 7 => .ref (1050) | 8 => .ref (1043) | 9 => .ref (1044) | 10 => .ref (1120) | _ => .null) (setI_in (by decide)) (by decide) rfl ?_
    refine sw_iconst (x := (-1)) O (xx_dt dd_X2_init 74 rfl) (by decide) ?_
    refine sw_callSx (as := [.ref (1040), .int (-1)]) (st := []) (st2 := []) O (ct_fillG hl (a := 1040) (n := 6) (x := -1) (F := fun k => .int (zM3 (1040) k)) (setI_in (by decide)) (by omega) (by omega)) ce_J7_fill_53178 ml_X2_44 st_J7_fill_53178 (xx_dt dd_X2_init 75 rfl) (by decide) rfl rfl (Nat.le_of_ble_eq_true rfl) rfl ?_
    rw [setI_up (x := fun _ => -1) (by decide) rfl, show (fun q => if q = 1040 then (fun _ => (-1 : Int32)) else zM3 q) = zM4 from rfl]
    rw [show setI [(1003, 1), (1120, 5), (1044, 1), (1043, 1), (1050, 65), (1042, 1), (1041, 1), (1040, 1), (1030, 7), (1021, 7), (1020, 1)] zM4 h = setI [(1003, 1), (1120, 5), (1044, 1), (1043, 1), (1050, 65), (1042, 1), (1041, 1), (1040, 1), (1030, 7), (1021, 7), (1020, 1)] s0C h from setI_congr (fun q hq => by
      simp only [inI, List.any_cons, List.any_nil, Bool.or_false, Bool.or_eq_true, decide_eq_true_eq] at hq
      unfold zM4 zM3 zR1050
      by_cases e1 : q = 1040
      · rw [if_pos e1]
        funext k
        unfold s0C
        rw [if_neg (by omega), if_neg (by omega), if_pos (by omega)]
      · rw [if_neg e1]
        by_cases e2 : q = 1043
        · rw [if_pos e2]
          funext k
          unfold s0C
          rw [if_neg (by omega), if_neg (by omega), if_pos (by omega)]
        · rw [if_neg e2]
          by_cases e3 : 1051 ≤ q ∧ q < 1051 + 64
          · rw [if_pos e3]
            funext k
            unfold s0C
            rw [if_neg (by omega), if_neg (by omega), if_pos (by omega)]
          · rw [if_neg e3]
            unfold zM2
            by_cases e4 : q = 1042
            · rw [if_pos e4]
              funext k
              subst e4
              rfl
            · rw [if_neg e4]
              unfold zM1
              rw [if_neg e4]
              exact (s0C_z (by omega) e4 (by omega) (by omega)).symm)]
    exact sw_ret O (xx_dt dd_X2_init 76 rfl) rfl (by rw [hQ]; exact ⟨rfl, rfl⟩)
theorem inI_app {I J : List (Nat × Nat)} {q : Nat} : inI (J ++ I) q = (inI J q || inI I q) := List.any_append
theorem setI_call {I J : List (Nat × Nat)} {σ : XS9} {h : XH} {b : Nat} {F d : XC} (hb : inI J b = true) (h0 : inI J 1000 = false) (hne : (1000 : Nat) ≠ b) : setI J σ (xx_up (xx_up (setI I σ h) 1000 F) b d) = xx_up (setI (J ++ I) σ h) 1000 F := by
  funext q
  show (if inI J q = true then lyC q (σ q) else if q = b then some d else if q = 1000 then some F else if inI I q = true then lyC q (σ q) else h q) = if q = 1000 then some F else if inI (J ++ I) q = true then lyC q (σ q) else h q
  rw [inI_app]
  by_cases e0 : q = 1000
  · subst e0
    rw [if_neg (by rw [h0]; decide), if_neg hne, if_pos rfl, if_pos rfl]
  · rw [if_neg e0, if_neg e0]
    by_cases e1 : inI J q = true
    · rw [if_pos e1, if_pos (by rw [e1]; rfl)]
    · rw [if_neg e1]
      have e2 : q ≠ b := fun e => e1 (by rw [e]; exact hb)
      have e3 : inI J q = false := by cases z : inI J q with | true => exact absurd z e1 | false => rfl
      rw [if_neg e2, e3, Bool.false_or]
theorem cl_free {I : List (Nat × Nat)} {σ : XS9} {h : XH} {b q : Nat} {F d : XC} (h1 : q ≠ b) (h2 : q ≠ 1000) (h3 : inI I q = false) (hq : h q = none) : xx_up (xx_up (setI I σ h) 1000 F) b d q = none := by
  rw [xx_up_ne h1, xx_up_ne h2]
  unfold setI
  rw [h3]
  exact hq
def ivC : List (Nat × Nat) := [(1000, 1), (1006, 1), (1153, 1), (1152, 1), (1151, 1), (1150, 1), (1005, 1), (1140, 6), (1004, 1), (1130, 4), (1003, 1), (1120, 5), (1044, 1), (1043, 1), (1050, 65), (1042, 1), (1041, 1), (1040, 1), (1030, 7), (1021, 7), (1020, 1), (3000, 1), (3008, 1), (3007, 1), (3300, 61), (3200, 61), (3100, 61), (3006, 1), (3005, 1), (3004, 1), (3003, 1), (3002, 1), (3001, 1), (2000, 1), (2008, 1), (2007, 1), (2300, 61), (2200, 61), (2100, 61), (2006, 1), (2005, 1), (2004, 1), (2003, 1), (2002, 1), (2001, 1), (1001, 1), (1017, 1), (1016, 1), (1015, 1), (1014, 1), (1013, 1), (1012, 1), (1011, 1), (1010, 1)]
theorem ivC_out {q : Nat} (h1 : 1000 ≤ q) (h2 : q < 4000) (hq : inI ivC q = false) (s : Nat → Int32) : lyC q s = none := by
  simp only [ivC, inI, List.any_cons, List.any_nil, Bool.or_false, Bool.or_eq_false_iff, decide_eq_false_iff_not] at hq
  by_cases a : 2000 ≤ q
  · unfold lyC lyK
    (repeat' split) <;> first | rfl | (exfalso; omega) | (exfalso; revert hq; decide)
  · unfold lyC
    rw [if_neg (by omega), if_neg a, if_neg (by omega), if_neg (by omega), if_neg (by omega), if_neg (by omega), if_neg (by omega), if_neg (by omega)]
    split <;> first | rfl | (exfalso; omega)
theorem ivC_all {σ : XS9} {h : XH} (hf : ∀ q, 1000 ≤ q → q < 4000 → q ≠ 1000 → h q = none) : setI ivC σ h = setC σ h := by
  funext q
  unfold setI setC
  by_cases e : 1000 ≤ q ∧ q < 4000
  · rw [if_pos e]
    cases z : inI ivC q with
    | true => exact if_pos rfl
    | false =>
      rw [if_neg (by decide), ivC_out e.1 e.2 z]
      refine hf q e.1 e.2 (fun e0 => ?_)
      subst e0
      exact absurd z (by decide)
  · rw [if_neg e]
    refine if_neg (fun z => e ?_)
    simp only [ivC, inI, List.any_cons, List.any_nil, Bool.or_false, Bool.or_eq_true, decide_eq_true_eq] at z
    omega
theorem ct_X7_init {l : Launch} {h : XH} (hl : l.stackTraces = false) (hf : ∀ q, 1000 ≤ q → q < 4000 → q ≠ 1000 → h q = none) (hb : h 1000 = some (13, 12, fun j => defaultValue (tyX7 j))) : XEx l m_X7_init 2 501 3605 [.ref 1000] h none (setC s0C h) := by
  refine XMet.of hl rfl rfl (Nat.le_of_ble_eq_true rfl) (fun Y O hh hQ => ?_)
  rw [show h = xx_up (setI [] s0C h) 1000 (13, 12, fun j => defaultValue (tyX7 j)) from (xx_up_self hb).symm]
  show SW Y 501 3605 _ 0 [.ref 1000] []
  refine sw_aload_n O (xx_dt dd_X7_init 0 rfl) rfl ?_
  refine sw_objInit O oi_X7_3 (xx_dt dd_X7_init 1 rfl) (by omega) (Nat.le_of_ble_eq_true rfl) ?_
  refine sw_aload_n O (xx_dt dd_X7_init 2 rfl) rfl ?_
  refine sw_new (k := 500) (n := 3593) (r := 1001) O (xx_dt dd_X7_init 3 rfl) cl_X6 nw_X7_9 (ob_free (by decide) (by decide) (hf 1001 (by omega) (by omega) (by omega))) (by omega) ?_
  rw [xx_blk_up]
  refine sw_dup O (xx_dt dd_X7_init 4 rfl) rfl ?_
  refine sw_callIx (k := 492) (n := 3549) (k' := 8) (n' := 44) (as := []) (st := [.ref 1001, .ref 1000]) (st2 := [.ref 1001, .ref 1000]) O (ct_X6_init hl (fun q h1 h2 h3 => cl_free h3 (by omega) (by rfl) (hf q (by omega) (by omega) (by omega))) (xx_up_eq _ _ _)) ce_X6_init ml_X7_11 ii_X6_init (xx_dt dd_X7_init 5 rfl) (by decide) rfl rfl (Nat.le_of_ble_eq_true rfl) rfl ?_
  rw [setI_call (by decide) (by decide) (by decide)]
  rw [show [(1001, 1), (1017, 1), (1016, 1), (1015, 1), (1014, 1), (1013, 1), (1012, 1), (1011, 1), (1010, 1)] ++ [] = [(1001, 1), (1017, 1), (1016, 1), (1015, 1), (1014, 1), (1013, 1), (1012, 1), (1011, 1), (1010, 1)] from rfl]
  refine sw_putF (h2 := xx_up (setI [(1001, 1), (1017, 1), (1016, 1), (1015, 1), (1014, 1), (1013, 1), (1012, 1), (1011, 1), (1010, 1)] s0C h) 1000 (13, 12, updV (fun j => defaultValue (tyX7 j)) 0 (.ref 1001))) O (xx_dt dd_X7_init 6 rfl) cl_X7 fz_X7_12 (xx_up_eq _ _ _) (by decide) (by omega) rfl rfl (fun _ => ⟨rfl, rfl⟩) xx_up_up ?_
  refine sw_aload_n O (xx_dt dd_X7_init 7 rfl) rfl ?_
  refine sw_new (k := 491) (n := 3536) (r := 2000) O (xx_dt dd_X7_init 8 rfl) cl_X1 nw_X7_16 (ob_free (by decide) (by decide) (hf 2000 (by omega) (by omega) (by omega))) (by omega) ?_
  rw [xx_blk_up]
  refine sw_dup O (xx_dt dd_X7_init 9 rfl) rfl ?_
  refine sw_callIx (k := 300) (n := 2181) (k' := 191) (n' := 1355) (as := []) (st := [.ref 2000, .ref 1000]) (st2 := [.ref 2000, .ref 1000]) O (ct_X1_init_2000 hl (fun q h1 h2 h3 => cl_free h3 (by omega) (by simp only [inI, List.any_cons, List.any_nil, Bool.or_false, Bool.or_eq_false_iff, decide_eq_false_iff_not]; omega) (hf q (by omega) (by omega) (by omega))) (xx_up_eq _ _ _)) ce_X1_init ml_X7_18 ii_X1_init (xx_dt dd_X7_init 10 rfl) (by decide) rfl rfl (Nat.le_of_ble_eq_true rfl) rfl ?_
  rw [setI_call (by decide) (by decide) (by decide)]
  rw [show [(2000, 1), (2008, 1), (2007, 1), (2300, 61), (2200, 61), (2100, 61), (2006, 1), (2005, 1), (2004, 1), (2003, 1), (2002, 1), (2001, 1)] ++ [(1001, 1), (1017, 1), (1016, 1), (1015, 1), (1014, 1), (1013, 1), (1012, 1), (1011, 1), (1010, 1)] = [(2000, 1), (2008, 1), (2007, 1), (2300, 61), (2200, 61), (2100, 61), (2006, 1), (2005, 1), (2004, 1), (2003, 1), (2002, 1), (2001, 1), (1001, 1), (1017, 1), (1016, 1), (1015, 1), (1014, 1), (1013, 1), (1012, 1), (1011, 1), (1010, 1)] from rfl]
  refine sw_putF (h2 := xx_up (setI [(2000, 1), (2008, 1), (2007, 1), (2300, 61), (2200, 61), (2100, 61), (2006, 1), (2005, 1), (2004, 1), (2003, 1), (2002, 1), (2001, 1), (1001, 1), (1017, 1), (1016, 1), (1015, 1), (1014, 1), (1013, 1), (1012, 1), (1011, 1), (1010, 1)] s0C h) 1000 (13, 12, updV (updV (fun j => defaultValue (tyX7 j)) 0 (.ref 1001)) 1 (.ref 2000))) O (xx_dt dd_X7_init 11 rfl) cl_X7 fz_X7_19 (xx_up_eq _ _ _) (by decide) (by omega) rfl rfl (fun _ => ⟨rfl, rfl⟩) xx_up_up ?_
  refine sw_aload_n O (xx_dt dd_X7_init 12 rfl) rfl ?_
  refine sw_new (k := 299) (n := 2168) (r := 3000) O (xx_dt dd_X7_init 13 rfl) cl_X1 nw_X7_16 (ob_free (by decide) (by decide) (hf 3000 (by omega) (by omega) (by omega))) (by omega) ?_
  rw [xx_blk_up]
  refine sw_dup O (xx_dt dd_X7_init 14 rfl) rfl ?_
  refine sw_callIx (k := 108) (n := 813) (k' := 191) (n' := 1355) (as := []) (st := [.ref 3000, .ref 1000]) (st2 := [.ref 3000, .ref 1000]) O (ct_X1_init_3000 hl (fun q h1 h2 h3 => cl_free h3 (by omega) (by simp only [inI, List.any_cons, List.any_nil, Bool.or_false, Bool.or_eq_false_iff, decide_eq_false_iff_not]; omega) (hf q (by omega) (by omega) (by omega))) (xx_up_eq _ _ _)) ce_X1_init ml_X7_18 ii_X1_init (xx_dt dd_X7_init 15 rfl) (by decide) rfl rfl (Nat.le_of_ble_eq_true rfl) rfl ?_
  rw [setI_call (by decide) (by decide) (by decide)]
  rw [show [(3000, 1), (3008, 1), (3007, 1), (3300, 61), (3200, 61), (3100, 61), (3006, 1), (3005, 1), (3004, 1), (3003, 1), (3002, 1), (3001, 1)] ++ [(2000, 1), (2008, 1), (2007, 1), (2300, 61), (2200, 61), (2100, 61), (2006, 1), (2005, 1), (2004, 1), (2003, 1), (2002, 1), (2001, 1), (1001, 1), (1017, 1), (1016, 1), (1015, 1), (1014, 1), (1013, 1), (1012, 1), (1011, 1), (1010, 1)] = [(3000, 1), (3008, 1), (3007, 1), (3300, 61), (3200, 61), (3100, 61), (3006, 1), (3005, 1), (3004, 1), (3003, 1), (3002, 1), (3001, 1), (2000, 1), (2008, 1), (2007, 1), (2300, 61), (2200, 61), (2100, 61), (2006, 1), (2005, 1), (2004, 1), (2003, 1), (2002, 1), (2001, 1), (1001, 1), (1017, 1), (1016, 1), (1015, 1), (1014, 1), (1013, 1), (1012, 1), (1011, 1), (1010, 1)] from rfl]
  refine sw_putF (h2 := xx_up (setI [(3000, 1), (3008, 1), (3007, 1), (3300, 61), (3200, 61), (3100, 61), (3006, 1), (3005, 1), (3004, 1), (3003, 1), (3002, 1), (3001, 1), (2000, 1), (2008, 1), (2007, 1), (2300, 61), (2200, 61), (2100, 61), (2006, 1), (2005, 1), (2004, 1), (2003, 1), (2002, 1), (2001, 1), (1001, 1), (1017, 1), (1016, 1), (1015, 1), (1014, 1), (1013, 1), (1012, 1), (1011, 1), (1010, 1)] s0C h) 1000 (13, 12, updV (updV (updV (fun j => defaultValue (tyX7 j)) 0 (.ref 1001)) 1 (.ref 2000)) 2 (.ref 3000))) O (xx_dt dd_X7_init 16 rfl) cl_X7 fz_X7_23 (xx_up_eq _ _ _) (by decide) (by omega) rfl rfl (fun _ => ⟨rfl, rfl⟩) xx_up_up ?_
  refine sw_aload_n O (xx_dt dd_X7_init 17 rfl) rfl ?_
  refine sw_new (k := 107) (n := 802) (r := 1003) O (xx_dt dd_X7_init 18 rfl) cl_X2 nw_X7_26 (ob_free (by decide) (by decide) (hf 1003 (by omega) (by omega) (by omega))) (by omega) ?_
  rw [xx_blk_up]
  refine sw_dup O (xx_dt dd_X7_init 19 rfl) rfl ?_
  refine sw_callIx (k := 17) (n := 95) (k' := 90) (n' := 707) (as := []) (st := [.ref 1003, .ref 1000]) (st2 := [.ref 1003, .ref 1000]) O (ct_X2_init hl (fun q h1 h2 h3 => cl_free h3 (by omega) (by simp only [inI, List.any_cons, List.any_nil, Bool.or_false, Bool.or_eq_false_iff, decide_eq_false_iff_not]; omega) (hf q (by omega) (by omega) (by omega))) (xx_up_eq _ _ _)) ce_X2_init ml_X7_28 ii_X2_init (xx_dt dd_X7_init 20 rfl) (by decide) rfl rfl (Nat.le_of_ble_eq_true rfl) rfl ?_
  rw [setI_call (by decide) (by decide) (by decide)]
  rw [show [(1003, 1), (1120, 5), (1044, 1), (1043, 1), (1050, 65), (1042, 1), (1041, 1), (1040, 1), (1030, 7), (1021, 7), (1020, 1)] ++ [(3000, 1), (3008, 1), (3007, 1), (3300, 61), (3200, 61), (3100, 61), (3006, 1), (3005, 1), (3004, 1), (3003, 1), (3002, 1), (3001, 1), (2000, 1), (2008, 1), (2007, 1), (2300, 61), (2200, 61), (2100, 61), (2006, 1), (2005, 1), (2004, 1), (2003, 1), (2002, 1), (2001, 1), (1001, 1), (1017, 1), (1016, 1), (1015, 1), (1014, 1), (1013, 1), (1012, 1), (1011, 1), (1010, 1)] = [(1003, 1), (1120, 5), (1044, 1), (1043, 1), (1050, 65), (1042, 1), (1041, 1), (1040, 1), (1030, 7), (1021, 7), (1020, 1), (3000, 1), (3008, 1), (3007, 1), (3300, 61), (3200, 61), (3100, 61), (3006, 1), (3005, 1), (3004, 1), (3003, 1), (3002, 1), (3001, 1), (2000, 1), (2008, 1), (2007, 1), (2300, 61), (2200, 61), (2100, 61), (2006, 1), (2005, 1), (2004, 1), (2003, 1), (2002, 1), (2001, 1), (1001, 1), (1017, 1), (1016, 1), (1015, 1), (1014, 1), (1013, 1), (1012, 1), (1011, 1), (1010, 1)] from rfl]
  refine sw_putF (h2 := xx_up (setI [(1003, 1), (1120, 5), (1044, 1), (1043, 1), (1050, 65), (1042, 1), (1041, 1), (1040, 1), (1030, 7), (1021, 7), (1020, 1), (3000, 1), (3008, 1), (3007, 1), (3300, 61), (3200, 61), (3100, 61), (3006, 1), (3005, 1), (3004, 1), (3003, 1), (3002, 1), (3001, 1), (2000, 1), (2008, 1), (2007, 1), (2300, 61), (2200, 61), (2100, 61), (2006, 1), (2005, 1), (2004, 1), (2003, 1), (2002, 1), (2001, 1), (1001, 1), (1017, 1), (1016, 1), (1015, 1), (1014, 1), (1013, 1), (1012, 1), (1011, 1), (1010, 1)] s0C h) 1000 (13, 12, updV (updV (updV (updV (fun j => defaultValue (tyX7 j)) 0 (.ref 1001)) 1 (.ref 2000)) 2 (.ref 3000)) 3 (.ref 1003))) O (xx_dt dd_X7_init 21 rfl) cl_X7 fz_X7_29 (xx_up_eq _ _ _) (by decide) (by omega) rfl rfl (fun _ => ⟨rfl, rfl⟩) xx_up_up ?_
  refine sw_aload_n O (xx_dt dd_X7_init 22 rfl) rfl ?_
  refine sw_new (k := 16) (n := 94) (r := 1004) O (xx_dt dd_X7_init 23 rfl) cl_X4 nw_X7_33 (ob_free (by decide) (by decide) (hf 1004 (by omega) (by omega) (by omega))) (by omega) ?_
  rw [xx_blk_up]
  refine sw_dup O (xx_dt dd_X7_init 24 rfl) rfl ?_
  refine sw_callIx (k := 12) (n := 73) (k' := 4) (n' := 21) (as := []) (st := [.ref 1004, .ref 1000]) (st2 := [.ref 1004, .ref 1000]) O (ct_X4_init hl (fun q h1 h2 h3 => cl_free h3 (by omega) (by simp only [inI, List.any_cons, List.any_nil, Bool.or_false, Bool.or_eq_false_iff, decide_eq_false_iff_not]; omega) (hf q (by omega) (by omega) (by omega))) (xx_up_eq _ _ _)) ce_X4_init ml_X7_35 ii_X4_init (xx_dt dd_X7_init 25 rfl) (by decide) rfl rfl (Nat.le_of_ble_eq_true rfl) rfl ?_
  rw [setI_call (by decide) (by decide) (by decide)]
  rw [show [(1004, 1), (1130, 4)] ++ [(1003, 1), (1120, 5), (1044, 1), (1043, 1), (1050, 65), (1042, 1), (1041, 1), (1040, 1), (1030, 7), (1021, 7), (1020, 1), (3000, 1), (3008, 1), (3007, 1), (3300, 61), (3200, 61), (3100, 61), (3006, 1), (3005, 1), (3004, 1), (3003, 1), (3002, 1), (3001, 1), (2000, 1), (2008, 1), (2007, 1), (2300, 61), (2200, 61), (2100, 61), (2006, 1), (2005, 1), (2004, 1), (2003, 1), (2002, 1), (2001, 1), (1001, 1), (1017, 1), (1016, 1), (1015, 1), (1014, 1), (1013, 1), (1012, 1), (1011, 1), (1010, 1)] = [(1004, 1), (1130, 4), (1003, 1), (1120, 5), (1044, 1), (1043, 1), (1050, 65), (1042, 1), (1041, 1), (1040, 1), (1030, 7), (1021, 7), (1020, 1), (3000, 1), (3008, 1), (3007, 1), (3300, 61), (3200, 61), (3100, 61), (3006, 1), (3005, 1), (3004, 1), (3003, 1), (3002, 1), (3001, 1), (2000, 1), (2008, 1), (2007, 1), (2300, 61), (2200, 61), (2100, 61), (2006, 1), (2005, 1), (2004, 1), (2003, 1), (2002, 1), (2001, 1), (1001, 1), (1017, 1), (1016, 1), (1015, 1), (1014, 1), (1013, 1), (1012, 1), (1011, 1), (1010, 1)] from rfl]
  refine sw_putF (h2 := xx_up (setI [(1004, 1), (1130, 4), (1003, 1), (1120, 5), (1044, 1), (1043, 1), (1050, 65), (1042, 1), (1041, 1), (1040, 1), (1030, 7), (1021, 7), (1020, 1), (3000, 1), (3008, 1), (3007, 1), (3300, 61), (3200, 61), (3100, 61), (3006, 1), (3005, 1), (3004, 1), (3003, 1), (3002, 1), (3001, 1), (2000, 1), (2008, 1), (2007, 1), (2300, 61), (2200, 61), (2100, 61), (2006, 1), (2005, 1), (2004, 1), (2003, 1), (2002, 1), (2001, 1), (1001, 1), (1017, 1), (1016, 1), (1015, 1), (1014, 1), (1013, 1), (1012, 1), (1011, 1), (1010, 1)] s0C h) 1000 (13, 12, updV (updV (updV (updV (updV (fun j => defaultValue (tyX7 j)) 0 (.ref 1001)) 1 (.ref 2000)) 2 (.ref 3000)) 3 (.ref 1003)) 4 (.ref 1004))) O (xx_dt dd_X7_init 26 rfl) cl_X7 fz_X7_36 (xx_up_eq _ _ _) (by decide) (by omega) rfl rfl (fun _ => ⟨rfl, rfl⟩) xx_up_up ?_
  refine sw_aload_n O (xx_dt dd_X7_init 27 rfl) rfl ?_
  refine sw_new (k := 11) (n := 71) (r := 1005) O (xx_dt dd_X7_init 28 rfl) cl_X3 nw_X7_40 (ob_free (by decide) (by decide) (hf 1005 (by omega) (by omega) (by omega))) (by omega) ?_
  rw [xx_blk_up]
  refine sw_dup O (xx_dt dd_X7_init 29 rfl) rfl ?_
  refine sw_callIx (k := 5) (n := 41) (k' := 6) (n' := 30) (as := []) (st := [.ref 1005, .ref 1000]) (st2 := [.ref 1005, .ref 1000]) O (ct_X3_init hl (fun q h1 h2 h3 => cl_free h3 (by omega) (by simp only [inI, List.any_cons, List.any_nil, Bool.or_false, Bool.or_eq_false_iff, decide_eq_false_iff_not]; omega) (hf q (by omega) (by omega) (by omega))) (xx_up_eq _ _ _)) ce_X3_init ml_X7_42 ii_X3_init (xx_dt dd_X7_init 30 rfl) (by decide) rfl rfl (Nat.le_of_ble_eq_true rfl) rfl ?_
  rw [setI_call (by decide) (by decide) (by decide)]
  rw [show [(1005, 1), (1140, 6)] ++ [(1004, 1), (1130, 4), (1003, 1), (1120, 5), (1044, 1), (1043, 1), (1050, 65), (1042, 1), (1041, 1), (1040, 1), (1030, 7), (1021, 7), (1020, 1), (3000, 1), (3008, 1), (3007, 1), (3300, 61), (3200, 61), (3100, 61), (3006, 1), (3005, 1), (3004, 1), (3003, 1), (3002, 1), (3001, 1), (2000, 1), (2008, 1), (2007, 1), (2300, 61), (2200, 61), (2100, 61), (2006, 1), (2005, 1), (2004, 1), (2003, 1), (2002, 1), (2001, 1), (1001, 1), (1017, 1), (1016, 1), (1015, 1), (1014, 1), (1013, 1), (1012, 1), (1011, 1), (1010, 1)] = [(1005, 1), (1140, 6), (1004, 1), (1130, 4), (1003, 1), (1120, 5), (1044, 1), (1043, 1), (1050, 65), (1042, 1), (1041, 1), (1040, 1), (1030, 7), (1021, 7), (1020, 1), (3000, 1), (3008, 1), (3007, 1), (3300, 61), (3200, 61), (3100, 61), (3006, 1), (3005, 1), (3004, 1), (3003, 1), (3002, 1), (3001, 1), (2000, 1), (2008, 1), (2007, 1), (2300, 61), (2200, 61), (2100, 61), (2006, 1), (2005, 1), (2004, 1), (2003, 1), (2002, 1), (2001, 1), (1001, 1), (1017, 1), (1016, 1), (1015, 1), (1014, 1), (1013, 1), (1012, 1), (1011, 1), (1010, 1)] from rfl]
  refine sw_putF (h2 := xx_up (setI [(1005, 1), (1140, 6), (1004, 1), (1130, 4), (1003, 1), (1120, 5), (1044, 1), (1043, 1), (1050, 65), (1042, 1), (1041, 1), (1040, 1), (1030, 7), (1021, 7), (1020, 1), (3000, 1), (3008, 1), (3007, 1), (3300, 61), (3200, 61), (3100, 61), (3006, 1), (3005, 1), (3004, 1), (3003, 1), (3002, 1), (3001, 1), (2000, 1), (2008, 1), (2007, 1), (2300, 61), (2200, 61), (2100, 61), (2006, 1), (2005, 1), (2004, 1), (2003, 1), (2002, 1), (2001, 1), (1001, 1), (1017, 1), (1016, 1), (1015, 1), (1014, 1), (1013, 1), (1012, 1), (1011, 1), (1010, 1)] s0C h) 1000 (13, 12, updV (updV (updV (updV (updV (updV (fun j => defaultValue (tyX7 j)) 0 (.ref 1001)) 1 (.ref 2000)) 2 (.ref 3000)) 3 (.ref 1003)) 4 (.ref 1004)) 5 (.ref 1005))) O (xx_dt dd_X7_init 31 rfl) cl_X7 fz_X7_43 (xx_up_eq _ _ _) (by decide) (by omega) rfl rfl (fun _ => ⟨rfl, rfl⟩) xx_up_up ?_
  refine sw_aload_n O (xx_dt dd_X7_init 32 rfl) rfl ?_
  refine sw_new (k := 4) (n := 36) (r := 1006) O (xx_dt dd_X7_init 33 rfl) cl_X5 nw_X7_47 (ob_free (by decide) (by decide) (hf 1006 (by omega) (by omega) (by omega))) (by omega) ?_
  rw [xx_blk_up]
  refine sw_dup O (xx_dt dd_X7_init 34 rfl) rfl ?_
  refine sw_callIx (k := 0) (n := 0) (k' := 4) (n' := 36) (as := []) (st := [.ref 1006, .ref 1000]) (st2 := [.ref 1006, .ref 1000]) O (ct_X5_init hl (fun q h1 h2 h3 => cl_free h3 (by omega) (by simp only [inI, List.any_cons, List.any_nil, Bool.or_false, Bool.or_eq_false_iff, decide_eq_false_iff_not]; omega) (hf q (by omega) (by omega) (by omega))) (xx_up_eq _ _ _)) ce_X5_init ml_X7_49 ii_X5_init (xx_dt dd_X7_init 35 rfl) (by decide) rfl rfl (Nat.le_of_ble_eq_true rfl) rfl ?_
  rw [setI_call (by decide) (by decide) (by decide)]
  rw [show [(1006, 1), (1153, 1), (1152, 1), (1151, 1), (1150, 1)] ++ [(1005, 1), (1140, 6), (1004, 1), (1130, 4), (1003, 1), (1120, 5), (1044, 1), (1043, 1), (1050, 65), (1042, 1), (1041, 1), (1040, 1), (1030, 7), (1021, 7), (1020, 1), (3000, 1), (3008, 1), (3007, 1), (3300, 61), (3200, 61), (3100, 61), (3006, 1), (3005, 1), (3004, 1), (3003, 1), (3002, 1), (3001, 1), (2000, 1), (2008, 1), (2007, 1), (2300, 61), (2200, 61), (2100, 61), (2006, 1), (2005, 1), (2004, 1), (2003, 1), (2002, 1), (2001, 1), (1001, 1), (1017, 1), (1016, 1), (1015, 1), (1014, 1), (1013, 1), (1012, 1), (1011, 1), (1010, 1)] = [(1006, 1), (1153, 1), (1152, 1), (1151, 1), (1150, 1), (1005, 1), (1140, 6), (1004, 1), (1130, 4), (1003, 1), (1120, 5), (1044, 1), (1043, 1), (1050, 65), (1042, 1), (1041, 1), (1040, 1), (1030, 7), (1021, 7), (1020, 1), (3000, 1), (3008, 1), (3007, 1), (3300, 61), (3200, 61), (3100, 61), (3006, 1), (3005, 1), (3004, 1), (3003, 1), (3002, 1), (3001, 1), (2000, 1), (2008, 1), (2007, 1), (2300, 61), (2200, 61), (2100, 61), (2006, 1), (2005, 1), (2004, 1), (2003, 1), (2002, 1), (2001, 1), (1001, 1), (1017, 1), (1016, 1), (1015, 1), (1014, 1), (1013, 1), (1012, 1), (1011, 1), (1010, 1)] from rfl]
  refine sw_putF (h2 := xx_up (setI [(1006, 1), (1153, 1), (1152, 1), (1151, 1), (1150, 1), (1005, 1), (1140, 6), (1004, 1), (1130, 4), (1003, 1), (1120, 5), (1044, 1), (1043, 1), (1050, 65), (1042, 1), (1041, 1), (1040, 1), (1030, 7), (1021, 7), (1020, 1), (3000, 1), (3008, 1), (3007, 1), (3300, 61), (3200, 61), (3100, 61), (3006, 1), (3005, 1), (3004, 1), (3003, 1), (3002, 1), (3001, 1), (2000, 1), (2008, 1), (2007, 1), (2300, 61), (2200, 61), (2100, 61), (2006, 1), (2005, 1), (2004, 1), (2003, 1), (2002, 1), (2001, 1), (1001, 1), (1017, 1), (1016, 1), (1015, 1), (1014, 1), (1013, 1), (1012, 1), (1011, 1), (1010, 1)] s0C h) 1000 (13, 12, updV (updV (updV (updV (updV (updV (updV (fun j => defaultValue (tyX7 j)) 0 (.ref 1001)) 1 (.ref 2000)) 2 (.ref 3000)) 3 (.ref 1003)) 4 (.ref 1004)) 5 (.ref 1005)) 6 (.ref 1006))) O (xx_dt dd_X7_init 36 rfl) cl_X7 fz_X7_50 (xx_up_eq _ _ _) (by decide) (by omega) rfl rfl (fun _ => ⟨rfl, rfl⟩) xx_up_up ?_
  refine sw_aload_n O (xx_dt dd_X7_init 37 rfl) rfl ?_
  refine sw_iconst (x := 0) O (xx_dt dd_X7_init 38 rfl) (by decide) ?_
  refine sw_put (h2 := xx_up (setI [(1006, 1), (1153, 1), (1152, 1), (1151, 1), (1150, 1), (1005, 1), (1140, 6), (1004, 1), (1130, 4), (1003, 1), (1120, 5), (1044, 1), (1043, 1), (1050, 65), (1042, 1), (1041, 1), (1040, 1), (1030, 7), (1021, 7), (1020, 1), (3000, 1), (3008, 1), (3007, 1), (3300, 61), (3200, 61), (3100, 61), (3006, 1), (3005, 1), (3004, 1), (3003, 1), (3002, 1), (3001, 1), (2000, 1), (2008, 1), (2007, 1), (2300, 61), (2200, 61), (2100, 61), (2006, 1), (2005, 1), (2004, 1), (2003, 1), (2002, 1), (2001, 1), (1001, 1), (1017, 1), (1016, 1), (1015, 1), (1014, 1), (1013, 1), (1012, 1), (1011, 1), (1010, 1)] s0C h) 1000 (13, 12, updV (updV (updV (updV (updV (updV (updV (updV (fun j => defaultValue (tyX7 j)) 0 (.ref 1001)) 1 (.ref 2000)) 2 (.ref 3000)) 3 (.ref 1003)) 4 (.ref 1004)) 5 (.ref 1005)) 6 (.ref 1006)) 7 (.int 0))) O (xx_dt dd_X7_init 39 rfl) cl_X7 fl_X7_54 (xx_up_eq _ _ _) (by decide) (by omega) rfl (fun _ => ⟨rfl, rfl⟩) xx_up_up ?_
  refine sw_aload_n O (xx_dt dd_X7_init 40 rfl) rfl ?_
  refine sw_bipush (x := 10) O (xx_dt dd_X7_init 41 rfl) (by decide) ?_
  refine sw_put (h2 := xx_up (setI [(1006, 1), (1153, 1), (1152, 1), (1151, 1), (1150, 1), (1005, 1), (1140, 6), (1004, 1), (1130, 4), (1003, 1), (1120, 5), (1044, 1), (1043, 1), (1050, 65), (1042, 1), (1041, 1), (1040, 1), (1030, 7), (1021, 7), (1020, 1), (3000, 1), (3008, 1), (3007, 1), (3300, 61), (3200, 61), (3100, 61), (3006, 1), (3005, 1), (3004, 1), (3003, 1), (3002, 1), (3001, 1), (2000, 1), (2008, 1), (2007, 1), (2300, 61), (2200, 61), (2100, 61), (2006, 1), (2005, 1), (2004, 1), (2003, 1), (2002, 1), (2001, 1), (1001, 1), (1017, 1), (1016, 1), (1015, 1), (1014, 1), (1013, 1), (1012, 1), (1011, 1), (1010, 1)] s0C h) 1000 (13, 12, updV (updV (updV (updV (updV (updV (updV (updV (updV (fun j => defaultValue (tyX7 j)) 0 (.ref 1001)) 1 (.ref 2000)) 2 (.ref 3000)) 3 (.ref 1003)) 4 (.ref 1004)) 5 (.ref 1005)) 6 (.ref 1006)) 7 (.int 0)) 8 (.int 10))) O (xx_dt dd_X7_init 42 rfl) cl_X7 fl_X7_58 (xx_up_eq _ _ _) (by decide) (by omega) rfl (fun _ => ⟨rfl, rfl⟩) xx_up_up ?_
  refine sw_alter (r := 1000) (t := 13) (N := 12) (F2 := fun k => match k with | 0 => .ref (1001) | 1 => .ref (2000) | 2 => .ref (3000) | 3 => .ref (1003) | 4 => .ref (1004) | 5 => .ref (1005) | 6 => .ref (1006) | 7 => .int (s0C 1000 7) | 8 => .int (s0C 1000 8) | 9 => .int (s0C 1000 9) | 10 => .int (s0C 1000 10) | 11 => .int (s0C 1000 11) | _ => .null) (xx_up_eq _ _ _) (fun j hj => ?_) ?_
  · match j, hj with
    | 0, _ => rfl
    | 1, _ => rfl
    | 2, _ => rfl
    | 3, _ => rfl
    | 4, _ => rfl
    | 5, _ => rfl
    | 6, _ => rfl
    | 7, _ => rfl
    | 8, _ => rfl
    | 9, _ => rfl
    | 10, _ => rfl
    | 11, _ => rfl
  rw [xx_up_up, ob_done (σ' := s0C) rfl (fun _ _ _ => rfl)]
  rw [show [(1000, 1), (1006, 1), (1153, 1), (1152, 1), (1151, 1), (1150, 1), (1005, 1), (1140, 6), (1004, 1), (1130, 4), (1003, 1), (1120, 5), (1044, 1), (1043, 1), (1050, 65), (1042, 1), (1041, 1), (1040, 1), (1030, 7), (1021, 7), (1020, 1), (3000, 1), (3008, 1), (3007, 1), (3300, 61), (3200, 61), (3100, 61), (3006, 1), (3005, 1), (3004, 1), (3003, 1), (3002, 1), (3001, 1), (2000, 1), (2008, 1), (2007, 1), (2300, 61), (2200, 61), (2100, 61), (2006, 1), (2005, 1), (2004, 1), (2003, 1), (2002, 1), (2001, 1), (1001, 1), (1017, 1), (1016, 1), (1015, 1), (1014, 1), (1013, 1), (1012, 1), (1011, 1), (1010, 1)] = ivC from rfl, ivC_all hf]
  exact sw_ret O (xx_dt dd_X7_init 43 rfl) rfl (by rw [hQ]; exact ⟨rfl, rfl⟩)
end
section
/-! ===== BEGIN a method of a class above, found by the receiver, that may throw (follows va_callVU, va_runU of this kit) ===== -/
section
variable {p : Program} {l : Launch} {e : Env} {R : Room} {s : State} {m : MethodId} {args : Array Value} {below : List Frame} {meth : Method} {c : Code} {H : Heap} {locs : List Loc} {cells slots : Nat}
theorem vx_callVU {T : State} {locs : List Loc} {cells slots : Nat} (X : Stand p l e R s m args below meth c T locs cells slots) (hexec : p.tables.exec = Jvm.exec) {own C owner : String} {index : Nat} {x y : MethodName} {bytes : ByteArray} {maxL : Nat} {ret : Option FieldType}
    (hown : s.vm.findClass own = some m.cls) (hlink : (Cond.methodLink own index x).before args s = true) (hsame : (Cond.sameMethod x.cls owner x.name x.desc).before args s = true)
    (hd0 : va_Decl s ⟨owner, x.name, x.desc⟩) (howner : owner ≠ "java/lang/invoke/MethodHandle" ∧ owner ≠ "java/lang/invoke/VarHandle")
    (hsel : (Cond.selects C x y).before args s = true) (hinst : (Cond.instanceMethod y).before args s = true) (hcode : (Cond.code y bytes maxL ret).before args s = true)
    {W : Nat} {Pre : Pt → Array Value → Prop} {Post : Pt → Array Value → Option Value → Pt → Prop} {PostX : Pt → Array Value → Addr → Pt → Prop} (hK : vx_Back l R p e below s args y 3 W Pre Post PostX)
    {b : Addr} {cellB : Cell} (hcell : T.heap[b]? = some cellB) (hobj : cellB.vm.isStatics = false) (hcls : s.vm.findClass C = some cellB.cls)
    {g : JFrame} (hg : g.method = m) (hsize : g.locals.size = c.maxLocals) {argsL rest : List Value} (hlen : ∀ sig, parseMethodDescriptor x.desc = some sig → argsL.length = sig.parameters.length)
    (hstack : g.stack = argsL.reverse ++ .ref b :: rest) (hW : 2 * g.monitorRoom + (rest.map fun v => v.category).sum ≤ W) (hdg : decode c.code g.pc = .ok (.invokevirtual index, 3))
    (hpre : ∀ vm₁, s.WarmedH vm₁ → Pre ⟨T.setVm vm₁, locs, cells, slots⟩ (Value.ref b :: argsL).toArray) :
    (∃ (v : Option Value) (vm₁ : Vm) (B : Pt), s.WarmedH vm₁ ∧ Stand p l e R s m args below meth c B.U B.locs B.cells B.slots ∧ Post ⟨T.setVm vm₁, locs, cells, slots⟩ (Value.ref b :: argsL).toArray v B ∧
      ∀ target, Steps p.tables e below (B.U.setTop { g with pc := g.pc + 3, stack := v.toList ++ rest }) target → Steps p.tables e below (T.setTop g) target) ∨
    (∃ (q : Addr) (vm₁ : Vm) (B : Pt), s.WarmedH vm₁ ∧ Stand p l e R s m args below meth c B.U B.locs B.cells B.slots ∧ PostX ⟨T.setVm vm₁, locs, cells, slots⟩ (Value.ref b :: argsL).toArray q B ∧
      Steps p.tables e below (T.setTop g) ((B.U.setTop { g with stack := rest }).pushFrame (.throwing q))) := by
  obtain ⟨r0, r, hn, hrm, hstR, hsigR⟩ := hd0
  obtain ⟨cn, ck, r1, hcn, hck, hni, hf, hn1⟩ := Cond.sameMethod_found hsame
  cases hn.symm.trans hn1
  obtain ⟨mk, methM, hnamed, hmethM, -, habM⟩ := Cond.instanceMethod_spec hinst
  obtain ⟨c2, r2, m2, q1, q2, q3, q4, kP, hkP, hkPi⟩ := Cond.selects_spec hsel
  cases hcls.symm.trans q1
  cases hf.symm.trans q2
  cases hnamed.symm.trans q3
  have hselP : selectMethod e.platform s.vm cellB.cls r0 = .method mk := by rw [Launch.admits_selectMethod X.admits]; exact q4
  obtain ⟨vm₁, X₁, hstep₁⟩ := X.invokevirtualUp hexec hown hlink hsame howner hn hrm hstR (a := b) (cell := cellB) hcell
    (fun z h => by rw [h] at hobj; cases hobj) hselP hmethM habM hkP hkPi (g := g) hg (argsL := argsL) (rest := rest) (hlen _ hsigR) hstack hdg
  rcases hK m meth c ⟨T.setVm vm₁, locs, cells, slots⟩ { g with stack := rest } (.invokevirtual index) mk (Value.ref b :: argsL).toArray X₁ hg hsize hdg hW (X₁.named hnamed) (hpre vm₁ X₁.warmed) with ⟨v, B, X', hpost, hsteps⟩ | ⟨q, B, X', hpost, hsteps⟩
  · exact Or.inl ⟨v, vm₁, B, X₁.warmed, X', hpost, fun target h => hstep₁ _ fun acts => by rw [doInvoke_state]; exact hsteps.trans h⟩
  · exact Or.inr ⟨q, vm₁, B, X₁.warmed, X', hpost, hstep₁ _ fun acts => by rw [doInvoke_state]; exact hsteps⟩
theorem vx_runU {x y : MethodName} {bytes cc : ByteArray} {maxL nL mc ms n index : Nat} {ret : Option FieldType} {ws : List Cond} {rm : Room} {Pc : Array Value → State → Prop} {Qc : Array Value → State → Outcome → State → Prop} {XC : String → State → State → Prop} {free : Addr → Prop} {Ts : List Cond} {own C owner : String} {b : Addr} {As rest : List Value} {g : JFrame}
    (S : CallFix p m c cc nL s args Ts own) (hM : vx_Met l y ws rm Pc Qc XC mc ms free) (cw : va_CU R s args own C owner index x y bytes maxL ret ws rm mc ms n) (hp : PreV s H C b Pc As)
    (hg : g.method = m) (hn : As.length = n) (hsize : g.locals.size = nL) (hstack : g.stack = As.reverse ++ .ref b :: rest) (hW : 2 * g.monitorRoom + (rest.map fun v => v.category).sum ≤ 8) (hdg : decode cc g.pc = .ok (.invokevirtual index, 3)) (hf : cells + mc ≤ R.cells ∧ slots + ms ≤ R.slots) :
    vx_Run p l e R s m args below meth c H locs cells slots mc ms g rest (Qc (Value.ref b :: As).toArray) XC free := by
  obtain ⟨hrc, hrs, hfr, hlo, hws, hcw⟩ := cw.back
  have hini := cw.init
  have hK : vx_Back l R p e below s args y 3 8 (PreOf R mc ms Pc) (PostOf Qc mc ms free) (vx_Post XC mc ms free) := vx_back (bytes := bytes) (maxL := maxL) (ret := ret) hM hp.1 hrc hrs hfr hlo hws hcw (fun a' U hW => word_at hW (Or.inl (by first | rfl | simp [Cond.onTables, Cond.keeps, Cond.steady])) hini)
  obtain ⟨hx, hb, hml, ho, -⟩ := S
  obtain ⟨-, ⟨cellB, hcB, hoB, hclB⟩, hPc⟩ := hp
  intro T hT X
  rcases vx_callVU X hx (C := C) (owner := owner) (bytes := bytes) (maxL := maxL) (ret := ret) ho cw.link cw.same cw.decl cw.notMH cw.sel cw.inst cw.code hK (by rw [hT]; exact hcB) hoB hclB hg (hsize.trans hml.symm) (argsL := As) (rest := rest) (fun sig h => hn.trans (cw.len sig h)) hstack hW (by rw [hb]; exact hdg)
    (fun vm₁ hW₁ => ⟨hf.1, hf.2, hPc (T.setVm vm₁) hT hW₁⟩) with ⟨v, vm₁, ⟨U', l2, c2, s2⟩, hW₁, X', ⟨g', mk, t, L, e1, e2, hq, h1, hL, h2, h3⟩, st⟩ | ⟨q, vm₁, ⟨U', l2, c2, s2⟩, hW₁, X', ⟨g', mk, t, L, E, ce, e1, e2, hq, hce, hcv, hcl, h1, hL, h2, h3⟩, st⟩
  · dsimp only [Pt.U, Pt.locs, Pt.cells, Pt.slots] at X' e1 e2 h1 h2 h3 st
    subst h1; subst h2; subst h3
    exact Or.inl ⟨v, (T.setVm vm₁).calling g' mk (Value.ref b :: As).toArray, t, U', L, hT, X', hL, e1, e2, hq, st⟩
  · dsimp only [Pt.U, Pt.locs, Pt.cells, Pt.slots] at X' e1 e2 h1 h2 h3 st hcl
    subst h1; subst h2; subst h3
    exact Or.inr ⟨q, (T.setVm vm₁).calling g' mk (Value.ref b :: As).toArray, t, U', L, E, ce, hT, X', hL, e1, e2, hq, hce, hcv, vx_cls hW₁ hcl, st⟩
end
/-! ===== END ===== -/
/-! ===== BEGIN super.m(..) that may throw (follows va_callSU, va_runSU) ===== -/
section
variable {p : Program} {l : Launch} {e : Env} {R : Room} {s : State} {m : MethodId} {args : Array Value} {below : List Frame} {meth : Method} {c : Code} {H : Heap} {locs : List Loc} {cells slots : Nat}
theorem vx_callSU {T : State} {locs : List Loc} {cells slots : Nat} (X : Stand p l e R s m args below meth c T locs cells slots) (hexec : p.tables.exec = Jvm.exec) {own : String} {index : Nat} {y : MethodName} {bytes : ByteArray} {maxL : Nat} {ret : Option FieldType}
    (hown : s.vm.findClass own = some m.cls) (hlink : (Cond.methodLink own index y).before args s = true) (hsame : (Cond.sameMethod y.cls y.cls y.name y.desc).before args s = true) (hsup : (Cond.superclass own y.cls).before args s = true)
    (hinst : (Cond.instanceMethod y).before args s = true) (hcode : (Cond.code y bytes maxL ret).before args s = true) (hno : y.name ≠ "<init>")
    {W : Nat} {Pre : Pt → Array Value → Prop} {Post : Pt → Array Value → Option Value → Pt → Prop} {PostX : Pt → Array Value → Addr → Pt → Prop} (hK : vx_Back l R p e below s args y 3 W Pre Post PostX)
    {b : Addr} {cellB : Cell} {kB : Class} (hcell : T.heap[b]? = some cellB) (hobj : cellB.vm.isStatics = false) (hkB : s.vm.classes[cellB.cls]? = some kB)
    {g : JFrame} (hg : g.method = m) (hsize : g.locals.size = c.maxLocals) {argsL rest : List Value} (hlen : ∀ sig, parseMethodDescriptor y.desc = some sig → argsL.length = sig.parameters.length)
    (hstack : g.stack = argsL.reverse ++ .ref b :: rest) (hW : 2 * g.monitorRoom + (rest.map fun v => v.category).sum ≤ W) (hdg : decode c.code g.pc = .ok (.invokespecial index, 3))
    (hpre : ∀ vm₁, s.WarmedH vm₁ → Pre ⟨T.setVm vm₁, locs, cells, slots⟩ (Value.ref b :: argsL).toArray) :
    (∃ (v : Option Value) (vm₁ : Vm) (B : Pt), s.WarmedH vm₁ ∧ Stand p l e R s m args below meth c B.U B.locs B.cells B.slots ∧ Post ⟨T.setVm vm₁, locs, cells, slots⟩ (Value.ref b :: argsL).toArray v B ∧
      ∀ target, Steps p.tables e below (B.U.setTop { g with pc := g.pc + 3, stack := v.toList ++ rest }) target → Steps p.tables e below (T.setTop g) target) ∨
    (∃ (q : Addr) (vm₁ : Vm) (B : Pt), s.WarmedH vm₁ ∧ Stand p l e R s m args below meth c B.U B.locs B.cells B.slots ∧ PostX ⟨T.setVm vm₁, locs, cells, slots⟩ (Value.ref b :: argsL).toArray q B ∧
      Steps p.tables e below (T.setTop g) ((B.U.setTop { g with stack := rest }).pushFrame (.throwing q))) := by
  obtain ⟨mk, methM, hnamed, hmethM, hstM, habM⟩ := Cond.instanceMethod_spec hinst
  obtain ⟨methM', cM, hmethM', -, -, -, -, -, -, hsigM⟩ := Cond.code_spec hnamed hcode
  cases hmethM.symm.trans hmethM'
  obtain ⟨ps, dk, kp, hps, hdk, hkp, hsuper, -, -, hnid⟩ := Cond.superclass_spec hown hsup
  have hn : s.methodNamed? ⟨y.cls, y.name, y.desc⟩ = some mk := hnamed
  have hpm : ps = mk.cls := Option.some.inj (hps.symm.trans (findClass_of_methodNamed hnamed))
  have hsub : s.vm.isSubclass ps mk.cls = true := by rw [hpm]; simp [Vm.isSubclass, Vm.isSubclassAux]
  obtain ⟨vm₁, X₁, hstep₁⟩ := X.invokespecialUp hexec hown hlink hsame hn hmethM hstM habM hno hdk hnid hps hsuper hsub (a := b) (cell := cellB) hcell
    (fun z h => by rw [h] at hobj; cases hobj) hkB (g := g) hg (argsL := argsL) (rest := rest) (hlen _ hsigM) hstack hdg
  rcases hK m meth c ⟨T.setVm vm₁, locs, cells, slots⟩ { g with stack := rest } (.invokespecial index) mk (Value.ref b :: argsL).toArray X₁ hg hsize hdg hW (X₁.named hnamed) (hpre vm₁ X₁.warmed) with ⟨v, B, X', hpost, hsteps⟩ | ⟨q, B, X', hpost, hsteps⟩
  · exact Or.inl ⟨v, vm₁, B, X₁.warmed, X', hpost, fun target h => hstep₁ _ (by rw [doInvoke_state]; exact hsteps.trans h)⟩
  · exact Or.inr ⟨q, vm₁, B, X₁.warmed, X', hpost, hstep₁ _ (by rw [doInvoke_state]; exact hsteps)⟩
theorem vx_runSU {y : MethodName} {bytes cc : ByteArray} {maxL nL mc ms n index : Nat} {ret : Option FieldType} {ws : List Cond} {rm : Room} {Pc : Array Value → State → Prop} {Qc : Array Value → State → Outcome → State → Prop} {XC : String → State → State → Prop} {free : Addr → Prop} {Ts : List Cond} {own C : String} {cC : ClassId} {b : Addr} {As rest : List Value} {g : JFrame}
    (hat : ClassAt s C cC) (S : CallFix p m c cc nL s args Ts own) (hM : vx_Met l y ws rm Pc Qc XC mc ms free) (cw : va_CS R s args own index y bytes maxL ret ws rm mc ms n) (hp : PreV s H C b Pc As)
    (hg : g.method = m) (hn : As.length = n) (hsize : g.locals.size = nL) (hstack : g.stack = As.reverse ++ .ref b :: rest) (hW : 2 * g.monitorRoom + (rest.map fun v => v.category).sum ≤ 8) (hdg : decode cc g.pc = .ok (.invokespecial index, 3)) (hf : cells + mc ≤ R.cells ∧ slots + ms ≤ R.slots) :
    vx_Run p l e R s m args below meth c H locs cells slots mc ms g rest (Qc (Value.ref b :: As).toArray) XC free := by
  obtain ⟨⟨hrc, hrs, hfr, hlo, hws, hcw⟩, hl1, hl2, hl3, hl4, hini, hcode, hno, hlen⟩ := cw
  have hK : vx_Back l R p e below s args y 3 8 (PreOf R mc ms Pc) (PostOf Qc mc ms free) (vx_Post XC mc ms free) := vx_back (bytes := bytes) (maxL := maxL) (ret := ret) hM hp.1 hrc hrs hfr hlo hws hcw (fun a' U hW => word_at hW (Or.inl (by first | rfl | simp [Cond.onTables, Cond.keeps, Cond.steady])) hini)
  obtain ⟨hx, hb, hml, ho, -⟩ := S
  obtain ⟨-, ⟨cellB, hcB, hoB, hclB⟩, hPc⟩ := hp
  obtain ⟨hfc, kB, hkB, -⟩ := hat
  cases hfc.symm.trans hclB
  intro T hT X
  rcases vx_callSU X hx (bytes := bytes) (maxL := maxL) (ret := ret) ho hl1 hl2 hl3 hl4 hcode hno hK (by rw [hT]; exact hcB) hoB hkB hg (hsize.trans hml.symm) (argsL := As) (rest := rest) (fun sig h => hn.trans (hlen sig h)) hstack hW (by rw [hb]; exact hdg)
    (fun vm₁ hW₁ => ⟨hf.1, hf.2, hPc (T.setVm vm₁) hT hW₁⟩) with ⟨v, vm₁, ⟨U', l2, c2, s2⟩, hW₁, X', ⟨g', mk, t, L, e1, e2, hq, h1, hL, h2, h3⟩, st⟩ | ⟨q, vm₁, ⟨U', l2, c2, s2⟩, hW₁, X', ⟨g', mk, t, L, E, ce, e1, e2, hq, hce, hcv, hcl, h1, hL, h2, h3⟩, st⟩
  · dsimp only [Pt.U, Pt.locs, Pt.cells, Pt.slots] at X' e1 e2 h1 h2 h3 st
    subst h1; subst h2; subst h3
    exact Or.inl ⟨v, (T.setVm vm₁).calling g' mk (Value.ref b :: As).toArray, t, U', L, hT, X', hL, e1, e2, hq, st⟩
  · dsimp only [Pt.U, Pt.locs, Pt.cells, Pt.slots] at X' e1 e2 h1 h2 h3 st hcl
    subst h1; subst h2; subst h3
    exact Or.inr ⟨q, (T.setVm vm₁).calling g' mk (Value.ref b :: As).toArray, t, U', L, E, ce, hT, X', hL, e1, e2, hq, hce, hcv, vx_cls hW₁ hcl, st⟩
end
/-! ===== END ===== -/
/-! ===== calls of what a class above declares; copies of bytes ===== -/
theorem xx_selP {C : String} {n : Nat} {y : MethodName} {args : Array Value} {s : State} (hins : (Cond.instantiable C n).before args s = true) (hsame : (Cond.sameMethod y.cls y.cls y.name y.desc).before args s = true) (hpriv : (Cond.privateMethod y).before args s = true) (hinst : (Cond.instanceMethod y).before args s = true) :
    (Cond.selects C y y).before args s = true := by
  obtain ⟨c, k, hc, hk, -, -, -, -⟩ := Cond.instantiable_spec hins
  obtain ⟨cn, ck, r, hcn, hck, hni, hfound, hn1⟩ := Cond.sameMethod_found hsame
  obtain ⟨mk, methM, hnamed, hmethM, -, -⟩ := Cond.instanceMethod_spec hinst
  have e9 : mk = r := Option.some.inj (hnamed.symm.trans (show s.methodNamed? y = some r from hn1))
  subst e9
  have hcls : mk.cls = cn := Option.some.inj ((findClass_of_methodNamed hnamed).symm.trans hcn)
  have hsel : selectMethod {} s.vm c mk = .method mk := selectMethod_private hmethM (Cond.privateMethod_at hpriv mk methM hnamed hmethM)
  simp only [Cond.before, Cond.holds, Cond.value, hc, hfound, hnamed, hsel, hcls, hck]
  simp; exact hni
section
variable {Y : XY} {M : XM} {l : Launch} {d k n : Nat} {h : XH} {pc : Nat} {ls st : List Value} {ρ : Nat → Nat} {ow : Nat → Option Nat} {H : Heap} {locs : List Loc} {cells slots : Nat} {lsA : Array Slot}
/-- how a method is found from an object's class -/
def xx_slc (C : String) (y : MethodName) : Prop := Cond.instanceMethod y ∈ xx_gws ∧ (Cond.selects C y y ∈ xx_gws ∨ ∃ n, Cond.instantiable C n ∈ xx_gws ∧ Cond.sameMethod y.cls y.cls y.name y.desc ∈ xx_gws ∧ Cond.privateMethod y ∈ xx_nws)
/-- a method that a class above declares (and the object's class doesn't) -/
theorem sw_callWx {M' : XM} {d' k' n' idx ci N b : Nat} {f : Nat → Value} {C : String} {T : u_T} {ty : Nat → FieldType} {as stk : List Value} {v : Option Value} {h2 : XH} (O : xx_O Y M l d) (hM : XEx l M' d' k' n' (.ref b :: as) h v h2) (E : xx_ce M') (hl : Cond.methodLink M.2.2.2.2.1 idx M'.1 ∈ xx_gws) (hsel : xx_slc C M'.1)
    (K : xx_cl ci C T N ty) (hb : h b = some (ci, N, f)) (hd : decode M.2.1 pc = .ok (.invokevirtual idx, 3)) (hdd : d' + 1 ≤ d) (hn : as.length = M'.2.2.2.2.2) (hs : stk = as.reverse ++ .ref b :: st) (hc : (st.map fun v => v.category).sum ≤ 8)
    {st2 : List Value} (h2s : v.toList ++ st = st2) (kk : SW Y k n h2 (pc + 3) ls st2) : SW Y (k + k') (n + n') h pc ls stk := by
  subst hs
  intro ρ ow H locs cells slots lsA r9
  obtain ⟨⟨cell, q1, q2, q3, q4⟩, hS, hfc, -⟩ := r9.obj O K hb
  have hst : ∀ v ∈ st, xx_in h v := fun v hv => r9.stk v (List.mem_append_right _ (List.mem_cons_of_mem _ hv))
  have has : ∀ v ∈ (Value.ref b :: as), xx_in h v := fun v hv => by
    rcases List.mem_cons.mp hv with rfl | hv
    · exact r9.stk _ (List.mem_append_right _ List.mem_cons_self)
    · exact r9.stk v (List.mem_append_left _ (List.mem_reverse.mpr hv))
  have S : CallFix (xt_p Y.1) (xt_m Y.1) (xt_c Y.1) M.2.1 (xt_c Y.1).maxLocals (xt_s Y.1) (xt_a Y.1) xx_gws M.2.2.2.2.1 := ⟨O.1, O.2.1, rfl, O.2.2.2.2.2.2.1, O.2.2.2.2.2.1⟩
  have hM' := hM (xy_D Y) ρ ow
  rw [← O.2.2.2.2.2.2.2.2.2.2.2.1] at hM'
  have hp : PreV (xt_s Y.1) H C (ρ b) (xx_Pc (xy_D Y) ρ ow h (.ref b :: as)) (as.map (xx_v ρ)) := ⟨xx_blind, ⟨cell, q1, q3.1, by rw [q2]; exact hfc⟩, fun U hU hW => ⟨rfl, xx_K.moved hW.alike O.2.2.2.2.2.2.2.1, xx_N.warm hW O.2.2.2.2.2.2.2.2.1, by rw [hU]; exact r9.1, has⟩⟩
  have hw := O.2.2.2.2.2.1
  have hse : (Cond.selects C M'.1 M'.1).before (xt_a Y.1) (xt_s Y.1) = true := by
    rcases hsel.2 with w | ⟨n9, w1, w2, w3⟩
    · exact hw _ w
    · exact xx_selP (hw _ w1) (hw _ w2) (va_Nw.use rfl (O.2.2.2.2.2.2.2.2.1.1 _ w3)) (hw _ hsel.1)
  refine xx_run (Q' := fun o g => o = .inl v ∧ g = h2) O r9 hst (a := (Value.ref (ρ b) :: as.map (xx_v ρ)).toArray) ?_ (fun v' h' q _ => by obtain ⟨e1, rfl⟩ := q; cases e1; rw [h2s]; exact kk) (fun E h' q => by obtain ⟨e1, -⟩ := q; cases e1)
  exact vx_runV S hM' ⟨xx_callB O E hdd hl, hw _ hsel.1, hse⟩ hp rfl (by rw [List.length_map]; exact hn) r9.L.1 xx_stk (lv_room (by rw [xx_cats]; exact hc)) hd (by have := r9.2.2.2.1; have := r9.2.2.2.2.1; omega)
/-- super.m(..) -/
def xx_su (own : String) (idx : Nat) (y : MethodName) : Prop := Cond.methodLink own idx y ∈ xx_gws ∧ Cond.sameMethod y.cls y.cls y.name y.desc ∈ xx_gws ∧ Cond.superclass own y.cls ∈ xx_gws ∧ Cond.instanceMethod y ∈ xx_gws ∧ y.name ≠ "<init>"
theorem sw_callSUx {M' : XM} {d' k' n' idx ci N b : Nat} {f : Nat → Value} {C : String} {T : u_T} {ty : Nat → FieldType} {as stk : List Value} {v : Option Value} {h2 : XH} (O : xx_O Y M l d) (hM : XEx l M' d' k' n' (.ref b :: as) h v h2) (E : xx_ce M') (hl : xx_su M.2.2.2.2.1 idx M'.1)
    (K : xx_cl ci C T N ty) (hb : h b = some (ci, N, f)) (hd : decode M.2.1 pc = .ok (.invokespecial idx, 3)) (hdd : d' + 1 ≤ d) (hn : as.length = M'.2.2.2.2.2) (hs : stk = as.reverse ++ .ref b :: st) (hc : (st.map fun v => v.category).sum ≤ 8)
    {st2 : List Value} (h2s : v.toList ++ st = st2) (kk : SW Y k n h2 (pc + 3) ls st2) : SW Y (k + k') (n + n') h pc ls stk := by
  subst hs
  intro ρ ow H locs cells slots lsA r9
  obtain ⟨⟨cell, q1, q2, q3, q4⟩, hS, hfc, kC, hkC, hkind⟩ := r9.obj O K hb
  have hst : ∀ v ∈ st, xx_in h v := fun v hv => r9.stk v (List.mem_append_right _ (List.mem_cons_of_mem _ hv))
  have has : ∀ v ∈ (Value.ref b :: as), xx_in h v := fun v hv => by
    rcases List.mem_cons.mp hv with rfl | hv
    · exact r9.stk _ (List.mem_append_right _ List.mem_cons_self)
    · exact r9.stk v (List.mem_append_left _ (List.mem_reverse.mpr hv))
  have S : CallFix (xt_p Y.1) (xt_m Y.1) (xt_c Y.1) M.2.1 (xt_c Y.1).maxLocals (xt_s Y.1) (xt_a Y.1) xx_gws M.2.2.2.2.1 := ⟨O.1, O.2.1, rfl, O.2.2.2.2.2.2.1, O.2.2.2.2.2.1⟩
  have hM' := hM (xy_D Y) ρ ow
  rw [← O.2.2.2.2.2.2.2.2.2.2.2.1] at hM'
  have hp : PreV (xt_s Y.1) H C (ρ b) (xx_Pc (xy_D Y) ρ ow h (.ref b :: as)) (as.map (xx_v ρ)) := ⟨xx_blind, ⟨cell, q1, q3.1, by rw [q2]; exact hfc⟩, fun U hU hW => ⟨rfl, xx_K.moved hW.alike O.2.2.2.2.2.2.2.1, xx_N.warm hW O.2.2.2.2.2.2.2.2.1, by rw [hU]; exact r9.1, has⟩⟩
  have hw := O.2.2.2.2.2.1
  have B := xx_callB (k' := k') (n' := n') O E hdd hl.1
  refine xx_run (Q' := fun o g => o = .inl v ∧ g = h2) O r9 hst (a := (Value.ref (ρ b) :: as.map (xx_v ρ)).toArray) ?_ (fun v' h' q _ => by obtain ⟨e1, rfl⟩ := q; cases e1; rw [h2s]; exact kk) (fun E h' q => by obtain ⟨e1, -⟩ := q; cases e1)
  obtain ⟨b1, b2, b3, b4, b5, b6, b7, b8, -, b9, b10⟩ := B
  exact vx_runSU ⟨hfc, kC, hkC, hkind⟩ S hM' ⟨⟨b1, b2, b3, b4, b5, b6⟩, b10, hw _ hl.2.1, hw _ hl.2.2.1, hw _ hl.2.2.2.1, b8, b7, hl.2.2.2.2, b9⟩ hp rfl (by rw [List.length_map]; exact hn) r9.L.1 xx_stk (lv_room (by rw [xx_cats]; exact hc)) hd (by have := r9.2.2.2.1; have := r9.2.2.2.2.1; omega)
/-- a method of a class above that the object's class overrides -/
def xx_ov (own C : String) (idx : Nat) (x y : MethodName) (b0 : ByteArray) (m0 : Nat) (r0 : Option FieldType) : Prop := Cond.methodLink own idx x ∈ xx_gws ∧ Cond.sameMethod x.cls x.cls x.name x.desc ∈ xx_gws ∧ Cond.instanceMethod x ∈ xx_gws ∧ Cond.code x b0 m0 r0 ∈ xx_gws ∧ Cond.selects C x y ∈ xx_gws ∧ Cond.instanceMethod y ∈ xx_gws ∧ (x.cls ≠ "java/lang/invoke/MethodHandle" ∧ x.cls ≠ "java/lang/invoke/VarHandle") ∧ x.desc = y.desc
theorem sw_callUx {x : MethodName} {b0 : ByteArray} {m0 : Nat} {r0 : Option FieldType} {M' : XM} {d' k' n' idx ci N b : Nat} {f : Nat → Value} {C : String} {T : u_T} {ty : Nat → FieldType} {as stk : List Value} {v : Option Value} {h2 : XH} (O : xx_O Y M l d) (hM : XEx l M' d' k' n' (.ref b :: as) h v h2) (E : xx_ce M') (hl : xx_ov M.2.2.2.2.1 C idx x M'.1 b0 m0 r0)
    (K : xx_cl ci C T N ty) (hb : h b = some (ci, N, f)) (hd : decode M.2.1 pc = .ok (.invokevirtual idx, 3)) (hdd : d' + 1 ≤ d) (hn : as.length = M'.2.2.2.2.2) (hs : stk = as.reverse ++ .ref b :: st) (hc : (st.map fun v => v.category).sum ≤ 8)
    {st2 : List Value} (h2s : v.toList ++ st = st2) (kk : SW Y k n h2 (pc + 3) ls st2) : SW Y (k + k') (n + n') h pc ls stk := by
  subst hs
  intro ρ ow H locs cells slots lsA r9
  obtain ⟨⟨cell, q1, q2, q3, q4⟩, hS, hfc, -⟩ := r9.obj O K hb
  have hst : ∀ v ∈ st, xx_in h v := fun v hv => r9.stk v (List.mem_append_right _ (List.mem_cons_of_mem _ hv))
  have has : ∀ v ∈ (Value.ref b :: as), xx_in h v := fun v hv => by
    rcases List.mem_cons.mp hv with rfl | hv
    · exact r9.stk _ (List.mem_append_right _ List.mem_cons_self)
    · exact r9.stk v (List.mem_append_left _ (List.mem_reverse.mpr hv))
  have S : CallFix (xt_p Y.1) (xt_m Y.1) (xt_c Y.1) M.2.1 (xt_c Y.1).maxLocals (xt_s Y.1) (xt_a Y.1) xx_gws M.2.2.2.2.1 := ⟨O.1, O.2.1, rfl, O.2.2.2.2.2.2.1, O.2.2.2.2.2.1⟩
  have hM' := hM (xy_D Y) ρ ow
  rw [← O.2.2.2.2.2.2.2.2.2.2.2.1] at hM'
  have hp : PreV (xt_s Y.1) H C (ρ b) (xx_Pc (xy_D Y) ρ ow h (.ref b :: as)) (as.map (xx_v ρ)) := ⟨xx_blind, ⟨cell, q1, q3.1, by rw [q2]; exact hfc⟩, fun U hU hW => ⟨rfl, xx_K.moved hW.alike O.2.2.2.2.2.2.2.1, xx_N.warm hW O.2.2.2.2.2.2.2.2.1, by rw [hU]; exact r9.1, has⟩⟩
  have hw := O.2.2.2.2.2.1
  have hR := O.2.2.2.2.2.2.2.2.2.2.2.2
  obtain ⟨l1, l2, l3, l4, l5, l6, l7, l8⟩ := hl
  have hlo := E.2.2.2.2
  refine xx_run (Q' := fun o g => o = .inl v ∧ g = h2) O r9 hst (a := (Value.ref (ρ b) :: as.map (xx_v ρ)).toArray) ?_ (fun v' h' q _ => by obtain ⟨e1, rfl⟩ := q; cases e1; rw [h2s]; exact kk) (fun E h' q => by obtain ⟨e1, -⟩ := q; cases e1)
  refine vx_runU (C := C) (owner := x.cls) (x := x) S hM' ⟨⟨rfl, rfl, ?_, ?_, xx_ws_at O E.1, List.mem_cons_self⟩, hw _ E.1, hw _ E.2.1, l7, fun sig q => E.par sig (by rw [← l8]; exact q), hw _ l1, hw _ l2, va_Decl.of (hw _ l3) (hw _ l4), hw _ l5, hw _ l6⟩ hp rfl (by rw [List.length_map]; exact hn) r9.L.1 xx_stk (lv_room (by rw [xx_cats]; exact hc)) hd (by have := r9.2.2.2.1; have := r9.2.2.2.2.1; omega)
  · exact Nat.le_trans hdd hR.1
  · refine Nat.le_trans ?_ hR.2.1
    show 8 + (M'.2.2.1 + 11) + 40 * d' ≤ 40 * d
    omega
theorem sw_copyB {idx N0 N1 r0 r1 : Nat} {f g : Nat → Value} {n9 : Int32} (O : xx_O Y M l d) (K : xx_ac M.2.2.2.2.1 idx) (hd : decode M.2.1 pc = .ok (.invokestatic idx, 3)) (hc0 : h r0 = some (102, N0, f)) (hc1 : h r1 = some (102, N1, g)) (h9 : 1000 ≤ r1) (h3 : ¬ n9 < 0) (h4 : n9.toNatClampNeg ≤ N0) (h5 : n9.toNatClampNeg ≤ N1)
    (hel : ∀ j, j < n9.toNatClampNeg → ∃ z : Int32, f j = .int z ∧ fits .byte (.int z) = true)
    (hdd : 1 ≤ d) (hw : (st.map fun v => v.category).sum + (nativeFrameWords "java/lang/System" "arraycopy" 5 + 11) ≤ 40) {h2' : XH} (he : xx_up h r1 (102, N1, fun j => if j < n9.toNatClampNeg then f j else g j) = h2') (kk : SW Y k n h2' (pc + 3) ls st) : SW Y k n h pc ls (.int n9 :: .int 0 :: .ref r1 :: .int 0 :: .ref r0 :: st) := by
  subst he
  intro ρ ow H locs cells slots lsA r9
  have nn : ∀ z : Int32, ¬ z < 0 → z.toInt = (z.toNatClampNeg : Int) := by
    intro z hz
    have hz0 : (0 : Int) ≤ z.toInt := by
      have := Int32.not_lt.mp hz
      simpa using Int32.le_iff_toInt_le.mp this
    show z.toInt = ((z.toInt.toNat : Nat) : Int)
    omega
  have hcat : ((st.map (xx_v ρ)).map fun v => v.category).sum = (st.map fun v => v.category).sum := by
    rw [List.map_map]
    exact congrArg List.sum (List.map_congr_left fun v _ => xx_v_cat ρ v)
  obtain ⟨hK0, -⟩ := O.2.2.2.2.2.2.2.1.2.2 102 (by omega) (by omega)
  obtain ⟨cs, q0, a0, a1, a2, -, a4⟩ := r9.arrW O (by omega) (by omega) hc0
  obtain ⟨q1, -⟩ := r9.arr O (by omega) (by omega) hc1 h9
  generalize hcA : xd_A (xy_D Y) 102 = cA at hK0 q1
  obtain ⟨hns, k0, hk0, cm0, hkk0⟩ := a0
  obtain ⟨-, k1, hk1, cm1, hkk1⟩ := hK0 N1 (fun j => xx_v ρ (g j))
  have hgw := O.2.2.2.2.2.1
  intro T hT X
  obtain ⟨vm', X', step⟩ := X.arraycopy O.1 O.2.2.2.2.2.2.1 (hgw _ K.1) (hgw _ K.2.1) (hgw _ K.2.2.1) (hgw _ K.2.2.2) (src := ρ r0) (dst := ρ r1) (cs := cs) (cd := arrV cA N1 (fun j => xx_v ρ (g j))) (srcPos := 0) (destPos := 0) (n := n9) (by rw [hT]; exact q0) (by rw [hT]; exact q1)
    hns (fun _ h => by cases h) a1 (fun h => by cases h) hk0 hk1 hkk0 hkk1 (by simp [xx_aty, refKind]) (by decide) (by decide) h3
    (by rw [nn n9 h3, show (0 : Int32).toInt = 0 from rfl]; omega)
    (by rw [nn n9 h3, show (0 : Int32).toInt = 0 from rfl]; rw [arrV_size]; omega)
    (fun vm₁ hal i hi => by
      have e : cs.slots.getD ((0 : Int32).toNatClampNeg + i) .null = xx_v ρ (f i) := by
        rw [show (0 : Int32).toNatClampNeg + i = i from Nat.zero_add i, Array.getD_eq_getD_getElem?, a4 _ (by omega)]
        rfl
      rw [e]
      obtain ⟨z, e2, e3⟩ := hel i hi
      rw [e2]
      exact ⟨e3, trivial⟩)
    (g := F0 (xt_m Y.1) pc lsA (.int n9 :: .int 0 :: .ref (ρ r1) :: .int 0 :: .ref (ρ r0) :: st.map (xx_v ρ))) rfl (by show lsA.size = _; exact r9.L.1) (rest := st.map (xx_v ρ)) rfl (by rw [O.2.1]; exact hd) (by exact Nat.le_trans hdd O.2.2.2.2.2.2.2.2.2.2.2.2.1) (by show 2 * 0 + _ + _ ≤ _; rw [hcat]; have h9 := O.2.2.2.2.2.2.2.2.2.2.2.2.2.1; omega)
  have e1 : copied cs (arrV cA N1 (fun j => xx_v ρ (g j))) 0 0 n9 = arrV cA N1 (fun j => xx_v ρ (if j < n9.toNatClampNeg then f j else g j)) := by
    have h6 := va_copiedX (fun z => xx_v ρ z) cs cA f g a4 (sp := (0 : Int32).toNatClampNeg) (dp := (0 : Int32).toNatClampNeg) (n := n9.toNatClampNeg) (n0 := N0) (n1 := N1) (by show 0 + _ ≤ _; omega)
    refine h6.trans (xx_arr_eq fun j hj => ?_)
    show xx_v ρ (va_cpy f g 0 0 n9.toNatClampNeg j) = _
    unfold va_cpy
    congr 1
    by_cases q : j < n9.toNatClampNeg
    · rw [if_pos (by omega), if_pos q, Nat.zero_add, Nat.sub_zero]
    · rw [if_neg (by omega), if_neg q]
  rw [e1] at X' step
  have hl : ρ r1 < H.size := (Array.getElem?_eq_some_iff.mp q1).1
  generalize hnew : arrV cA N1 (fun j => xx_v ρ (if j < n9.toNatClampNeg then f j else g j)) = cnew at X' step
  have hheap : ((T.setVm vm').setCell (ρ r1) cnew).heap = H.setIfInBounds (ρ r1) cnew := by rw [← hT]; rfl
  have oq : ∀ q : Nat, q ≠ ρ r1 → (H.setIfInBounds (ρ r1) cnew)[q]? = H[q]? := fun q hq => by simp [Array.getElem?_setIfInBounds, Ne.symm hq]
  have oe : (H.setIfInBounds (ρ r1) cnew)[ρ r1]? = some cnew := by simp [Array.getElem?_setIfInBounds, hl]
  obtain ⟨t, a1, b1⟩ := kk ρ ow _ _ cells slots lsA (r9.putL hc1 h9 (by simp) oq (fun q hq => by
      rcases List.mem_append.mp hq with h | h
      · exact .inl h
      · obtain ⟨z, -, hz⟩ := List.mem_map.mp h
        exact .inr (by rw [← hz])) (by
      refine xx_cell.mk h9 ?_
      unfold xx_newc
      rw [if_neg (by show ¬ 102 < 100; omega), if_pos (by show 102 < 200; omega), oe, ← hnew, ← hcA]) (fun j hj => by
      show xx_in h (if j < n9.toNatClampNeg then f j else g j)
      split
      · rename_i q
        exact r9.1.2.2.2.2 r0 _ j hc0 (show j < N0 by omega)
      · exact r9.1.2.2.2.2 r1 _ j hc1 hj) (xx_ht (xx_ht (xx_ht (xx_ht (xx_ht r9.stk)))))) _ hheap X'
  exact ⟨t, step t a1, b1⟩
end
end
section
/-! ===== words of calls up the classes ===== -/
def gwl_S2 : List Cond := [(Jvm.Cond.instantiable "java/lang/StringBuilder" (4 : Nat)), (Jvm.Cond.superclass "java/lang/StringBuilder" "java/lang/AbstractStringBuilder"), (Jvm.Cond.methodLink "java/lang/StringBuilder" (333 : Nat) ({ cls := "java/lang/AbstractStringBuilder", name := "setLength", desc := "(I)V" } : Jvm.MethodName)), (Jvm.Cond.instanceMethod ({ cls := "java/lang/AbstractStringBuilder", name := "setLength", desc := "(I)V" } : Jvm.MethodName)), (Jvm.Cond.methodLink "java/lang/StringBuilder" (29 : Nat) ({ cls := "java/lang/AbstractStringBuilder", name := "append", desc := "(Ljava/lang/String;)Ljava/lang/AbstractStringBuilder;" } : Jvm.MethodName)), (Jvm.Cond.instanceMethod ({ cls := "java/lang/AbstractStringBuilder", name := "append", desc := "(Ljava/lang/String;)Ljava/lang/AbstractStringBuilder;" } : Jvm.MethodName)), (Jvm.Cond.methodLink "java/lang/AbstractStringBuilder" (100 : Nat) ({ cls := "java/lang/AbstractStringBuilder", name := "ensureCapacityInternal", desc := "(I)V" } : Jvm.MethodName)), (Jvm.Cond.instanceMethod ({ cls := "java/lang/AbstractStringBuilder", name := "ensureCapacityInternal", desc := "(I)V" } : Jvm.MethodName)), (Jvm.Cond.methodLink "java/lang/AbstractStringBuilder" (83 : Nat) ({ cls := "java/lang/AbstractStringBuilder", name := "isLatin1", desc := "()Z" } : Jvm.MethodName)), (Jvm.Cond.instanceMethod ({ cls := "java/lang/AbstractStringBuilder", name := "isLatin1", desc := "()Z" } : Jvm.MethodName)), (Jvm.Cond.selects "java/lang/StringBuilder" ({ cls := "java/lang/AbstractStringBuilder", name := "isLatin1", desc := "()Z" } : Jvm.MethodName) ({ cls := "java/lang/AbstractStringBuilder", name := "isLatin1", desc := "()Z" } : Jvm.MethodName)), (Jvm.Cond.methodLink "java/lang/AbstractStringBuilder" (208 : Nat) ({ cls := "java/lang/AbstractStringBuilder", name := "putStringAt", desc := "(ILjava/lang/String;)V" } : Jvm.MethodName)), (Jvm.Cond.instanceMethod ({ cls := "java/lang/AbstractStringBuilder", name := "putStringAt", desc := "(ILjava/lang/String;)V" } : Jvm.MethodName)), (Jvm.Cond.methodLink "java/lang/AbstractStringBuilder" (397 : Nat) ({ cls := "java/lang/AbstractStringBuilder", name := "inflateIfNeededFor", desc := "(Ljava/lang/String;)V" } : Jvm.MethodName)), (Jvm.Cond.instanceMethod ({ cls := "java/lang/AbstractStringBuilder", name := "inflateIfNeededFor", desc := "(Ljava/lang/String;)V" } : Jvm.MethodName)), (Jvm.Cond.methodLink "java/lang/StringBuilder" (53 : Nat) ({ cls := "java/lang/AbstractStringBuilder", name := "append", desc := "(I)Ljava/lang/AbstractStringBuilder;" } : Jvm.MethodName)), (Jvm.Cond.instanceMethod ({ cls := "java/lang/AbstractStringBuilder", name := "append", desc := "(I)Ljava/lang/AbstractStringBuilder;" } : Jvm.MethodName)), (Jvm.Cond.methodLink "java/lang/String" (552 : Nat) ({ cls := "java/lang/AbstractStringBuilder", name := "getValue", desc := "()[B" } : Jvm.MethodName)), (Jvm.Cond.instanceMethod ({ cls := "java/lang/AbstractStringBuilder", name := "getValue", desc := "()[B" } : Jvm.MethodName)), (Jvm.Cond.selects "java/lang/StringBuilder" ({ cls := "java/lang/AbstractStringBuilder", name := "getValue", desc := "()[B" } : Jvm.MethodName) ({ cls := "java/lang/AbstractStringBuilder", name := "getValue", desc := "()[B" } : Jvm.MethodName)), (Jvm.Cond.methodLink "java/lang/String" (549 : Nat) ({ cls := "java/lang/AbstractStringBuilder", name := "length", desc := "()I" } : Jvm.MethodName)), (Jvm.Cond.instanceMethod ({ cls := "java/lang/AbstractStringBuilder", name := "length", desc := "()I" } : Jvm.MethodName)), (Jvm.Cond.sameMethod "java/lang/AbstractStringBuilder" "java/lang/AbstractStringBuilder" "length" "()I"), (Jvm.Cond.selects "java/lang/StringBuilder" ({ cls := "java/lang/AbstractStringBuilder", name := "length", desc := "()I" } : Jvm.MethodName) ({ cls := "java/lang/StringBuilder", name := "length", desc := "()I" } : Jvm.MethodName)), (Jvm.Cond.instanceMethod ({ cls := "java/lang/StringBuilder", name := "length", desc := "()I" } : Jvm.MethodName)), (Jvm.Cond.methodLink "java/lang/StringBuilder" (343 : Nat) ({ cls := "java/lang/AbstractStringBuilder", name := "length", desc := "()I" } : Jvm.MethodName)), (Jvm.Cond.methodLink "java/lang/String" (1047 : Nat) ({ cls := "java/lang/AbstractStringBuilder", name := "isLatin1", desc := "()Z" } : Jvm.MethodName)), (Jvm.Cond.methodLink "java/lang/StringBuilder" (50 : Nat) ({ cls := "java/lang/AbstractStringBuilder", name := "append", desc := "(C)Ljava/lang/AbstractStringBuilder;" } : Jvm.MethodName)), (Jvm.Cond.instanceMethod ({ cls := "java/lang/AbstractStringBuilder", name := "append", desc := "(C)Ljava/lang/AbstractStringBuilder;" } : Jvm.MethodName)), (Jvm.Cond.sameMethod "java/lang/AbstractStringBuilder" "java/lang/AbstractStringBuilder" "setLength" "(I)V"), (Jvm.Cond.sameMethod "java/lang/AbstractStringBuilder" "java/lang/AbstractStringBuilder" "append" "(Ljava/lang/String;)Ljava/lang/AbstractStringBuilder;"), (Jvm.Cond.sameMethod "java/lang/AbstractStringBuilder" "java/lang/AbstractStringBuilder" "ensureCapacityInternal" "(I)V"), (Jvm.Cond.sameMethod "java/lang/AbstractStringBuilder" "java/lang/AbstractStringBuilder" "putStringAt" "(ILjava/lang/String;)V"), (Jvm.Cond.sameMethod "java/lang/AbstractStringBuilder" "java/lang/AbstractStringBuilder" "inflateIfNeededFor" "(Ljava/lang/String;)V"), (Jvm.Cond.sameMethod "java/lang/AbstractStringBuilder" "java/lang/AbstractStringBuilder" "append" "(I)Ljava/lang/AbstractStringBuilder;"), (Jvm.Cond.sameMethod "java/lang/AbstractStringBuilder" "java/lang/AbstractStringBuilder" "append" "(C)Ljava/lang/AbstractStringBuilder;")]
set_option maxRecDepth 100000 in
theorem gv_S : ∀ w ∈ gwl_S2, w ∈ xx_gws := xx_inT [564, 29, 18, 0, 13, 0, 5, 1, 26, 0, 1, 36, 1, 1, 1, 31, 0, 32, 0, 1, 1, 0, 0, 0, 0, 1, 1, 165, 0, 1415, 0, 1, 1, 0, 1, 1] rfl (by decide +kernel)
def xx_prv : List Cond := [(Jvm.Cond.privateMethod ({ cls := "java/lang/AbstractStringBuilder", name := "ensureCapacityInternal", desc := "(I)V" } : Jvm.MethodName)), (Jvm.Cond.privateMethod ({ cls := "java/lang/AbstractStringBuilder", name := "inflateIfNeededFor", desc := "(Ljava/lang/String;)V" } : Jvm.MethodName)), (Jvm.Cond.privateMethod ({ cls := "java/lang/AbstractStringBuilder", name := "putStringAt", desc := "(ILjava/lang/String;)V" } : Jvm.MethodName))]
theorem xx_prv_ok : ∀ w ∈ xx_prv, w ∈ xx_nws := by decide +kernel
theorem slc_J5_isLatin1_aae02 : xx_slc RJ4 yJ5_isLatin1_aae02 := ⟨(gv_S _ (List.mem_of_getElem? (i := 9) rfl)), .inl (gv_S _ (List.mem_of_getElem? (i := 10) rfl))⟩
theorem slc_J5_getValue_6d5f1 : xx_slc RJ4 yJ5_getValue_6d5f1 := ⟨(gv_S _ (List.mem_of_getElem? (i := 18) rfl)), .inl (gv_S _ (List.mem_of_getElem? (i := 19) rfl))⟩
theorem slc_J5_ensureCapacityInternal_d00df : xx_slc RJ4 yJ5_ensureCapacityInternal_d00df := ⟨(gv_S _ (List.mem_of_getElem? (i := 7) rfl)), .inr ⟨4, (gv_S _ (List.mem_of_getElem? (i := 0) rfl)), (gv_S _ (List.mem_of_getElem? (i := 31) rfl)), (xx_prv_ok _ (List.mem_of_getElem? (i := 0) rfl))⟩⟩
theorem slc_J5_inflateIfNeededFor_a7421 : xx_slc RJ4 yJ5_inflateIfNeededFor_a7421 := ⟨(gv_S _ (List.mem_of_getElem? (i := 14) rfl)), .inr ⟨4, (gv_S _ (List.mem_of_getElem? (i := 0) rfl)), (gv_S _ (List.mem_of_getElem? (i := 33) rfl)), (xx_prv_ok _ (List.mem_of_getElem? (i := 1) rfl))⟩⟩
theorem slc_J5_putStringAt_47b60 : xx_slc RJ4 yJ5_putStringAt_47b60 := ⟨(gv_S _ (List.mem_of_getElem? (i := 12) rfl)), .inr ⟨4, (gv_S _ (List.mem_of_getElem? (i := 0) rfl)), (gv_S _ (List.mem_of_getElem? (i := 32) rfl)), (xx_prv_ok _ (List.mem_of_getElem? (i := 2) rfl))⟩⟩
theorem su_J4_333 : xx_su RJ4 333 yJ5_setLength_d00df := ⟨(gv_S _ (List.mem_of_getElem? (i := 2) rfl)), (gv_S _ (List.mem_of_getElem? (i := 29) rfl)), (gv_S _ (List.mem_of_getElem? (i := 1) rfl)), (gv_S _ (List.mem_of_getElem? (i := 3) rfl)), by decide⟩
theorem su_J4_29 : xx_su RJ4 29 yJ5_append_cf1ce := ⟨(gv_S _ (List.mem_of_getElem? (i := 4) rfl)), (gv_S _ (List.mem_of_getElem? (i := 30) rfl)), (gv_S _ (List.mem_of_getElem? (i := 1) rfl)), (gv_S _ (List.mem_of_getElem? (i := 5) rfl)), by decide⟩
theorem su_J4_53 : xx_su RJ4 53 yJ5_append_c97b9 := ⟨(gv_S _ (List.mem_of_getElem? (i := 15) rfl)), (gv_S _ (List.mem_of_getElem? (i := 34) rfl)), (gv_S _ (List.mem_of_getElem? (i := 1) rfl)), (gv_S _ (List.mem_of_getElem? (i := 16) rfl)), by decide⟩
theorem su_J4_343 : xx_su RJ4 343 yJ5_length_8abf5 := ⟨(gv_S _ (List.mem_of_getElem? (i := 25) rfl)), (gv_S _ (List.mem_of_getElem? (i := 22) rfl)), (gv_S _ (List.mem_of_getElem? (i := 1) rfl)), (gv_S _ (List.mem_of_getElem? (i := 21) rfl)), by decide⟩
theorem su_J4_50 : xx_su RJ4 50 yJ5_append_3fe6f := ⟨(gv_S _ (List.mem_of_getElem? (i := 27) rfl)), (gv_S _ (List.mem_of_getElem? (i := 35) rfl)), (gv_S _ (List.mem_of_getElem? (i := 1) rfl)), (gv_S _ (List.mem_of_getElem? (i := 28) rfl)), by decide⟩
theorem ov_J0_549 : xx_ov RJ0 RJ4 549 yJ5_length_8abf5 yJ4_length_8abf5 m_J5_length_8abf5.2.1 m_J5_length_8abf5.2.2.1 m_J5_length_8abf5.2.2.2.1 := ⟨(gv_S _ (List.mem_of_getElem? (i := 20) rfl)), (gv_S _ (List.mem_of_getElem? (i := 22) rfl)), (gv_S _ (List.mem_of_getElem? (i := 21) rfl)), ce_J5_length_8abf5.1, (gv_S _ (List.mem_of_getElem? (i := 23) rfl)), (gv_S _ (List.mem_of_getElem? (i := 24) rfl)), ⟨by decide, by decide⟩, rfl⟩
theorem mk_J0_1047 : Cond.methodLink RJ0 1047 yJ5_isLatin1_aae02 ∈ xx_gws := (gv_S _ (List.mem_of_getElem? (i := 26) rfl))
theorem mk_J0_552 : Cond.methodLink RJ0 552 yJ5_getValue_6d5f1 ∈ xx_gws := (gv_S _ (List.mem_of_getElem? (i := 17) rfl))
theorem mk_J5_100 : Cond.methodLink RJ5 100 yJ5_ensureCapacityInternal_d00df ∈ xx_gws := (gv_S _ (List.mem_of_getElem? (i := 6) rfl))
theorem mk_J5_83 : Cond.methodLink RJ5 83 yJ5_isLatin1_aae02 ∈ xx_gws := (gv_S _ (List.mem_of_getElem? (i := 8) rfl))
theorem mk_J5_397 : Cond.methodLink RJ5 397 yJ5_inflateIfNeededFor_a7421 ∈ xx_gws := (gv_S _ (List.mem_of_getElem? (i := 13) rfl))
theorem mk_J5_208 : Cond.methodLink RJ5 208 yJ5_putStringAt_47b60 ∈ xx_gws := (gv_S _ (List.mem_of_getElem? (i := 11) rfl))
end
section
/-! ===== StringBuilder and the strings it makes ===== -/
def xx_sb0 (v : Nat) : Nat → Value := updV (updV (fun j => defaultValue (tyJ4 j)) 0 (.ref v)) 1 (.int 0)
def xx_sb (v c : Nat) (b : Int32) : Nat → Value := updV (updV (xx_sb0 v) 2 (.int b)) 3 (.int (nI c))
theorem xx_sb_c {v c c2 : Nat} {b : Int32} : updV (xx_sb v c b) 3 (.int (nI c2)) = xx_sb v c2 b := by
  funext k
  unfold xx_sb updV
  by_cases e : k = 3
  · rw [if_pos e, if_pos e]
  · rw [if_neg e, if_neg e, if_neg e]
theorem xx_sb_b {v c : Nat} {b z : Int32} : updV (xx_sb v c b) 2 (.int z) = xx_sb v c z := by
  funext k
  unfold xx_sb updV
  by_cases e : k = 2
  · subst e; rfl
  · rw [if_neg e]
    by_cases e3 : k = 3
    · rw [if_pos e3, if_pos e3]
    · rw [if_neg e3, if_neg e3, if_neg e, if_neg e]
theorem xx_sb_0 {v : Nat} : xx_sb0 v = xx_sb v 0 0 := by
  funext k
  unfold xx_sb updV
  by_cases e3 : k = 3
  · subst e3; rfl
  · rw [if_neg e3]
    by_cases e : k = 2
    · subst e; rfl
    · rw [if_neg e]
theorem xx_ens {a : Nat} (ha : a ≤ 16) : nI a - (nI 16) >>> ((0 : Int32) &&& 31) ≤ 0 := by
  have : ∀ a : Fin 17, nI a.1 - (nI 16) >>> ((0 : Int32) &&& 31) ≤ 0 := by decide +kernel
  exact this ⟨a, by omega⟩
theorem xx_dg1 {x : Nat} (hx : x < 10) : ¬ -(nI x) ≤ (-10 : Int32) := by
  have : ∀ a : Fin 10, ¬ -(nI a.1) ≤ (-10 : Int32) := by decide +kernel
  exact this ⟨x, hx⟩
theorem xx_dg2 {x : Nat} (hx : x < 10) : (-100 : Int32) < -(nI x) := by
  have : ∀ a : Fin 10, (-100 : Int32) < -(nI a.1) := by decide +kernel
  exact this ⟨x, hx⟩
theorem xx_dg3 {x : Nat} (hx : x < 10) : (-9 : Int32) ≤ -(nI x) := by
  have : ∀ a : Fin 10, (-9 : Int32) ≤ -(nI a.1) := by decide +kernel
  exact this ⟨x, hx⟩
theorem xx_negneg {x : Nat} (hx : x < 10) : -(-(nI x)) = nI x := by
  have : ∀ a : Fin 10, -(-(nI a.1)) = nI a.1 := by decide +kernel
  exact this ⟨x, hx⟩
theorem xx_sub0 (x : Int32) : x - 0 = x := by simp
theorem xx_ge0 (x : Nat) (hx : x < 2147483648) : (0 : Int32) ≤ nI x := (nI_leI (a := 0) (b := x) (by omega) hx).mpr (Nat.zero_le _)
theorem xx_nlt0 (x : Nat) (hx : x < 2147483648) : ¬ nI x < (0 : Int32) := Int32.not_lt.mpr (xx_ge0 x hx)
theorem sb_isLatin1 {l : Launch} {h : XH} (hl : l.stackTraces = false) {r v c : Nat} {b : Int32} (hr : h r = some (1, 4, xx_sb v c b))  : XEx l m_J5_isLatin1_aae02 0 0 0 [.ref r] (h) (some (.int 1)) (h) := by
  refine XMet.of hl rfl rfl (Nat.le_of_ble_eq_true rfl) (fun Y O hh hQ => ?_)
  show SW Y 0 0 (h) 0 [.ref r] []
  refine sw_gets (i := 0) (z := 1) O (xx_dt dd_J5_isLatin1_aae02 0 rfl) rfl gs_J5_18 ?_
  refine sw_if_eq (tgt := 17) O (xx_dt dd_J5_isLatin1_aae02 1 rfl) (by decide) (fun q => absurd q (by decide)) (fun _ => ?_)
  refine sw_aload_n O (xx_dt dd_J5_isLatin1_aae02 2 rfl) rfl ?_
  refine sw_get2 (v := .int 0) O (xx_dt dd_J5_isLatin1_aae02 3 rfl) cl_J4 f2_J5_22 hr (by decide) rfl ?_
  refine sw_if_ne (tgt := 17) O (xx_dt dd_J5_isLatin1_aae02 4 rfl) (by decide) (fun q => absurd rfl q) (fun _ => ?_)
  refine sw_iconst (x := 1) O (xx_dt dd_J5_isLatin1_aae02 5 rfl) (by decide) ?_
  refine sw_goto (tgt := 18) O (xx_dt dd_J5_isLatin1_aae02 6 rfl) (by decide) ?_
  exact sw_iret O (xx_dt dd_J5_isLatin1_aae02 8 rfl) rfl rfl (by rw [hQ]; exact ⟨rfl, rfl⟩)
theorem sb_getValue {l : Launch} {h : XH} (hl : l.stackTraces = false) {r v c : Nat} {b : Int32} (hr : h r = some (1, 4, xx_sb v c b))  : XEx l m_J5_getValue_6d5f1 0 0 0 [.ref r] (h) (some (.ref v)) (h) := by
  refine XMet.of hl rfl rfl (Nat.le_of_ble_eq_true rfl) (fun Y O hh hQ => ?_)
  show SW Y 0 0 (h) 0 [.ref r] []
  refine sw_aload_n O (xx_dt dd_J5_getValue_6d5f1 0 rfl) rfl ?_
  refine sw_get2 (v := .ref v) O (xx_dt dd_J5_getValue_6d5f1 1 rfl) cl_J4 f2_J5_15 hr (by decide) rfl ?_
  exact sw_aret O (xx_dt dd_J5_getValue_6d5f1 2 rfl) rfl (.inr ⟨_, rfl⟩) (by rw [hQ]; exact ⟨rfl, rfl⟩)
theorem sb_length5 {l : Launch} {h : XH} (hl : l.stackTraces = false) {r v c : Nat} {b : Int32} (hr : h r = some (1, 4, xx_sb v c b))  : XEx l m_J5_length_8abf5 0 0 0 [.ref r] (h) (some (.int (nI c))) (h) := by
  refine XMet.of hl rfl rfl (Nat.le_of_ble_eq_true rfl) (fun Y O hh hQ => ?_)
  show SW Y 0 0 (h) 0 [.ref r] []
  refine sw_aload_n O (xx_dt dd_J5_length_8abf5 0 rfl) rfl ?_
  refine sw_get2 (v := .int (nI c)) O (xx_dt dd_J5_length_8abf5 1 rfl) cl_J4 f2_J5_79 hr (by decide) rfl ?_
  exact sw_iret O (xx_dt dd_J5_length_8abf5 2 rfl) rfl rfl (by rw [hQ]; exact ⟨rfl, rfl⟩)
theorem sb_length {l : Launch} {h : XH} (hl : l.stackTraces = false) {r v c : Nat} {b : Int32} (hr : h r = some (1, 4, xx_sb v c b))  : XEx l m_J4_length_8abf5 1 0 0 [.ref r] (h) (some (.int (nI c))) (h) := by
  refine XMet.of hl rfl rfl (Nat.le_of_ble_eq_true rfl) (fun Y O hh hQ => ?_)
  show SW Y 0 0 (h) 0 [.ref r] []
  refine sw_aload_n O (xx_dt dd_J4_length_8abf5 0 rfl) rfl ?_
  refine sw_callSUx (as := []) (st := []) (st2 := [.int (nI c)]) O (sb_length5 hl hr) ce_J5_length_8abf5 su_J4_343 cl_J4 (hr) (xx_dt dd_J4_length_8abf5 1 rfl) (by decide) rfl rfl (Nat.le_of_ble_eq_true rfl) rfl ?_
  exact sw_iret O (xx_dt dd_J4_length_8abf5 2 rfl) rfl rfl (by rw [hQ]; exact ⟨rfl, rfl⟩)
theorem sb_ens {l : Launch} {h : XH} (hl : l.stackTraces = false) {a : Nat} {r v c : Nat} {b : Int32} {G : Nat → Value} (hr : h r = some (1, 4, xx_sb v c b)) (hv : h v = some (102, 16, G)) (ha : a ≤ 16)  : XEx l m_J5_ensureCapacityInternal_d00df 0 0 0 [.ref r, .int (nI a)] (h) (none) (h) := by
  refine XMet.of hl rfl rfl (Nat.le_of_ble_eq_true rfl) (fun Y O hh hQ => ?_)
  show SW Y 0 0 (h) 0 [.ref r, .int (nI a), xx_d] []
  refine sw_aload_n O (xx_dt dd_J5_ensureCapacityInternal_d00df 0 rfl) rfl ?_
  refine sw_get2 (v := .ref v) O (xx_dt dd_J5_ensureCapacityInternal_d00df 1 rfl) cl_J4 f2_J5_15 hr (by decide) rfl ?_
  refine sw_alen (t := 102) O (xx_dt dd_J5_ensureCapacityInternal_d00df 2 rfl) (by omega) (by omega) hv ?_
  refine sw_aload_n O (xx_dt dd_J5_ensureCapacityInternal_d00df 3 rfl) rfl ?_
  refine sw_get2 (v := .int 0) O (xx_dt dd_J5_ensureCapacityInternal_d00df 4 rfl) cl_J4 f2_J5_22 hr (by decide) rfl ?_
  refine sw_ishr O (xx_dt dd_J5_ensureCapacityInternal_d00df 5 rfl) ?_
  refine sw_istore_n (ls2 := [.ref r, .int (nI a), .int ((nI 16) >>> (0 &&& 31))]) O (xx_dt dd_J5_ensureCapacityInternal_d00df 6 rfl) (by decide) rfl ?_
  refine sw_iload_n O (xx_dt dd_J5_ensureCapacityInternal_d00df 7 rfl) rfl ?_
  refine sw_iload_n O (xx_dt dd_J5_ensureCapacityInternal_d00df 8 rfl) rfl ?_
  refine sw_isub O (xx_dt dd_J5_ensureCapacityInternal_d00df 9 rfl) ?_
  refine sw_if_le (tgt := 38) O (xx_dt dd_J5_ensureCapacityInternal_d00df 10 rfl) (by decide) (fun _ => ?_) (fun q => absurd (xx_ens ha) q)
  exact sw_ret O (xx_dt dd_J5_ensureCapacityInternal_d00df 22 rfl) rfl (by rw [hQ]; exact ⟨rfl, rfl⟩)
theorem sb_canEnc {l : Launch} {h : XH} (hl : l.stackTraces = false) {x : Int32} (hx : ¬ (255 : Int32) < x)  : XEx l m_J1_canEncode_fc78d 0 0 0 [.int x] (h) (some (.int 1)) (h) := by
  refine XMet.of hl rfl rfl (Nat.le_of_ble_eq_true rfl) (fun Y O hh hQ => ?_)
  show SW Y 0 0 (h) 0 [.int x] []
  refine sw_iload_n O (xx_dt dd_J1_canEncode_fc78d 0 rfl) rfl ?_
  refine sw_sipush (x := 255) O (xx_dt dd_J1_canEncode_fc78d 1 rfl) (by decide) ?_
  refine sw_icmp_gt (tgt := 11) O (xx_dt dd_J1_canEncode_fc78d 2 rfl) (by decide) (fun q => absurd q (hx)) (fun _ => ?_)
  refine sw_iconst (x := 1) O (xx_dt dd_J1_canEncode_fc78d 3 rfl) (by decide) ?_
  refine sw_goto (tgt := 12) O (xx_dt dd_J1_canEncode_fc78d 4 rfl) (by decide) ?_
  exact sw_iret O (xx_dt dd_J1_canEncode_fc78d 6 rfl) rfl rfl (by rw [hQ]; exact ⟨rfl, rfl⟩)
theorem sb_appendC5 {l : Launch} {h : XH} (hl : l.stackTraces = false) {r v c : Nat} {b : Int32} {G : Nat → Value} (hr : h r = some (1, 4, xx_sb v c b)) (hv : h v = some (102, 16, G)) (h1 : 1000 ≤ r) (h9 : 1000 ≤ v) (hrv : r ≠ v) {x : Int32} (hc : c < 16) (hx : ¬ (255 : Int32) < x) (hx2 : x.toInt8.toInt32 = x) (hx3 : narrow .byte (.int x) = .int x)  : XEx l m_J5_append_3fe6f 1 0 0 [.ref r, .int x] (h) (some (.ref r)) (xx_up (xx_up h r (1, 4, xx_sb v (c + 1) b)) v (102, 16, updV G c (.int x))) := by
  refine XMet.of hl rfl rfl (Nat.le_of_ble_eq_true rfl) (fun Y O hh hQ => ?_)
  show SW Y 0 0 (h) 0 [.ref r, .int x] []
  refine sw_aload_n O (xx_dt dd_J5_append_3fe6f 0 rfl) rfl ?_
  refine sw_aload_n O (xx_dt dd_J5_append_3fe6f 1 rfl) rfl ?_
  refine sw_get2 (v := .int (nI c)) O (xx_dt dd_J5_append_3fe6f 2 rfl) cl_J4 f2_J5_79 hr (by decide) rfl ?_
  refine sw_iconst (x := 1) O (xx_dt dd_J5_append_3fe6f 3 rfl) (by decide) ?_
  refine sw_iadd O (xx_dt dd_J5_append_3fe6f 4 rfl) ?_
  rw [nI_a1]
  refine sw_callWx (as := [.int (nI (c + 1))]) (st := []) (st2 := []) O (sb_ens hl hr hv (a := c + 1) (by omega)) ce_J5_ensureCapacityInternal_d00df mk_J5_100 slc_J5_ensureCapacityInternal_d00df cl_J4 (hr) (xx_dt dd_J5_append_3fe6f 5 rfl) (by decide) rfl rfl (Nat.le_of_ble_eq_true rfl) rfl ?_
  refine sw_aload_n O (xx_dt dd_J5_append_3fe6f 6 rfl) rfl ?_
  refine sw_callWx (as := []) (st := []) (st2 := [.int 1]) O (sb_isLatin1 hl hr) ce_J5_isLatin1_aae02 mk_J5_83 slc_J5_isLatin1_aae02 cl_J4 (hr) (xx_dt dd_J5_append_3fe6f 7 rfl) (by decide) rfl rfl (Nat.le_of_ble_eq_true rfl) rfl ?_
  refine sw_if_eq (tgt := 45) O (xx_dt dd_J5_append_3fe6f 8 rfl) (by decide) (fun q => absurd q (by decide)) (fun _ => ?_)
  refine sw_iload_n O (xx_dt dd_J5_append_3fe6f 9 rfl) rfl ?_
  refine sw_callSx (as := [.int x]) (st := []) (st2 := [.int 1]) O (sb_canEnc hl hx) ce_J1_canEncode_fc78d ml_J5_191 st_J1_canEncode_fc78d (xx_dt dd_J5_append_3fe6f 10 rfl) (by decide) rfl rfl (Nat.le_of_ble_eq_true rfl) rfl ?_
  refine sw_if_eq (tgt := 45) O (xx_dt dd_J5_append_3fe6f 11 rfl) (by decide) (fun q => absurd q (by decide)) (fun _ => ?_)
  refine sw_aload_n O (xx_dt dd_J5_append_3fe6f 12 rfl) rfl ?_
  refine sw_get2 (v := .ref v) O (xx_dt dd_J5_append_3fe6f 13 rfl) cl_J4 f2_J5_15 hr (by decide) rfl ?_
  refine sw_aload_n O (xx_dt dd_J5_append_3fe6f 14 rfl) rfl ?_
  refine sw_dup O (xx_dt dd_J5_append_3fe6f 15 rfl) rfl ?_
  refine sw_get2 (v := .int (nI c)) O (xx_dt dd_J5_append_3fe6f 16 rfl) cl_J4 f2_J5_79 hr (by decide) rfl ?_
  refine sw_dup_x1 O (xx_dt dd_J5_append_3fe6f 17 rfl) rfl rfl ?_
  refine sw_iconst (x := 1) O (xx_dt dd_J5_append_3fe6f 18 rfl) (by decide) ?_
  refine sw_iadd O (xx_dt dd_J5_append_3fe6f 19 rfl) ?_
  rw [nI_a1]
  refine sw_put2 (h2 := xx_up h r (1, 4, xx_sb v (c + 1) b)) O (xx_dt dd_J5_append_3fe6f 20 rfl) cl_J4 f2_J5_79 hr (by decide) h1 rfl (fun _ => ⟨rfl, rfl⟩) (by rw [xx_sb_c]) ?_
  refine sw_iload_n O (xx_dt dd_J5_append_3fe6f 21 rfl) rfl ?_
  refine sw_i2b O (xx_dt dd_J5_append_3fe6f 22 rfl) ?_
  rw [hx2]
  refine sw_bastore (h2 := xx_up (xx_up h r (1, 4, xx_sb v (c + 1) b)) v (102, 16, updV G c (.int x))) O (xx_dt dd_J5_append_3fe6f 23 rfl) (by rw [xx_up_ne (Ne.symm hrv)]; exact hv) (pk_in c _ (by omega)) h9 hx3 (by rw [nI_clamp (by omega)]) ?_
  refine sw_goto (tgt := 75) O (xx_dt dd_J5_append_3fe6f 24 rfl) (by decide) ?_
  refine sw_aload_n O (xx_dt dd_J5_append_3fe6f 41 rfl) rfl ?_
  exact sw_aret O (xx_dt dd_J5_append_3fe6f 42 rfl) rfl (.inl ⟨_, rfl⟩) (by rw [hQ]; exact ⟨rfl, rfl⟩)
theorem sb_appendC {l : Launch} {h : XH} (hl : l.stackTraces = false) {r v c : Nat} {b : Int32} {G : Nat → Value} (hr : h r = some (1, 4, xx_sb v c b)) (hv : h v = some (102, 16, G)) (h1 : 1000 ≤ r) (h9 : 1000 ≤ v) (hrv : r ≠ v) {x : Int32} (hc : c < 16) (hx : ¬ (255 : Int32) < x) (hx2 : x.toInt8.toInt32 = x) (hx3 : narrow .byte (.int x) = .int x)  : XEx l m_J4_append_cf468 2 0 0 [.ref r, .int x] (h) (some (.ref r)) (xx_up (xx_up h r (1, 4, xx_sb v (c + 1) b)) v (102, 16, updV G c (.int x))) := by
  refine XMet.of hl rfl rfl (Nat.le_of_ble_eq_true rfl) (fun Y O hh hQ => ?_)
  show SW Y 0 0 (h) 0 [.ref r, .int x] []
  refine sw_aload_n O (xx_dt dd_J4_append_cf468 0 rfl) rfl ?_
  refine sw_iload_n O (xx_dt dd_J4_append_cf468 1 rfl) rfl ?_
  refine sw_callSUx (as := [.int x]) (st := []) (st2 := [.ref r]) O (sb_appendC5 hl hr hv h1 h9 hrv hc hx hx2 hx3) ce_J5_append_3fe6f su_J4_50 cl_J4 (hr) (xx_dt dd_J4_append_cf468 2 rfl) (by decide) rfl rfl (Nat.le_of_ble_eq_true rfl) rfl ?_
  refine sw_pop O (xx_dt dd_J4_append_cf468 3 rfl) rfl ?_
  refine sw_aload_n O (xx_dt dd_J4_append_cf468 4 rfl) rfl ?_
  exact sw_aret O (xx_dt dd_J4_append_cf468 5 rfl) rfl (.inl ⟨_, rfl⟩) (by rw [hQ]; exact ⟨rfl, rfl⟩)
theorem sb_size {l : Launch} {h : XH} (hl : l.stackTraces = false) {x : Nat} (hx : x < 10)  : XEx l m_J6_stringSize_0f7a4 0 0 0 [.int (nI x)] (h) (some (.int 1)) (h) := by
  refine XMet.of hl rfl rfl (Nat.le_of_ble_eq_true rfl) (fun Y O hh hQ => ?_)
  show SW Y 0 0 (h) 0 [.int (nI x), xx_d, xx_d, xx_d] []
  refine sw_iconst (x := 1) O (xx_dt dd_J6_stringSize_0f7a4 0 rfl) (by decide) ?_
  refine sw_istore_n (ls2 := [.int (nI x), .int 1, xx_d, xx_d]) O (xx_dt dd_J6_stringSize_0f7a4 1 rfl) (by decide) rfl ?_
  refine sw_iload_n O (xx_dt dd_J6_stringSize_0f7a4 2 rfl) rfl ?_
  refine sw_if_lt (tgt := 11) O (xx_dt dd_J6_stringSize_0f7a4 3 rfl) (by decide) (fun q => absurd q (xx_nlt0 x (by omega))) (fun _ => ?_)
  refine sw_iconst (x := 0) O (xx_dt dd_J6_stringSize_0f7a4 4 rfl) (by decide) ?_
  refine sw_istore_n (ls2 := [.int (nI x), .int 0, xx_d, xx_d]) O (xx_dt dd_J6_stringSize_0f7a4 5 rfl) (by decide) rfl ?_
  refine sw_iload_n O (xx_dt dd_J6_stringSize_0f7a4 6 rfl) rfl ?_
  refine sw_ineg O (xx_dt dd_J6_stringSize_0f7a4 7 rfl) ?_
  refine sw_istore_n (ls2 := [.int (-(nI x)), .int 0, xx_d, xx_d]) O (xx_dt dd_J6_stringSize_0f7a4 8 rfl) (by decide) rfl ?_
  refine sw_bipush (x := (-10)) O (xx_dt dd_J6_stringSize_0f7a4 9 rfl) (by decide) ?_
  refine sw_istore_n (ls2 := [.int (-(nI x)), .int 0, .int (-10), xx_d]) O (xx_dt dd_J6_stringSize_0f7a4 10 rfl) (by decide) rfl ?_
  refine sw_iconst (x := 1) O (xx_dt dd_J6_stringSize_0f7a4 11 rfl) (by decide) ?_
  refine sw_istore_n (ls2 := [.int (-(nI x)), .int 0, .int (-10), .int 1]) O (xx_dt dd_J6_stringSize_0f7a4 12 rfl) (by decide) rfl ?_
  refine sw_iload_n O (xx_dt dd_J6_stringSize_0f7a4 13 rfl) rfl ?_
  refine sw_bipush (x := 10) O (xx_dt dd_J6_stringSize_0f7a4 14 rfl) (by decide) ?_
  refine sw_icmp_ge (tgt := 42) O (xx_dt dd_J6_stringSize_0f7a4 15 rfl) (by decide) (fun q => absurd q (by decide)) (fun _ => ?_)
  refine sw_iload_n O (xx_dt dd_J6_stringSize_0f7a4 16 rfl) rfl ?_
  refine sw_iload_n O (xx_dt dd_J6_stringSize_0f7a4 17 rfl) rfl ?_
  refine sw_icmp_le (tgt := 31) O (xx_dt dd_J6_stringSize_0f7a4 18 rfl) (by decide) (fun q => absurd q (xx_dg1 hx)) (fun _ => ?_)
  refine sw_iload_n O (xx_dt dd_J6_stringSize_0f7a4 19 rfl) rfl ?_
  refine sw_iload_n O (xx_dt dd_J6_stringSize_0f7a4 20 rfl) rfl ?_
  refine sw_iadd O (xx_dt dd_J6_stringSize_0f7a4 21 rfl) ?_
  rw [show (1 : Int32) + 0 = 1 by decide]
  exact sw_iret O (xx_dt dd_J6_stringSize_0f7a4 22 rfl) rfl rfl (by rw [hQ]; exact ⟨rfl, rfl⟩)
theorem sb_chars {l : Launch} {h : XH} (hl : l.stackTraces = false) {v c : Nat} {G : Nat → Value} (hv : h v = some (102, 16, G)) (h9 : 1000 ≤ v) (hc : c < 16) {x : Nat} {w : Int32} {F : Nat → Value} (hx : x < 10) (h4 : h 4 = some (102, 100, F)) (hw : F x = .int w) (hw3 : narrow .byte (.int w) = .int w)  : XEx l m_J6_getChars_ba4f3 0 0 0 [.int (nI x), .int (nI (c + 1)), .ref v] (h) (some (.int (nI c))) (xx_up h v (102, 16, updV G c (.int w))) := by
  refine XMet.of hl rfl rfl (Nat.le_of_ble_eq_true rfl) (fun Y O hh hQ => ?_)
  show SW Y 0 0 (h) 0 [.int (nI x), .int (nI (c + 1)), .ref v, xx_d, xx_d, xx_d, xx_d] []
  refine sw_iload_n O (xx_dt dd_J6_getChars_ba4f3 0 rfl) rfl ?_
  refine sw_istore (ls2 := [.int (nI x), .int (nI (c + 1)), .ref v, xx_d, xx_d, .int (nI (c + 1)), xx_d]) O (xx_dt dd_J6_getChars_ba4f3 1 rfl) (by decide) rfl ?_
  refine sw_iload_n O (xx_dt dd_J6_getChars_ba4f3 2 rfl) rfl ?_
  refine sw_if_ge (tgt := 11) O (xx_dt dd_J6_getChars_ba4f3 3 rfl) (by decide) (fun _ => ?_) (fun q => absurd (xx_ge0 x (by omega)) q)
  refine sw_iconst (x := 0) O (xx_dt dd_J6_getChars_ba4f3 6 rfl) (by decide) ?_
  refine sw_istore (ls2 := [.int (nI x), .int (nI (c + 1)), .ref v, xx_d, xx_d, .int (nI (c + 1)), .int 0]) O (xx_dt dd_J6_getChars_ba4f3 7 rfl) (by decide) rfl ?_
  refine sw_iload O (xx_dt dd_J6_getChars_ba4f3 8 rfl) rfl ?_
  refine sw_if_ne (tgt := 22) O (xx_dt dd_J6_getChars_ba4f3 9 rfl) (by decide) (fun q => absurd rfl q) (fun _ => ?_)
  refine sw_iload_n O (xx_dt dd_J6_getChars_ba4f3 10 rfl) rfl ?_
  refine sw_ineg O (xx_dt dd_J6_getChars_ba4f3 11 rfl) ?_
  refine sw_istore_n (ls2 := [.int (-(nI x)), .int (nI (c + 1)), .ref v, xx_d, xx_d, .int (nI (c + 1)), .int 0]) O (xx_dt dd_J6_getChars_ba4f3 12 rfl) (by decide) rfl ?_
  refine sw_iload_n O (xx_dt dd_J6_getChars_ba4f3 13 rfl) rfl ?_
  refine sw_bipush (x := (-100)) O (xx_dt dd_J6_getChars_ba4f3 14 rfl) (by decide) ?_
  refine sw_icmp_gt (tgt := 72) O (xx_dt dd_J6_getChars_ba4f3 15 rfl) (by decide) (fun _ => ?_) (fun q => absurd (xx_dg2 hx) q)
  refine sw_aload_n O (xx_dt dd_J6_getChars_ba4f3 43 rfl) rfl ?_
  refine sw_iinc (y := nI c) (ls2 := [.int (-(nI x)), .int (nI (c + 1)), .ref v, xx_d, xx_d, .int (nI c), .int 0]) O (xx_dt dd_J6_getChars_ba4f3 44 rfl) rfl (pk_m1 _) (by decide) rfl ?_
  refine sw_iload O (xx_dt dd_J6_getChars_ba4f3 45 rfl) rfl ?_
  refine sw_getsR (i := 4) (r := 4) O (xx_dt dd_J6_getChars_ba4f3 46 rfl) rfl gs_J6_83 h4 (by omega) ?_
  refine sw_iload_n O (xx_dt dd_J6_getChars_ba4f3 47 rfl) rfl ?_
  refine sw_ineg O (xx_dt dd_J6_getChars_ba4f3 48 rfl) ?_
  rw [xx_negneg hx]
  refine sw_baload (v := .int w) O (xx_dt dd_J6_getChars_ba4f3 49 rfl) h4 (pk_in x _ (by omega)) (by rw [nI_clamp (by omega)]; exact hw) ?_
  refine sw_bastore (h2 := xx_up h v (102, 16, updV G c (.int w))) O (xx_dt dd_J6_getChars_ba4f3 50 rfl) hv (pk_in c _ (by omega)) h9 hw3 (by rw [nI_clamp (by omega)]) ?_
  refine sw_iload_n O (xx_dt dd_J6_getChars_ba4f3 51 rfl) rfl ?_
  refine sw_bipush (x := (-9)) O (xx_dt dd_J6_getChars_ba4f3 52 rfl) (by decide) ?_
  refine sw_icmp_ge (tgt := 104) O (xx_dt dd_J6_getChars_ba4f3 53 rfl) (by decide) (fun _ => ?_) (fun q => absurd (xx_dg3 hx) q)
  refine sw_iload O (xx_dt dd_J6_getChars_ba4f3 62 rfl) rfl ?_
  refine sw_if_eq (tgt := 118) O (xx_dt dd_J6_getChars_ba4f3 63 rfl) (by decide) (fun _ => ?_) (fun q => absurd rfl q)
  refine sw_iload O (xx_dt dd_J6_getChars_ba4f3 69 rfl) rfl ?_
  exact sw_iret O (xx_dt dd_J6_getChars_ba4f3 70 rfl) rfl rfl (by rw [hQ]; exact ⟨rfl, rfl⟩)
theorem sb_appendI5 {l : Launch} {h : XH} (hl : l.stackTraces = false) {r v c : Nat} {b : Int32} {G : Nat → Value} (hr : h r = some (1, 4, xx_sb v c b)) (hv : h v = some (102, 16, G)) (h1 : 1000 ≤ r) (h9 : 1000 ≤ v) (hrv : r ≠ v) (hc : c < 16) {x : Nat} {w : Int32} {F : Nat → Value} (hx : x < 10) (h4 : h 4 = some (102, 100, F)) (hw : F x = .int w) (hw3 : narrow .byte (.int w) = .int w)  : XEx l m_J5_append_c97b9 1 0 0 [.ref r, .int (nI x)] (h) (some (.ref r)) (xx_up (xx_up h r (1, 4, xx_sb v (c + 1) b)) v (102, 16, updV G c (.int w))) := by
  refine XMet.of hl rfl rfl (Nat.le_of_ble_eq_true rfl) (fun Y O hh hQ => ?_)
  show SW Y 0 0 (h) 0 [.ref r, .int (nI x), xx_d, xx_d] []
  refine sw_aload_n O (xx_dt dd_J5_append_c97b9 0 rfl) rfl ?_
  refine sw_get2 (v := .int (nI c)) O (xx_dt dd_J5_append_c97b9 1 rfl) cl_J4 f2_J5_79 hr (by decide) rfl ?_
  refine sw_istore_n (ls2 := [.ref r, .int (nI x), .int (nI c), xx_d]) O (xx_dt dd_J5_append_c97b9 2 rfl) (by decide) rfl ?_
  refine sw_iload_n O (xx_dt dd_J5_append_c97b9 3 rfl) rfl ?_
  refine sw_iload_n O (xx_dt dd_J5_append_c97b9 4 rfl) rfl ?_
  refine sw_callSx (as := [.int (nI x)]) (st := [.int (nI c)]) (st2 := [.int 1, .int (nI c)]) O (sb_size hl hx) ce_J6_stringSize_0f7a4 ml_J5_245 st_J6_stringSize_0f7a4 (xx_dt dd_J5_append_c97b9 5 rfl) (by decide) rfl rfl (Nat.le_of_ble_eq_true rfl) rfl ?_
  refine sw_iadd O (xx_dt dd_J5_append_c97b9 6 rfl) ?_
  rw [nI_a1]
  refine sw_istore_n (ls2 := [.ref r, .int (nI x), .int (nI c), .int (nI (c + 1))]) O (xx_dt dd_J5_append_c97b9 7 rfl) (by decide) rfl ?_
  refine sw_aload_n O (xx_dt dd_J5_append_c97b9 8 rfl) rfl ?_
  refine sw_iload_n O (xx_dt dd_J5_append_c97b9 9 rfl) rfl ?_
  refine sw_callWx (as := [.int (nI (c + 1))]) (st := []) (st2 := []) O (sb_ens hl hr hv (a := c + 1) (by omega)) ce_J5_ensureCapacityInternal_d00df mk_J5_100 slc_J5_ensureCapacityInternal_d00df cl_J4 (hr) (xx_dt dd_J5_append_c97b9 10 rfl) (by decide) rfl rfl (Nat.le_of_ble_eq_true rfl) rfl ?_
  refine sw_aload_n O (xx_dt dd_J5_append_c97b9 11 rfl) rfl ?_
  refine sw_callWx (as := []) (st := []) (st2 := [.int 1]) O (sb_isLatin1 hl hr) ce_J5_isLatin1_aae02 mk_J5_83 slc_J5_isLatin1_aae02 cl_J4 (hr) (xx_dt dd_J5_append_c97b9 12 rfl) (by decide) rfl rfl (Nat.le_of_ble_eq_true rfl) rfl ?_
  refine sw_if_eq (tgt := 37) O (xx_dt dd_J5_append_c97b9 13 rfl) (by decide) (fun q => absurd q (by decide)) (fun _ => ?_)
  refine sw_iload_n O (xx_dt dd_J5_append_c97b9 14 rfl) rfl ?_
  refine sw_iload_n O (xx_dt dd_J5_append_c97b9 15 rfl) rfl ?_
  refine sw_aload_n O (xx_dt dd_J5_append_c97b9 16 rfl) rfl ?_
  refine sw_get2 (v := .ref v) O (xx_dt dd_J5_append_c97b9 17 rfl) cl_J4 f2_J5_15 hr (by decide) rfl ?_
  refine sw_callSx (as := [.int (nI x), .int (nI (c + 1)), .ref v]) (st := []) (st2 := [.int (nI c)]) O (sb_chars hl hv h9 hc hx h4 hw hw3) ce_J6_getChars_ba4f3 ml_J5_248 st_J6_getChars_ba4f3 (xx_dt dd_J5_append_c97b9 18 rfl) (by decide) rfl rfl (Nat.le_of_ble_eq_true rfl) rfl ?_
  refine sw_pop O (xx_dt dd_J5_append_c97b9 19 rfl) rfl ?_
  refine sw_goto (tgt := 48) O (xx_dt dd_J5_append_c97b9 20 rfl) (by decide) ?_
  refine sw_aload_n O (xx_dt dd_J5_append_c97b9 28 rfl) rfl ?_
  refine sw_iload_n O (xx_dt dd_J5_append_c97b9 29 rfl) rfl ?_
  refine sw_put2 (h2 := xx_up (xx_up h r (1, 4, xx_sb v (c + 1) b)) v (102, 16, updV G c (.int w))) O (xx_dt dd_J5_append_c97b9 30 rfl) cl_J4 f2_J5_79 (by rw [xx_up_ne hrv]; exact hr) (by decide) h1 rfl (fun _ => ⟨rfl, rfl⟩) (by rw [xx_sb_c]; exact (xx_up_sw hrv).symm) ?_
  refine sw_aload_n O (xx_dt dd_J5_append_c97b9 31 rfl) rfl ?_
  exact sw_aret O (xx_dt dd_J5_append_c97b9 32 rfl) rfl (.inl ⟨_, rfl⟩) (by rw [hQ]; exact ⟨rfl, rfl⟩)
theorem sb_appendI {l : Launch} {h : XH} (hl : l.stackTraces = false) {r v c : Nat} {b : Int32} {G : Nat → Value} (hr : h r = some (1, 4, xx_sb v c b)) (hv : h v = some (102, 16, G)) (h1 : 1000 ≤ r) (h9 : 1000 ≤ v) (hrv : r ≠ v) (hc : c < 16) {x : Nat} {w : Int32} {F : Nat → Value} (hx : x < 10) (h4 : h 4 = some (102, 100, F)) (hw : F x = .int w) (hw3 : narrow .byte (.int w) = .int w)  : XEx l m_J4_append_bf812 2 0 0 [.ref r, .int (nI x)] (h) (some (.ref r)) (xx_up (xx_up h r (1, 4, xx_sb v (c + 1) b)) v (102, 16, updV G c (.int w))) := by
  refine XMet.of hl rfl rfl (Nat.le_of_ble_eq_true rfl) (fun Y O hh hQ => ?_)
  show SW Y 0 0 (h) 0 [.ref r, .int (nI x)] []
  refine sw_aload_n O (xx_dt dd_J4_append_bf812 0 rfl) rfl ?_
  refine sw_iload_n O (xx_dt dd_J4_append_bf812 1 rfl) rfl ?_
  refine sw_callSUx (as := [.int (nI x)]) (st := []) (st2 := [.ref r]) O (sb_appendI5 hl hr hv h1 h9 hrv hc hx h4 hw hw3) ce_J5_append_c97b9 su_J4_53 cl_J4 (hr) (xx_dt dd_J4_append_bf812 2 rfl) (by decide) rfl rfl (Nat.le_of_ble_eq_true rfl) rfl ?_
  refine sw_pop O (xx_dt dd_J4_append_bf812 3 rfl) rfl ?_
  refine sw_aload_n O (xx_dt dd_J4_append_bf812 4 rfl) rfl ?_
  exact sw_aret O (xx_dt dd_J4_append_bf812 5 rfl) rfl (.inl ⟨_, rfl⟩) (by rw [hQ]; exact ⟨rfl, rfl⟩)
theorem sb_setLength5 {l : Launch} {h : XH} (hl : l.stackTraces = false) {r v c : Nat} {b : Int32} {G : Nat → Value} (hr : h r = some (1, 4, xx_sb v c b)) (hv : h v = some (102, 16, G)) (h1 : 1000 ≤ r) (h9 : 1000 ≤ v) (hrv : r ≠ v) (hc : c ≤ 16)  : XEx l m_J5_setLength_d00df 1 0 0 [.ref r, .int (nI 0)] (h) (none) (xx_up h r (1, 4, xx_sb v 0 (if c = 0 then b else 1))) := by
  refine XMet.of hl rfl rfl (Nat.le_of_ble_eq_true rfl) (fun Y O hh hQ => ?_)
  show SW Y 0 0 (h) 0 [.ref r, .int (nI 0)] []
  refine sw_iload_n O (xx_dt dd_J5_setLength_d00df 0 rfl) rfl ?_
  refine sw_if_ge (tgt := 13) O (xx_dt dd_J5_setLength_d00df 1 rfl) (by decide) (fun _ => ?_) (fun q => absurd (xx_ge0 0 (by omega)) q)
  refine sw_aload_n O (xx_dt dd_J5_setLength_d00df 7 rfl) rfl ?_
  refine sw_iload_n O (xx_dt dd_J5_setLength_d00df 8 rfl) rfl ?_
  refine sw_callWx (as := [.int (nI 0)]) (st := []) (st2 := []) O (sb_ens hl hr hv (a := 0) (by omega)) ce_J5_ensureCapacityInternal_d00df mk_J5_100 slc_J5_ensureCapacityInternal_d00df cl_J4 (hr) (xx_dt dd_J5_setLength_d00df 9 rfl) (by decide) rfl rfl (Nat.le_of_ble_eq_true rfl) rfl ?_
  refine sw_aload_n O (xx_dt dd_J5_setLength_d00df 10 rfl) rfl ?_
  refine sw_get2 (v := .int (nI c)) O (xx_dt dd_J5_setLength_d00df 11 rfl) cl_J4 f2_J5_79 hr (by decide) rfl ?_
  refine sw_iload_n O (xx_dt dd_J5_setLength_d00df 12 rfl) rfl ?_
  refine sw_icmp_ge (tgt := 63) O (xx_dt dd_J5_setLength_d00df 13 rfl) (by decide) (fun _ => ?_) (fun q => absurd (xx_ge0 c (by omega)) q)
  refine sw_aload_n O (xx_dt dd_J5_setLength_d00df 31 rfl) rfl ?_
  refine sw_get2 (v := .int (nI c)) O (xx_dt dd_J5_setLength_d00df 32 rfl) cl_J4 f2_J5_79 hr (by decide) rfl ?_
  refine sw_iload_n O (xx_dt dd_J5_setLength_d00df 33 rfl) rfl ?_
  refine sw_icmp_le (tgt := 76) O (xx_dt dd_J5_setLength_d00df 34 rfl) (by decide) (fun q => ?_) (fun q => ?_)
  · have hc0 : c = 0 := by have := (nI_leI (a := c) (b := 0) (by omega) (by omega)).mp q; omega
    refine sw_aload_n O (xx_dt dd_J5_setLength_d00df 38 rfl) rfl ?_
    refine sw_iload_n O (xx_dt dd_J5_setLength_d00df 39 rfl) rfl ?_
    refine sw_put2 (h2 := xx_up h r (1, 4, xx_sb v 0 b)) O (xx_dt dd_J5_setLength_d00df 40 rfl) cl_J4 f2_J5_79 hr (by decide) h1 rfl (fun _ => ⟨rfl, rfl⟩) (by rw [xx_sb_c]) ?_
    exact sw_ret O (xx_dt dd_J5_setLength_d00df 41 rfl) rfl (by rw [hQ]; exact ⟨rfl, by rw [if_pos hc0]⟩)
  · have hc0 : ¬ c = 0 := fun e => q (by rw [e]; exact Int32.le_refl _)
    refine sw_aload_n O (xx_dt dd_J5_setLength_d00df 35 rfl) rfl ?_
    refine sw_iconst (x := 1) O (xx_dt dd_J5_setLength_d00df 36 rfl) (by decide) ?_
    refine sw_put2 (h2 := xx_up h r (1, 4, xx_sb v c 1)) O (xx_dt dd_J5_setLength_d00df 37 rfl) cl_J4 f2_J5_73 hr (by decide) h1 rfl (fun _ => ⟨rfl, rfl⟩) (by rw [xx_sb_b]) ?_
    refine sw_aload_n O (xx_dt dd_J5_setLength_d00df 38 rfl) rfl ?_
    refine sw_iload_n O (xx_dt dd_J5_setLength_d00df 39 rfl) rfl ?_
    refine sw_put2 (h2 := xx_up h r (1, 4, xx_sb v 0 1)) O (xx_dt dd_J5_setLength_d00df 40 rfl) cl_J4 f2_J5_79 (xx_up_eq _ _ _) (by decide) h1 rfl (fun _ => ⟨rfl, rfl⟩) (by rw [xx_sb_c, xx_up_up]) ?_
    exact sw_ret O (xx_dt dd_J5_setLength_d00df 41 rfl) rfl (by rw [hQ]; exact ⟨rfl, by rw [if_neg hc0]⟩)
theorem sb_setLength {l : Launch} {h : XH} (hl : l.stackTraces = false) {r v c : Nat} {b : Int32} {G : Nat → Value} (hr : h r = some (1, 4, xx_sb v c b)) (hv : h v = some (102, 16, G)) (h1 : 1000 ≤ r) (h9 : 1000 ≤ v) (hrv : r ≠ v) (hc : c ≤ 16)  : XEx l m_J4_setLength_d00df 2 0 0 [.ref r, .int (nI 0)] (h) (none) (xx_up h r (1, 4, xx_sb v 0 (if c = 0 then b else 1))) := by
  refine XMet.of hl rfl rfl (Nat.le_of_ble_eq_true rfl) (fun Y O hh hQ => ?_)
  show SW Y 0 0 (h) 0 [.ref r, .int (nI 0)] []
  refine sw_aload_n O (xx_dt dd_J4_setLength_d00df 0 rfl) rfl ?_
  refine sw_iload_n O (xx_dt dd_J4_setLength_d00df 1 rfl) rfl ?_
  refine sw_callSUx (as := [.int (nI 0)]) (st := []) (st2 := []) O (sb_setLength5 hl hr hv h1 h9 hrv hc) ce_J5_setLength_d00df su_J4_333 cl_J4 (hr) (xx_dt dd_J4_setLength_d00df 2 rfl) (by decide) rfl rfl (Nat.le_of_ble_eq_true rfl) rfl ?_
  exact sw_ret O (xx_dt dd_J4_setLength_d00df 3 rfl) rfl (by rw [hQ]; exact ⟨rfl, rfl⟩)
theorem sb_init5 {l : Launch} {h : XH} (hl : l.stackTraces = false) {r v : Nat} (hr : h r = some (1, 4, fun j => defaultValue (tyJ4 j))) (h1 : 1000 ≤ r) (hv : h v = none) (h9 : 1000 ≤ v)  : XEx l m_J5_init_d00df 1 1 16 [.ref r, .int (nI 16)] (h) (none) (xx_up (xx_up h r (1, 4, xx_sb v 0 0)) v (102, 16, fun _ => .int 0)) := by
  refine XMet.of hl rfl rfl (Nat.le_of_ble_eq_true rfl) (fun Y O hh hQ => ?_)
  have hrv : r ≠ v := fun q => by rw [q, hv] at hr; cases hr
  show SW Y 1 16 (h) 0 [.ref r, .int (nI 16)] []
  refine sw_aload_n O (xx_dt dd_J5_init_d00df 0 rfl) rfl ?_
  refine sw_objInit O oi_J5_3 (xx_dt dd_J5_init_d00df 1 rfl) (by omega) (Nat.le_of_ble_eq_true rfl) ?_
  refine sw_gets (i := 0) (z := 1) O (xx_dt dd_J5_init_d00df 2 rfl) rfl gs_J5_18 ?_
  refine sw_if_eq (tgt := 25) O (xx_dt dd_J5_init_d00df 3 rfl) (by decide) (fun q => absurd q (by decide)) (fun _ => ?_)
  refine sw_aload_n O (xx_dt dd_J5_init_d00df 4 rfl) rfl ?_
  refine sw_iload_n O (xx_dt dd_J5_init_d00df 5 rfl) rfl ?_
  refine sw_newarray (k := 0) (n := 0) (t := 102) (N := 16) (r := v) O (xx_dt dd_J5_init_d00df 6 rfl) ⟨⟨by omega, by omega⟩, rfl⟩ ac_byte (by decide) (by decide) (by decide) hv h9 ?_
  rw [xx_blk_up, show (fun _ => defaultValue (newarray.typeOf .byte)) = (fun _ => Value.int 0 : Nat → Value) from rfl]
  refine sw_put2 (h2 := xx_up (xx_up h v (102, 16, fun _ => .int 0)) r (1, 4, updV (fun j => defaultValue (tyJ4 j)) 0 (.ref v))) O (xx_dt dd_J5_init_d00df 7 rfl) cl_J4 f2_J5_15 (by rw [xx_up_ne hrv]; exact hr) (by decide) h1 rfl (fun _ => ⟨rfl, rfl⟩) rfl ?_
  refine sw_aload_n O (xx_dt dd_J5_init_d00df 8 rfl) rfl ?_
  refine sw_iconst (x := 0) O (xx_dt dd_J5_init_d00df 9 rfl) (by decide) ?_
  refine sw_put2 (h2 := xx_up (xx_up h r (1, 4, xx_sb v 0 0)) v (102, 16, fun _ => .int 0)) O (xx_dt dd_J5_init_d00df 10 rfl) cl_J4 f2_J5_22 (xx_up_eq _ _ _) (by decide) h1 rfl (fun _ => ⟨rfl, rfl⟩) (by rw [xx_up_up, ← xx_sb_0]; exact (xx_up_sw hrv).symm) ?_
  refine sw_goto (tgt := 38) O (xx_dt dd_J5_init_d00df 11 rfl) (by decide) ?_
  exact sw_ret O (xx_dt dd_J5_init_d00df 19 rfl) rfl (by rw [hQ]; exact ⟨rfl, rfl⟩)
theorem sb_init {l : Launch} {h : XH} (hl : l.stackTraces = false) {r v : Nat} (hr : h r = some (1, 4, fun j => defaultValue (tyJ4 j))) (h1 : 1000 ≤ r) (hv : h v = none) (h9 : 1000 ≤ v)  : XEx l m_J4_init_da8c8 2 1 16 [.ref r] (h) (none) (xx_up (xx_up h r (1, 4, xx_sb v 0 0)) v (102, 16, fun _ => .int 0)) := by
  refine XMet.of hl rfl rfl (Nat.le_of_ble_eq_true rfl) (fun Y O hh hQ => ?_)
  show SW Y 1 16 (h) 0 [.ref r] []
  refine sw_aload_n O (xx_dt dd_J4_init_da8c8 0 rfl) rfl ?_
  refine sw_bipush (x := nI 16) O (xx_dt dd_J4_init_da8c8 1 rfl) (by decide) ?_
  refine sw_callIx (k := 0) (n := 0) (k' := 1) (n' := 16) (as := [.int (nI 16)]) (st := []) (st2 := []) O (sb_init5 hl hr h1 hv h9) ce_J5_init_d00df ml_J4_1 ii_J5_init_d00df (xx_dt dd_J4_init_da8c8 2 rfl) (by decide) rfl rfl (Nat.le_of_ble_eq_true rfl) rfl ?_
  exact sw_ret O (xx_dt dd_J4_init_da8c8 3 rfl) rfl (by rw [hQ]; exact ⟨rfl, rfl⟩)
theorem sb_checkLength {l : Launch} {h : XH} (hl : l.stackTraces = false) {c : Nat} (hc : c < 16)  : XEx l m_J7_checkLength_df160 0 0 0 [.int (nI 0), .int (nI c)] (h) (none) (h) := by
  refine XMet.of hl rfl rfl (Nat.le_of_ble_eq_true rfl) (fun Y O hh hQ => ?_)
  show SW Y 0 0 (h) 0 [.int (nI 0), .int (nI c)] []
  refine sw_iload_n O (xx_dt dd_J7_checkLength_df160 0 rfl) rfl ?_
  refine sw_iload_n O (xx_dt dd_J7_checkLength_df160 1 rfl) rfl ?_
  refine sw_icmp_ge (tgt := 37) O (xx_dt dd_J7_checkLength_df160 2 rfl) (by decide) (fun _ => ?_) (fun q => absurd (xx_ge0 c (by omega)) q)
  exact sw_ret O (xx_dt dd_J7_checkLength_df160 17 rfl) rfl (by rw [hQ]; exact ⟨rfl, rfl⟩)
theorem sb_copyRB {l : Launch} {h : XH} (hl : l.stackTraces = false) {v u c : Nat} {G : Nat → Value} (hv : h v = some (102, 16, G)) (hu : h u = none) (h9 : 1000 ≤ u) (hc : c < 16) (hG : ∀ j, j < c → ∃ z : Int32, G j = .int z ∧ fits .byte (.int z) = true)  : XEx l m_J7_copyOfRangeByte_39247 1 1 c [.ref v, .int (nI 0), .int (nI c)] (h) (some (.ref u)) (xx_up h u (102, c, fun j => if j < c then G j else .int 0)) := by
  refine XMet.of hl rfl rfl (Nat.le_of_ble_eq_true rfl) (fun Y O hh hQ => ?_)
  have hvu : v ≠ u := fun q => by rw [q, hu] at hv; cases hv
  show SW Y 1 c (h) 0 [.ref v, .int (nI 0), .int (nI c), xx_d, xx_d] []
  refine sw_iload_n O (xx_dt dd_J7_copyOfRangeByte_39247 0 rfl) rfl ?_
  refine sw_iload_n O (xx_dt dd_J7_copyOfRangeByte_39247 1 rfl) rfl ?_
  refine sw_callSx (k := 1) (n := c) (k' := 0) (n' := 0) (as := [.int (nI 0), .int (nI c)]) (st := []) (st2 := []) O (sb_checkLength hl hc) ce_J7_checkLength_df160 ml_J7_343 st_J7_checkLength_df160 (xx_dt dd_J7_copyOfRangeByte_39247 2 rfl) (by decide) rfl rfl (Nat.le_of_ble_eq_true rfl) rfl ?_
  refine sw_iload_n O (xx_dt dd_J7_copyOfRangeByte_39247 3 rfl) rfl ?_
  refine sw_iload_n O (xx_dt dd_J7_copyOfRangeByte_39247 4 rfl) rfl ?_
  refine sw_isub O (xx_dt dd_J7_copyOfRangeByte_39247 5 rfl) ?_
  rw [show nI c - nI 0 = nI c from xx_sub0 _]
  refine sw_istore_n (ls2 := [.ref v, .int (nI 0), .int (nI c), .int (nI c), xx_d]) O (xx_dt dd_J7_copyOfRangeByte_39247 6 rfl) (by decide) rfl ?_
  refine sw_iload_n O (xx_dt dd_J7_copyOfRangeByte_39247 7 rfl) rfl ?_
  refine xx_wid (k' := 0 + 1) (n' := 0 + c) (by omega) (by omega) (sw_newarray (t := 102) (N := c) (r := u) O (xx_dt dd_J7_copyOfRangeByte_39247 8 rfl) ⟨⟨by omega, by omega⟩, rfl⟩ ac_byte (xx_nlt0 c (by omega)) (nI_clamp (by omega)) (by show c * 1 ≤ _; omega) hu h9 ?_)
  rw [xx_blk_up, show (fun _ => defaultValue (newarray.typeOf .byte)) = (fun _ => Value.int 0 : Nat → Value) from rfl]
  refine sw_astore (ls2 := [.ref v, .int (nI 0), .int (nI c), .int (nI c), .ref u]) O (xx_dt dd_J7_copyOfRangeByte_39247 9 rfl) (by decide) rfl ?_
  refine sw_aload_n O (xx_dt dd_J7_copyOfRangeByte_39247 10 rfl) rfl ?_
  refine sw_iload_n O (xx_dt dd_J7_copyOfRangeByte_39247 11 rfl) rfl ?_
  refine sw_aload O (xx_dt dd_J7_copyOfRangeByte_39247 12 rfl) rfl ?_
  refine sw_iconst (x := 0) O (xx_dt dd_J7_copyOfRangeByte_39247 13 rfl) (by decide) ?_
  refine sw_aload_n O (xx_dt dd_J7_copyOfRangeByte_39247 14 rfl) rfl ?_
  refine sw_alen (t := 102) O (xx_dt dd_J7_copyOfRangeByte_39247 15 rfl) (by omega) (by omega) (by rw [xx_up_ne hvu]; exact hv) ?_
  refine sw_iload_n O (xx_dt dd_J7_copyOfRangeByte_39247 16 rfl) rfl ?_
  refine sw_isub O (xx_dt dd_J7_copyOfRangeByte_39247 17 rfl) ?_
  rw [show nI 16 - nI 0 = nI 16 from xx_sub0 _]
  refine sw_iload_n O (xx_dt dd_J7_copyOfRangeByte_39247 18 rfl) rfl ?_
  refine sw_min (x := nI 16) (y := nI c) O mm_J7_304 (xx_dt dd_J7_copyOfRangeByte_39247 19 rfl) (by omega) (Nat.le_of_ble_eq_true rfl) ?_
  rw [if_pos ((nI_ltI (a := c) (b := 16) (by omega) (by omega)).mpr (by omega))]
  refine sw_copyB (h2' := xx_up h u (102, c, fun j => if j < c then G j else .int 0)) O ay_J7_150 (xx_dt dd_J7_copyOfRangeByte_39247 20 rfl) (by rw [xx_up_ne hvu]; exact hv) (xx_up_eq _ _ _) h9 (xx_nlt0 c (by omega)) (by rw [nI_clamp (by omega)]; omega) (by rw [nI_clamp (by omega)]; exact Nat.le_refl _) (fun j hj => ?_) (by omega) (by decide +kernel) ?_ ?_
  · rw [nI_clamp (by omega)] at hj
    exact hG j hj
  · rw [xx_up_up, nI_clamp (by omega)]
  refine sw_aload O (xx_dt dd_J7_copyOfRangeByte_39247 21 rfl) rfl ?_
  exact sw_aret O (xx_dt dd_J7_copyOfRangeByte_39247 22 rfl) rfl (.inr ⟨_, rfl⟩) (by rw [hQ]; exact ⟨rfl, rfl⟩)
theorem sb_copyR {l : Launch} {h : XH} (hl : l.stackTraces = false) {v u c : Nat} {G : Nat → Value} (hv : h v = some (102, 16, G)) (hu : h u = none) (h9 : 1000 ≤ u) (hc : c < 16) (hG : ∀ j, j < c → ∃ z : Int32, G j = .int z ∧ fits .byte (.int z) = true)  : XEx l m_J7_copyOfRange_39247 2 1 c [.ref v, .int (nI 0), .int (nI c)] (h) (some (.ref u)) (xx_up h u (102, c, fun j => if j < c then G j else .int 0)) := by
  refine XMet.of hl rfl rfl (Nat.le_of_ble_eq_true rfl) (fun Y O hh hQ => ?_)
  show SW Y 1 c (h) 0 [.ref v, .int (nI 0), .int (nI c)] []
  refine sw_iload_n O (xx_dt dd_J7_copyOfRange_39247 0 rfl) rfl ?_
  refine sw_if_ne (tgt := 10) O (xx_dt dd_J7_copyOfRange_39247 1 rfl) (by decide) (fun q => absurd rfl q) (fun _ => ?_)
  refine sw_iload_n O (xx_dt dd_J7_copyOfRange_39247 2 rfl) rfl ?_
  refine sw_aload_n O (xx_dt dd_J7_copyOfRange_39247 3 rfl) rfl ?_
  refine sw_alen (t := 102) O (xx_dt dd_J7_copyOfRange_39247 4 rfl) (by omega) (by omega) hv ?_
  refine sw_icmp_eq (tgt := 17) O (xx_dt dd_J7_copyOfRange_39247 5 rfl) (by decide) (fun q => absurd q (fun q => absurd (congrArg cn q) (by rw [cn_nI (by omega), cn_nI (by omega)]; omega))) (fun _ => ?_)
  refine sw_aload_n O (xx_dt dd_J7_copyOfRange_39247 6 rfl) rfl ?_
  refine sw_iload_n O (xx_dt dd_J7_copyOfRange_39247 7 rfl) rfl ?_
  refine sw_iload_n O (xx_dt dd_J7_copyOfRange_39247 8 rfl) rfl ?_
  refine xx_wid (k' := 0 + 1) (n' := 0 + c) (by omega) (by omega) (sw_callSx (k := 0) (n := 0) (k' := 1) (n' := c) (as := [.ref v, .int (nI 0), .int (nI c)]) (st := []) (st2 := [.ref u]) O (sb_copyRB hl hv hu h9 hc hG) ce_J7_copyOfRangeByte_39247 ml_J7_339 st_J7_copyOfRangeByte_39247 (xx_dt dd_J7_copyOfRange_39247 9 rfl) (by decide) rfl rfl (Nat.le_of_ble_eq_true rfl) rfl ?_)
  exact sw_aret O (xx_dt dd_J7_copyOfRange_39247 10 rfl) rfl (.inr ⟨_, rfl⟩) (by rw [hQ]; exact ⟨rfl, rfl⟩)
def xx_so (u : Nat) : Nat → Value := updV (updV (fun j => defaultValue (tyJ0 j)) 1 (.int 0)) 0 (.ref u)
theorem sb_sinit2 {l : Launch} {h : XH} (hl : l.stackTraces = false) {r v c t u : Nat} {b : Int32} {G : Nat → Value} (hr : h r = some (1, 4, xx_sb v c b)) (hv : h v = some (102, 16, G)) (ht : h t = some (0, 4, fun j => defaultValue (tyJ0 j))) (hu : h u = none) (h1 : 1000 ≤ t) (h9 : 1000 ≤ u) (hc : c < 16) (hG : ∀ j, j < c → ∃ z : Int32, G j = .int z ∧ fits .byte (.int z) = true)  : XEx l m_J0_init_db425 3 1 c [.ref t, .ref r, .null] (h) (none) (xx_up (xx_up h t (0, 4, xx_so u)) u (102, c, fun j => if j < c then G j else .int 0)) := by
  refine XMet.of hl rfl rfl (Nat.le_of_ble_eq_true rfl) (fun Y O hh hQ => ?_)
  have hrt : r ≠ t := fun q => by rw [q, ht] at hr; cases hr
  have hvt : v ≠ t := fun q => by rw [q, ht] at hv; cases hv
  have htu : t ≠ u := fun q => by rw [q, hu] at ht; cases ht
  show SW Y 1 c (h) 0 [.ref t, .ref r, .null, xx_d, xx_d] []
  refine sw_aload_n O (xx_dt dd_J0_init_db425 0 rfl) rfl ?_
  refine sw_objInit O oi_J0_1 (xx_dt dd_J0_init_db425 1 rfl) (by omega) (Nat.le_of_ble_eq_true rfl) ?_
  refine sw_aload_n O (xx_dt dd_J0_init_db425 2 rfl) rfl ?_
  refine sw_callWx (k := 1) (n := c) (k' := 0) (n' := 0) (as := []) (st := []) (st2 := [.ref v]) O (sb_getValue hl hr) ce_J5_getValue_6d5f1 mk_J0_552 slc_J5_getValue_6d5f1 cl_J4 (hr) (xx_dt dd_J0_init_db425 3 rfl) (by decide) rfl rfl (Nat.le_of_ble_eq_true rfl) rfl ?_
  refine sw_astore_n (ls2 := [.ref t, .ref r, .null, .ref v, xx_d]) O (xx_dt dd_J0_init_db425 4 rfl) (by decide) rfl ?_
  refine sw_aload_n O (xx_dt dd_J0_init_db425 5 rfl) rfl ?_
  refine sw_callUx (k := 1) (n := c) (k' := 0) (n' := 0) (as := []) (st := []) (st2 := [.int (nI c)]) O (sb_length hl hr) ce_J4_length_8abf5 ov_J0_549 cl_J4 hr (xx_dt dd_J0_init_db425 6 rfl) (by decide) rfl rfl (Nat.le_of_ble_eq_true rfl) rfl ?_
  refine sw_istore (ls2 := [.ref t, .ref r, .null, .ref v, .int (nI c)]) O (xx_dt dd_J0_init_db425 7 rfl) (by decide) rfl ?_
  refine sw_aload_n O (xx_dt dd_J0_init_db425 8 rfl) rfl ?_
  refine sw_callWx (k := 1) (n := c) (k' := 0) (n' := 0) (as := []) (st := []) (st2 := [.int 1]) O (sb_isLatin1 hl hr) ce_J5_isLatin1_aae02 mk_J0_1047 slc_J5_isLatin1_aae02 cl_J4 (hr) (xx_dt dd_J0_init_db425 9 rfl) (by decide) rfl rfl (Nat.le_of_ble_eq_true rfl) rfl ?_
  refine sw_if_eq (tgt := 41) O (xx_dt dd_J0_init_db425 10 rfl) (by decide) (fun q => absurd q (by decide)) (fun _ => ?_)
  refine sw_aload_n O (xx_dt dd_J0_init_db425 11 rfl) rfl ?_
  refine sw_iconst (x := 0) O (xx_dt dd_J0_init_db425 12 rfl) (by decide) ?_
  refine sw_putF (h2 := xx_up h t (0, 4, updV (fun j => defaultValue (tyJ0 j)) 1 (.int 0))) O (xx_dt dd_J0_init_db425 13 rfl) cl_J0 fz_J0_15 ht (by decide) h1 rfl rfl (fun _ => ⟨rfl, rfl⟩) rfl ?_
  refine sw_aload_n O (xx_dt dd_J0_init_db425 14 rfl) rfl ?_
  refine sw_aload_n O (xx_dt dd_J0_init_db425 15 rfl) rfl ?_
  refine sw_iconst (x := 0) O (xx_dt dd_J0_init_db425 16 rfl) (by decide) ?_
  refine sw_iload O (xx_dt dd_J0_init_db425 17 rfl) rfl ?_
  refine xx_wid (k' := 0 + 1) (n' := 0 + c) (by omega) (by omega) (sw_callSx (k := 0) (n := 0) (k' := 1) (n' := c) (as := [.ref v, .int (nI 0), .int (nI c)]) (st := [.ref t]) (st2 := [.ref u, .ref t]) O (sb_copyR hl (v := v) (u := u) (c := c) (G := G) (by rw [xx_up_ne hvt]; exact hv) (by rw [xx_up_ne (Ne.symm htu)]; exact hu) h9 hc hG) ce_J7_copyOfRange_39247 ml_J0_54 st_J7_copyOfRange_39247 (xx_dt dd_J0_init_db425 18 rfl) (by decide) rfl rfl (Nat.le_of_ble_eq_true rfl) rfl ?_)
  refine sw_putF (h2 := xx_up (xx_up h t (0, 4, xx_so u)) u (102, c, fun j => if j < c then G j else .int 0)) O (xx_dt dd_J0_init_db425 19 rfl) cl_J0 fz_J0_9 (by rw [xx_up_ne htu]; exact xx_up_eq _ _ _) (by decide) h1 rfl rfl (fun _ => ⟨rfl, rfl⟩) (by rw [← xx_up_sw htu, xx_up_up]; rfl) ?_
  refine sw_goto (tgt := 97) O (xx_dt dd_J0_init_db425 20 rfl) (by decide) ?_
  exact sw_ret O (xx_dt dd_J0_init_db425 50 rfl) rfl (by rw [hQ]; exact ⟨rfl, rfl⟩)
theorem sb_sinit {l : Launch} {h : XH} (hl : l.stackTraces = false) {r v c t u : Nat} {b : Int32} {G : Nat → Value} (hr : h r = some (1, 4, xx_sb v c b)) (hv : h v = some (102, 16, G)) (ht : h t = some (0, 4, fun j => defaultValue (tyJ0 j))) (hu : h u = none) (h1 : 1000 ≤ t) (h9 : 1000 ≤ u) (hc : c < 16) (hG : ∀ j, j < c → ∃ z : Int32, G j = .int z ∧ fits .byte (.int z) = true)  : XEx l m_J0_init_81219 4 1 c [.ref t, .ref r] (h) (none) (xx_up (xx_up h t (0, 4, xx_so u)) u (102, c, fun j => if j < c then G j else .int 0)) := by
  refine XMet.of hl rfl rfl (Nat.le_of_ble_eq_true rfl) (fun Y O hh hQ => ?_)
  show SW Y 1 c (h) 0 [.ref t, .ref r] []
  refine sw_aload_n O (xx_dt dd_J0_init_81219 0 rfl) rfl ?_
  refine sw_aload_n O (xx_dt dd_J0_init_81219 1 rfl) rfl ?_
  refine sw_null O (xx_dt dd_J0_init_81219 2 rfl) ?_
  refine xx_wid (k' := 0 + 1) (n' := 0 + c) (by omega) (by omega) (sw_callIx (k := 0) (n := 0) (k' := 1) (n' := c) (as := [.ref r, .null]) (st := []) (st2 := []) O (sb_sinit2 hl hr hv ht hu h1 h9 hc hG) ce_J0_init_db425 ml_J0_489 ii_J0_init_db425 (xx_dt dd_J0_init_81219 3 rfl) (by decide) rfl rfl (Nat.le_of_ble_eq_true rfl) rfl ?_)
  exact sw_ret O (xx_dt dd_J0_init_81219 4 rfl) rfl (by rw [hQ]; exact ⟨rfl, rfl⟩)
theorem sb_toString {l : Launch} {h : XH} (hl : l.stackTraces = false) {r v c t u : Nat} {b : Int32} {G : Nat → Value} (hr : h r = some (1, 4, xx_sb v c b)) (hv : h v = some (102, 16, G)) (ht : h t = none) (hu : h u = none) (h1 : 1000 ≤ t) (h9 : 1000 ≤ u) (hc : c < 16) (hG : ∀ j, j < c → ∃ z : Int32, G j = .int z ∧ fits .byte (.int z) = true) (htu : t ≠ u)  : XEx l m_J4_toString_0e30d 5 2 (c + 4) [.ref r] (h) (some (.ref t)) (xx_up (xx_up h t (0, 4, xx_so u)) u (102, c, fun j => if j < c then G j else .int 0)) := by
  refine XMet.of hl rfl rfl (Nat.le_of_ble_eq_true rfl) (fun Y O hh hQ => ?_)
  have hrt : r ≠ t := fun q => by rw [q, ht] at hr; cases hr
  have hvt : v ≠ t := fun q => by rw [q, ht] at hv; cases hv
  show SW Y 2 (c + 4) (h) 0 [.ref r] []
  refine sw_new (k := 1) (n := c) (r := t) O (xx_dt dd_J4_toString_0e30d 0 rfl) cl_J0 nw_J4_18 ht h1 ?_
  rw [xx_blk_up]
  refine sw_dup O (xx_dt dd_J4_toString_0e30d 1 rfl) rfl ?_
  refine sw_aload_n O (xx_dt dd_J4_toString_0e30d 2 rfl) rfl ?_
  refine xx_wid (k' := 0 + 1) (n' := 0 + c) (by omega) (by omega) (sw_callIx (k := 0) (n := 0) (k' := 1) (n' := c) (as := [.ref r]) (st := [.ref t]) (st2 := [.ref t]) O (sb_sinit hl (r := r) (v := v) (c := c) (t := t) (u := u) (b := b) (G := G) (by rw [xx_up_ne hrt]; exact hr) (by rw [xx_up_ne hvt]; exact hv) (xx_up_eq _ _ _) (by rw [xx_up_ne (Ne.symm htu)]; exact hu) h1 h9 hc hG) ce_J0_init_81219 ml_J4_137 ii_J0_init_81219 (xx_dt dd_J4_toString_0e30d 3 rfl) (by decide) rfl rfl (Nat.le_of_ble_eq_true rfl) rfl ?_)
  rw [xx_up_up]
  exact sw_aret O (xx_dt dd_J4_toString_0e30d 4 rfl) rfl (.inl ⟨_, rfl⟩) (by rw [hQ]; exact ⟨rfl, rfl⟩)
end
