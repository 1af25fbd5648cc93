/-! ===== constructors with rows of -1 ===== -/
theorem lyr_1140 {k : Nat} (hk : k < 5) (s : Nat → Int32) : lyC (1141 + k) s = some (100, 5, fun j => .int (s j)) := by
  have := lr_1140 (fun _ => s) (fun _ => none) hk
  unfold setC at this
  rw [if_pos (by omega)] at this
  exact this
def zR1140 (z : XS9) (n : Nat) : XS9 := fun q => if 1141 ≤ q ∧ q < 1141 + n then (fun _ => -1) else z q
theorem zR1140_s (z : XS9) (n : Nat) : (fun q => if q = 1141 + n then (fun _ => (-1 : Int32)) else zR1140 z n q) = zR1140 z (n + 1) := by
  funext q
  unfold zR1140
  by_cases e : q = 1141 + n
  · rw [if_pos e, if_pos (by omega)]
  · rw [if_neg e]
    by_cases e2 : 1141 ≤ q ∧ q < 1141 + n
    · rw [if_pos e2, if_pos (by omega)]
    · rw [if_neg e2, if_neg (by omega)]
theorem lyr_1050 {k : Nat} (hk : k < 64) (s : Nat → Int32) : lyC (1051 + k) s = some (100, 6, fun j => .int (s j)) := by
  have := lr_1050 (fun _ => s) (fun _ => none) hk
  unfold setC at this
  rw [if_pos (by omega)] at this
  exact this
def zR1050 (z : XS9) (n : Nat) : XS9 := fun q => if 1051 ≤ q ∧ q < 1051 + n then (fun _ => -1) else z q
theorem zR1050_s (z : XS9) (n : Nat) : (fun q => if q = 1051 + n then (fun _ => (-1 : Int32)) else zR1050 z n q) = zR1050 z (n + 1) := by
  funext q
  unfold zR1050
  by_cases e : q = 1051 + n
  · rw [if_pos e, if_pos (by omega)]
  · rw [if_neg e]
    by_cases e2 : 1051 ≤ q ∧ q < 1051 + n
    · rw [if_pos e2, if_pos (by omega)]
    · rw [if_neg e2, if_neg (by omega)]
theorem ct_X3_init {l : Launch} {h : XH} (hl : l.stackTraces = false) (hf : ∀ q, 1000 ≤ q → q < 4000 → q ≠ 1005 → h q = none) (hb : h 1005 = some (9, 2, fun j => defaultValue (tyX3 j))) : XEx l m_X3_init 1 6 30 [.ref 1005] h none (setI [(1005, 1), (1140, 6)] s0C h) := by
  refine XMet.of hl rfl rfl (Nat.le_of_ble_eq_true rfl) (fun Y O hh hQ => ?_)
  have fr_1140 : ∀ {q : Nat}, q < 6 → inI [] (1140 + q) = false := by decide
  have mb_1140 : ∀ i, i < 6 → lyC (1140 + i) (z9 (1140 + i)) = some (if i = 0 then (103, 5, fun q => .ref (1140 + 1 + q)) else (100, 5, fun _ => .int 0)) := by
    intro i hi
    cases i with
    | zero => rfl
    | succ k =>
      have h9 := lr_1140 z9 (fun _ => none) (k := k) (by omega)
      unfold setC at h9
      rw [if_pos (by omega)] at h9
      rw [show 1140 + (k + 1) = 1141 + k by omega, if_neg (by omega)]
      exact h9
  rw [show h = xx_up (setI [] z9 h) 1005 (9, 2, fun j => defaultValue (tyX3 j)) from (xx_up_self hb).symm]
  show SW Y 6 30 _ 0 [.ref 1005, xx_d] []
  refine sw_aload_n O (xx_dt dd_X3_init 0 rfl) rfl ?_
  refine sw_objInit O oi_X3_3 (xx_dt dd_X3_init 1 rfl) (by omega) (Nat.le_of_ble_eq_true rfl) ?_
  refine sw_aload_n O (xx_dt dd_X3_init 2 rfl) rfl ?_
  refine sw_iconst (x := 5) O (xx_dt dd_X3_init 3 rfl) (by decide) ?_
  refine sw_iconst (x := 5) O (xx_dt dd_X3_init 4 rfl) (by decide) ?_
  refine sw_multi (k := 0) (n := 0) (N := 5) (K := 5) (r := 1140) O (xx_dt dd_X3_init 5 rfl) mu_X3_9 (by decide) (by decide) (by decide) (by decide) (by omega) (by omega) (fun q hq => ob_free (by omega) (fr_1140 hq) (hf _ (by omega) (by omega) (by omega))) (by omega) ?_
  rw [ob_new (by omega) mb_1140]
  refine sw_putF (h2 := xx_up (setI [(1140, 6)] z9 h) 1005 (9, 2, updV (fun j => defaultValue (tyX3 j)) 0 (.ref 1140))) O (xx_dt dd_X3_init 6 rfl) cl_X3 fz_X3_11 (xx_up_eq _ _ _) (by decide) (by omega) rfl rfl (fun _ => ⟨rfl, rfl⟩) xx_up_up ?_
  refine sw_alter (r := 1005) (t := 9) (N := 2) (F2 := fun k => match k with | 0 => .ref (1140) | 1 => .int (z9 1005 1) | _ => .null) (xx_up_eq _ _ _) (fun j hj => ?_) ?_
  · match j, hj with
    | 0, _ => rfl
    | 1, _ => rfl
  rw [xx_up_up, ob_done (σ' := z9) rfl (fun _ _ _ => rfl)]
  refine sw_iconst (x := 0) O (xx_dt dd_X3_init 7 rfl) (by decide) ?_
  refine sw_istore_n (ls2 := [.ref 1005, .int 0]) O (xx_dt dd_X3_init 8 rfl) (by decide) rfl ?_
  rw [show setI [(1005, 1), (1140, 6)] z9 h = setI [(1005, 1), (1140, 6)] (zR1140 z9 0) h from setI_congr (fun q hq => by unfold zR1140; rw [if_neg (by omega)])]
  refine sw_for (S := Nat) (fun i _ => i + 1) (fun i s => s = i) (hp := fun s => setI [(1005, 1), (1140, 6)] (zR1140 z9 s) h) (hd := 16) (lc := fun i s => [.ref 1005, .int (nI i)]) (N := 5) (fun i s hi hs => ⟨rfl, fun kk => ?_⟩) 5 0 0 (by omega) rfl (fun hs => ?_)
  · subst hs
    refine sw_iload_n O (xx_dt dd_X3_init 9 rfl) rfl ?_
    refine sw_iconst (x := 5) O (xx_dt dd_X3_init 10 rfl) (by decide) ?_
    refine sw_icmp_ge (tgt := 37) O (xx_dt dd_X3_init 11 rfl) (by decide) (fun q => absurd q (nI_ge (b := 5) hi (by omega))) (fun q => ?_)
    refine sw_aload_n O (xx_dt dd_X3_init 12 rfl) rfl ?_
    refine sw_get (v := .ref 1140) O (xx_dt dd_X3_init 13 rfl) cl_X3 fl_X3_11 (f := fun k => match k with | 0 => .ref (1140) | 1 => .int ((zR1140 z9 s) 1005 1) | _ => .null) (setI_in (by decide)) (by decide) rfl ?_
    refine sw_iload_n O (xx_dt dd_X3_init 14 rfl) rfl ?_
    refine sw_aaload (t := 103) (N := 5) (f := fun k => .ref (1141 + k)) (v := .ref (1141 + s)) O (xx_dt dd_X3_init 15 rfl) (by omega) (by omega) (setI_in (by decide)) (pk_in s 5 hi) (by rw [nI_clamp (by omega)]) ?_
    refine sw_iconst (x := (-1)) O (xx_dt dd_X3_init 16 rfl) (by decide) ?_
    refine sw_callSx (as := [.ref (1141 + s), .int (-1)]) (st := []) (st2 := []) O (ct_fillG hl (a := 1141 + s) (n := 5) (x := -1) (F := fun k => .int ((zR1140 z9 s) (1141 + s) k)) ((setI_in (by simp only [inI, List.any_cons, List.any_nil, Bool.or_false, Bool.or_eq_true, decide_eq_true_eq]; omega)).trans (lyr_1140 hi _)) (by omega) (by omega)) ce_J7_fill_53178 ml_X3_16 st_J7_fill_53178 (xx_dt dd_X3_init 17 rfl) (by decide) rfl rfl (Nat.le_of_ble_eq_true rfl) rfl ?_
    rw [setI_up (x := fun _ => -1) (by simp only [inI, List.any_cons, List.any_nil, Bool.or_false, Bool.or_eq_true, decide_eq_true_eq]; omega) (lyr_1140 hi _), zR1140_s]
    refine sw_iinc (y := nI (s + 1)) (ls2 := [.ref 1005, .int (nI (s + 1))]) O (xx_dt dd_X3_init 18 rfl) rfl (nI_1 _) (by decide) rfl ?_
    refine sw_goto (tgt := 16) O (xx_dt dd_X3_init 19 rfl) (by decide) ?_
    exact kk
  · generalize hz : xit (fun i _ => i + 1) 5 0 0 = z at hs ⊢
    subst hs
    refine sw_iload_n O (xx_dt dd_X3_init 9 rfl) rfl ?_
    refine sw_iconst (x := 5) O (xx_dt dd_X3_init 10 rfl) (by decide) ?_
    refine sw_icmp_ge (tgt := 37) O (xx_dt dd_X3_init 11 rfl) (by decide) (fun q => ?_) (fun q => absurd (Int32.le_refl _) q)
    rw [show setI [(1005, 1), (1140, 6)] (zR1140 z9 5) h = setI [(1005, 1), (1140, 6)] s0C h from setI_congr (fun q hq => by
      simp only [inI, List.any_cons, List.any_nil, Bool.or_false, Bool.or_eq_true, decide_eq_true_eq] at hq
      unfold zR1140
      by_cases e : 1141 ≤ q ∧ q < 1141 + 5
      · rw [if_pos e]
        funext k
        unfold s0C
        rw [if_neg (by omega), if_neg (by omega), if_pos (by omega)]
      · rw [if_neg e]
        exact (s0C_z (by omega) (by omega) (by omega) (by omega)).symm)]
    exact sw_ret O (xx_dt dd_X3_init 20 rfl) rfl (by rw [hQ]; exact ⟨rfl, rfl⟩)
