/-! ===== constructors ===== -/
def inI (I : List (Nat × Nat)) (q : Nat) : Bool := I.any fun p => decide (p.1 ≤ q ∧ q < p.1 + p.2)
def setI (I : List (Nat × Nat)) (σ : XS9) (h : XH) : XH := fun q => if inI I q = true then lyC q (σ q) else h q
theorem inI_cons {I : List (Nat × Nat)} {r N q : Nat} : inI ((r, N) :: I) q = (decide (r ≤ q ∧ q < r + N) || inI I q) := rfl
theorem setI_blk {I : List (Nat × Nat)} {σ : XS9} {h : XH} {r N : Nat} {c : Nat → XC} (hc : ∀ i, i < N → lyC (r + i) (σ (r + i)) = some (c i)) : xx_blk (setI I σ h) r N c = setI ((r, N) :: I) σ h := by
  funext q
  unfold xx_blk setI
  rw [inI_cons]
  by_cases e : r ≤ q ∧ q < r + N
  · rw [if_pos e, decide_eq_true e, Bool.true_or, if_pos rfl]
    have := hc (q - r) (by omega)
    rw [show r + (q - r) = q by omega] at this
    exact this.symm
  · rw [if_neg e, decide_eq_false e, Bool.false_or]
theorem blk_up {A : XH} {b r N : Nat} {F : XC} {c : Nat → XC} (hb : b < r ∨ r + N ≤ b) : xx_blk (xx_up A b F) r N c = xx_up (xx_blk A r N c) b F := by
  funext q
  unfold xx_blk xx_up
  by_cases e : q = b
  · subst e
    rw [if_neg (by omega), if_pos rfl, if_pos rfl]
  · rw [if_neg e, if_neg e]
theorem ob_new {I : List (Nat × Nat)} {σ : XS9} {h : XH} {b r N : Nat} {F : XC} {c : Nat → XC} (hb : b < r ∨ r + N ≤ b) (hc : ∀ i, i < N → lyC (r + i) (σ (r + i)) = some (c i)) : xx_blk (xx_up (setI I σ h) b F) r N c = xx_up (setI ((r, N) :: I) σ h) b F := by rw [blk_up hb, setI_blk hc]
theorem ob_free {I : List (Nat × Nat)} {σ : XS9} {h : XH} {b r : Nat} {F : XC} (hb : r ≠ b) (hI : inI I r = false) (hf : h r = none) : xx_up (setI I σ h) b F r = none := by
  rw [xx_up_ne hb]
  unfold setI
  rw [hI]
  exact hf
theorem ob_done {I : List (Nat × Nat)} {σ σ' : XS9} {h : XH} {b : Nat} {F : XC} (hF : lyC b (σ' b) = some F) (hI : ∀ q, inI I q = true → q ≠ b → σ' q = σ q) : xx_up (setI I σ h) b F = setI ((b, 1) :: I) σ' h := by
  funext q
  unfold xx_up setI
  rw [inI_cons]
  by_cases e : q = b
  · subst e
    rw [if_pos rfl, decide_eq_true (show q ≤ q ∧ q < q + 1 by omega), Bool.true_or, if_pos rfl, hF]
  · rw [if_neg e, decide_eq_false (show ¬ (b ≤ q ∧ q < b + 1) by omega), Bool.false_or]
    by_cases e2 : inI I q = true
    · rw [if_pos e2, if_pos e2, hI q e2 e]
    · rw [if_neg e2, if_neg e2]
theorem setI_nil {σ : XS9} {h : XH} : setI [] σ h = h := rfl
def z9 : XS9 := fun _ _ => 0
def s0C : XS9 := fun q k => if q = 1001 then (if k = 10 then 5 else if k = 11 then 1 else 0) else if q = 1042 then (if k = 0 then 0 else -1) else if (1051 ≤ q ∧ q ≤ 1114) ∨ q = 1043 ∨ q = 1040 ∨ (1141 ≤ q ∧ q ≤ 1145) then -1 else if q = 1000 ∧ k = 8 then 10 else 0
theorem s0C_z {q : Nat} (h1 : q ≠ 1001) (h2 : q ≠ 1042) (h3 : ¬ ((1051 ≤ q ∧ q ≤ 1114) ∨ q = 1043 ∨ q = 1040 ∨ (1141 ≤ q ∧ q ≤ 1145))) (h4 : q ≠ 1000) : s0C q = z9 q := by
  funext k
  unfold s0C z9
  rw [if_neg h1, if_neg h2, if_neg h3, if_neg (fun e => h4 e.1)]
theorem xx_cell.alter {D : XD} {ρ : Nat → Nat} {ow : Nat → Option Nat} {r t N : Nat} {F F2 : Nat → Value} {H : Heap} (h : xx_cell D ρ ow r (t, N, F) H) (hF : ∀ j, j < N → F j = F2 j) : xx_cell D ρ ow r (t, N, F2) H :=
  ⟨fun q => (h.1 q).ren rfl (fun j hj => congrArg (xx_v ρ) (hF j hj).symm), fun q => (h.2 q).ren rfl (fun _ z => z) (fun j hj => congrArg (xx_v ρ) (hF j hj).symm)⟩
theorem sw_alter {Y : XY} {k n pc r t N : Nat} {h : XH} {ls st : List Value} {F F2 : Nat → Value} (hc : h r = some (t, N, F)) (hF : ∀ j, j < N → F j = F2 j) (kk : SW Y k n (xx_up h r (t, N, F2)) pc ls st) : SW Y k n h pc ls st := by
  intro ρ ow H locs cells slots lsA r9
  have hd : ∀ a, (h a).isSome = true → (xx_up h r (t, N, F2) a).isSome = true := fun a ha => xx_up_in ha
  obtain ⟨s1, s2, s3, s4, s5⟩ := r9.1
  refine kk ρ ow H locs cells slots lsA (r9.view ⟨s1, s2, s3, fun q c hq => ?_, fun q c j hq hj => ?_⟩ (fun a _ => rfl) (fun a ha => hd a (r9.2.1 a ha).1) (fun v hv => xx_in_of hd (r9.lcl v hv)) (fun v hv => xx_in_of hd (r9.stk v hv)))
  · by_cases e : q = r
    · subst e
      rw [xx_up_eq] at hq
      cases hq
      exact ⟨(s4 q _ hc).1, (s4 q _ hc).2.alter hF⟩
    · rw [xx_up_ne e] at hq
      exact s4 q c hq
  · by_cases e : q = r
    · subst e
      rw [xx_up_eq] at hq
      cases hq
      have := s5 q _ j hc hj
      rw [show (t, N, F).2.2 j = F2 j from hF j hj] at this
      exact xx_in_of hd this
    · rw [xx_up_ne e] at hq
      exact xx_in_of hd (s5 q c j hq hj)
/-- the cells of the class are free -/
def xx_fC (h : XH) : Prop := ∀ q, 1000 ≤ q → q < 4000 → h q = none
theorem ct_X5_init {l : Launch} {h : XH} (hl : l.stackTraces = false) (hf : ∀ q, 1150 ≤ q → q < 1154 → q ≠ 1006 → h q = none) (hb : h 1006 = some (11, 5, fun j => defaultValue (tyX5 j))) : XEx l m_X5_init 1 4 36 [.ref 1006] h none (setI [(1006, 1), (1153, 1), (1152, 1), (1151, 1), (1150, 1)] s0C h) := by
  refine XMet.of hl rfl rfl (Nat.le_of_ble_eq_true rfl) (fun Y O hh hQ => ?_)
  rw [show h = xx_up (setI [] z9 h) 1006 (11, 5, fun j => defaultValue (tyX5 j)) from (xx_up_self hb).symm]
  show SW Y 4 36 _ 0 [.ref 1006] []
  refine sw_aload_n O (xx_dt dd_X5_init 0 rfl) rfl ?_
  refine sw_objInit O oi_X5_3 (xx_dt dd_X5_init 1 rfl) (by omega) (Nat.le_of_ble_eq_true rfl) ?_
  refine sw_aload_n O (xx_dt dd_X5_init 2 rfl) rfl ?_
  refine sw_bipush (x := 10) O (xx_dt dd_X5_init 3 rfl) (by decide) ?_
  refine sw_newarray (k := 3) (n := 26) (t := 100) (N := 10) (r := 1150) O (xx_dt dd_X5_init 4 rfl) ⟨⟨by omega, by omega⟩, rfl⟩ ac_int (by decide) (by decide) (by decide) (ob_free (by decide) (by decide) (hf 1150 (by omega) (by omega) (by omega))) (by omega) ?_
  rw [ob_new (by omega) (fun i hi => by obtain rfl : i = 0 := (by omega); rfl)]
  refine sw_putF (h2 := xx_up (setI [(1150, 1)] z9 h) 1006 (11, 5, updV (fun j => defaultValue (tyX5 j)) 0 (.ref 1150))) O (xx_dt dd_X5_init 5 rfl) cl_X5 fz_X5_9 (xx_up_eq _ _ _) (by decide) (by omega) rfl rfl (fun _ => ⟨rfl, rfl⟩) xx_up_up ?_
  refine sw_aload_n O (xx_dt dd_X5_init 6 rfl) rfl ?_
  refine sw_bipush (x := 10) O (xx_dt dd_X5_init 7 rfl) (by decide) ?_
  refine sw_newarray (k := 2) (n := 16) (t := 100) (N := 10) (r := 1151) O (xx_dt dd_X5_init 8 rfl) ⟨⟨by omega, by omega⟩, rfl⟩ ac_int (by decide) (by decide) (by decide) (ob_free (by decide) (by decide) (hf 1151 (by omega) (by omega) (by omega))) (by omega) ?_
  rw [ob_new (by omega) (fun i hi => by obtain rfl : i = 0 := (by omega); rfl)]
  refine sw_putF (h2 := xx_up (setI [(1151, 1), (1150, 1)] z9 h) 1006 (11, 5, updV (updV (fun j => defaultValue (tyX5 j)) 0 (.ref 1150)) 2 (.ref 1151))) O (xx_dt dd_X5_init 9 rfl) cl_X5 fz_X5_15 (xx_up_eq _ _ _) (by decide) (by omega) rfl rfl (fun _ => ⟨rfl, rfl⟩) xx_up_up ?_
  refine sw_aload_n O (xx_dt dd_X5_init 10 rfl) rfl ?_
  refine sw_bipush (x := 10) O (xx_dt dd_X5_init 11 rfl) (by decide) ?_
  refine sw_newarray (k := 1) (n := 6) (t := 100) (N := 10) (r := 1152) O (xx_dt dd_X5_init 12 rfl) ⟨⟨by omega, by omega⟩, rfl⟩ ac_int (by decide) (by decide) (by decide) (ob_free (by decide) (by decide) (hf 1152 (by omega) (by omega) (by omega))) (by omega) ?_
  rw [ob_new (by omega) (fun i hi => by obtain rfl : i = 0 := (by omega); rfl)]
  refine sw_putF (h2 := xx_up (setI [(1152, 1), (1151, 1), (1150, 1)] z9 h) 1006 (11, 5, updV (updV (updV (fun j => defaultValue (tyX5 j)) 0 (.ref 1150)) 2 (.ref 1151)) 3 (.ref 1152))) O (xx_dt dd_X5_init 13 rfl) cl_X5 fz_X5_18 (xx_up_eq _ _ _) (by decide) (by omega) rfl rfl (fun _ => ⟨rfl, rfl⟩) xx_up_up ?_
  refine sw_aload_n O (xx_dt dd_X5_init 14 rfl) rfl ?_
  refine sw_bipush (x := 6) O (xx_dt dd_X5_init 15 rfl) (by decide) ?_
  refine sw_newarray (k := 0) (n := 0) (t := 100) (N := 6) (r := 1153) O (xx_dt dd_X5_init 16 rfl) ⟨⟨by omega, by omega⟩, rfl⟩ ac_int (by decide) (by decide) (by decide) (ob_free (by decide) (by decide) (hf 1153 (by omega) (by omega) (by omega))) (by omega) ?_
  rw [ob_new (by omega) (fun i hi => by obtain rfl : i = 0 := (by omega); rfl)]
  refine sw_putF (h2 := xx_up (setI [(1153, 1), (1152, 1), (1151, 1), (1150, 1)] z9 h) 1006 (11, 5, updV (updV (updV (updV (fun j => defaultValue (tyX5 j)) 0 (.ref 1150)) 2 (.ref 1151)) 3 (.ref 1152)) 4 (.ref 1153))) O (xx_dt dd_X5_init 17 rfl) cl_X5 fz_X5_21 (xx_up_eq _ _ _) (by decide) (by omega) rfl rfl (fun _ => ⟨rfl, rfl⟩) xx_up_up ?_
  refine sw_alter (r := 1006) (t := 11) (N := 5) (F2 := fun k => match k with | 0 => .ref (1150) | 1 => .int (s0C 1006 1) | 2 => .ref (1151) | 3 => .ref (1152) | 4 => .ref (1153) | _ => .null) (xx_up_eq _ _ _) (fun j hj => ?_) ?_
  · match j, hj with
    | 0, _ => rfl
    | 1, _ => rfl
    | 2, _ => rfl
    | 3, _ => rfl
    | 4, _ => rfl
  rw [xx_up_up, ob_done (σ' := s0C) rfl (fun q hq hne => by simp only [inI, List.any_cons, List.any_nil, Bool.or_false, Bool.or_eq_true, decide_eq_true_eq] at hq; exact s0C_z (by omega) (by omega) (by omega) (by omega))]
  exact sw_ret O (xx_dt dd_X5_init 18 rfl) rfl (by rw [hQ]; exact ⟨rfl, rfl⟩)
theorem ct_X6_init {l : Launch} {h : XH} (hl : l.stackTraces = false) (hf : ∀ q, 1010 ≤ q → q < 1018 → q ≠ 1001 → h q = none) (hb : h 1001 = some (12, 12, fun j => defaultValue (tyX6 j))) : XEx l m_X6_init 1 8 44 [.ref 1001] h none (setI [(1001, 1), (1017, 1), (1016, 1), (1015, 1), (1014, 1), (1013, 1), (1012, 1), (1011, 1), (1010, 1)] s0C h) := by
  refine XMet.of hl rfl rfl (Nat.le_of_ble_eq_true rfl) (fun Y O hh hQ => ?_)
  rw [show h = xx_up (setI [] z9 h) 1001 (12, 12, fun j => defaultValue (tyX6 j)) from (xx_up_self hb).symm]
  show SW Y 8 44 _ 0 [.ref 1001] []
  refine sw_aload_n O (xx_dt dd_X6_init 0 rfl) rfl ?_
  refine sw_objInit O oi_X6_3 (xx_dt dd_X6_init 1 rfl) (by omega) (Nat.le_of_ble_eq_true rfl) ?_
  refine sw_aload_n O (xx_dt dd_X6_init 2 rfl) rfl ?_
  refine sw_iconst (x := 5) O (xx_dt dd_X6_init 3 rfl) (by decide) ?_
  refine sw_newarray (k := 7) (n := 39) (t := 100) (N := 5) (r := 1010) O (xx_dt dd_X6_init 4 rfl) ⟨⟨by omega, by omega⟩, rfl⟩ ac_int (by decide) (by decide) (by decide) (ob_free (by decide) (by decide) (hf 1010 (by omega) (by omega) (by omega))) (by omega) ?_
  rw [ob_new (by omega) (fun i hi => by obtain rfl : i = 0 := (by omega); rfl)]
  refine sw_putF (h2 := xx_up (setI [(1010, 1)] z9 h) 1001 (12, 12, updV (fun j => defaultValue (tyX6 j)) 0 (.ref 1010))) O (xx_dt dd_X6_init 5 rfl) cl_X6 fz_X6_9 (xx_up_eq _ _ _) (by decide) (by omega) rfl rfl (fun _ => ⟨rfl, rfl⟩) xx_up_up ?_
  refine sw_aload_n O (xx_dt dd_X6_init 6 rfl) rfl ?_
  refine sw_iconst (x := 5) O (xx_dt dd_X6_init 7 rfl) (by decide) ?_
  refine sw_newarray (k := 6) (n := 34) (t := 100) (N := 5) (r := 1011) O (xx_dt dd_X6_init 8 rfl) ⟨⟨by omega, by omega⟩, rfl⟩ ac_int (by decide) (by decide) (by decide) (ob_free (by decide) (by decide) (hf 1011 (by omega) (by omega) (by omega))) (by omega) ?_
  rw [ob_new (by omega) (fun i hi => by obtain rfl : i = 0 := (by omega); rfl)]
  refine sw_putF (h2 := xx_up (setI [(1011, 1), (1010, 1)] z9 h) 1001 (12, 12, updV (updV (fun j => defaultValue (tyX6 j)) 0 (.ref 1010)) 1 (.ref 1011))) O (xx_dt dd_X6_init 9 rfl) cl_X6 fz_X6_15 (xx_up_eq _ _ _) (by decide) (by omega) rfl rfl (fun _ => ⟨rfl, rfl⟩) xx_up_up ?_
  refine sw_aload_n O (xx_dt dd_X6_init 10 rfl) rfl ?_
  refine sw_iconst (x := 5) O (xx_dt dd_X6_init 11 rfl) (by decide) ?_
  refine sw_newarray (k := 5) (n := 29) (t := 100) (N := 5) (r := 1012) O (xx_dt dd_X6_init 12 rfl) ⟨⟨by omega, by omega⟩, rfl⟩ ac_int (by decide) (by decide) (by decide) (ob_free (by decide) (by decide) (hf 1012 (by omega) (by omega) (by omega))) (by omega) ?_
  rw [ob_new (by omega) (fun i hi => by obtain rfl : i = 0 := (by omega); rfl)]
  refine sw_putF (h2 := xx_up (setI [(1012, 1), (1011, 1), (1010, 1)] z9 h) 1001 (12, 12, updV (updV (updV (fun j => defaultValue (tyX6 j)) 0 (.ref 1010)) 1 (.ref 1011)) 2 (.ref 1012))) O (xx_dt dd_X6_init 13 rfl) cl_X6 fz_X6_18 (xx_up_eq _ _ _) (by decide) (by omega) rfl rfl (fun _ => ⟨rfl, rfl⟩) xx_up_up ?_
  refine sw_aload_n O (xx_dt dd_X6_init 14 rfl) rfl ?_
  refine sw_iconst (x := 5) O (xx_dt dd_X6_init 15 rfl) (by decide) ?_
  refine sw_newarray (k := 4) (n := 24) (t := 100) (N := 5) (r := 1013) O (xx_dt dd_X6_init 16 rfl) ⟨⟨by omega, by omega⟩, rfl⟩ ac_int (by decide) (by decide) (by decide) (ob_free (by decide) (by decide) (hf 1013 (by omega) (by omega) (by omega))) (by omega) ?_
  rw [ob_new (by omega) (fun i hi => by obtain rfl : i = 0 := (by omega); rfl)]
  refine sw_putF (h2 := xx_up (setI [(1013, 1), (1012, 1), (1011, 1), (1010, 1)] z9 h) 1001 (12, 12, updV (updV (updV (updV (fun j => defaultValue (tyX6 j)) 0 (.ref 1010)) 1 (.ref 1011)) 2 (.ref 1012)) 3 (.ref 1013))) O (xx_dt dd_X6_init 17 rfl) cl_X6 fz_X6_21 (xx_up_eq _ _ _) (by decide) (by omega) rfl rfl (fun _ => ⟨rfl, rfl⟩) xx_up_up ?_
  refine sw_aload_n O (xx_dt dd_X6_init 18 rfl) rfl ?_
  refine sw_bipush (x := 6) O (xx_dt dd_X6_init 19 rfl) (by decide) ?_
  refine sw_newarray (k := 3) (n := 18) (t := 100) (N := 6) (r := 1014) O (xx_dt dd_X6_init 20 rfl) ⟨⟨by omega, by omega⟩, rfl⟩ ac_int (by decide) (by decide) (by decide) (ob_free (by decide) (by decide) (hf 1014 (by omega) (by omega) (by omega))) (by omega) ?_
  rw [ob_new (by omega) (fun i hi => by obtain rfl : i = 0 := (by omega); rfl)]
  refine sw_putF (h2 := xx_up (setI [(1014, 1), (1013, 1), (1012, 1), (1011, 1), (1010, 1)] z9 h) 1001 (12, 12, updV (updV (updV (updV (updV (fun j => defaultValue (tyX6 j)) 0 (.ref 1010)) 1 (.ref 1011)) 2 (.ref 1012)) 3 (.ref 1013)) 5 (.ref 1014))) O (xx_dt dd_X6_init 21 rfl) cl_X6 fz_X6_24 (xx_up_eq _ _ _) (by decide) (by omega) rfl rfl (fun _ => ⟨rfl, rfl⟩) xx_up_up ?_
  refine sw_aload_n O (xx_dt dd_X6_init 22 rfl) rfl ?_
  refine sw_bipush (x := 6) O (xx_dt dd_X6_init 23 rfl) (by decide) ?_
  refine sw_newarray (k := 2) (n := 12) (t := 100) (N := 6) (r := 1015) O (xx_dt dd_X6_init 24 rfl) ⟨⟨by omega, by omega⟩, rfl⟩ ac_int (by decide) (by decide) (by decide) (ob_free (by decide) (by decide) (hf 1015 (by omega) (by omega) (by omega))) (by omega) ?_
  rw [ob_new (by omega) (fun i hi => by obtain rfl : i = 0 := (by omega); rfl)]
  refine sw_putF (h2 := xx_up (setI [(1015, 1), (1014, 1), (1013, 1), (1012, 1), (1011, 1), (1010, 1)] z9 h) 1001 (12, 12, updV (updV (updV (updV (updV (updV (fun j => defaultValue (tyX6 j)) 0 (.ref 1010)) 1 (.ref 1011)) 2 (.ref 1012)) 3 (.ref 1013)) 5 (.ref 1014)) 6 (.ref 1015))) O (xx_dt dd_X6_init 25 rfl) cl_X6 fz_X6_27 (xx_up_eq _ _ _) (by decide) (by omega) rfl rfl (fun _ => ⟨rfl, rfl⟩) xx_up_up ?_
  refine sw_aload_n O (xx_dt dd_X6_init 26 rfl) rfl ?_
  refine sw_bipush (x := 6) O (xx_dt dd_X6_init 27 rfl) (by decide) ?_
  refine sw_newarray (k := 1) (n := 6) (t := 100) (N := 6) (r := 1016) O (xx_dt dd_X6_init 28 rfl) ⟨⟨by omega, by omega⟩, rfl⟩ ac_int (by decide) (by decide) (by decide) (ob_free (by decide) (by decide) (hf 1016 (by omega) (by omega) (by omega))) (by omega) ?_
  rw [ob_new (by omega) (fun i hi => by obtain rfl : i = 0 := (by omega); rfl)]
  refine sw_putF (h2 := xx_up (setI [(1016, 1), (1015, 1), (1014, 1), (1013, 1), (1012, 1), (1011, 1), (1010, 1)] z9 h) 1001 (12, 12, updV (updV (updV (updV (updV (updV (updV (fun j => defaultValue (tyX6 j)) 0 (.ref 1010)) 1 (.ref 1011)) 2 (.ref 1012)) 3 (.ref 1013)) 5 (.ref 1014)) 6 (.ref 1015)) 7 (.ref 1016))) O (xx_dt dd_X6_init 29 rfl) cl_X6 fz_X6_30 (xx_up_eq _ _ _) (by decide) (by omega) rfl rfl (fun _ => ⟨rfl, rfl⟩) xx_up_up ?_
  refine sw_aload_n O (xx_dt dd_X6_init 30 rfl) rfl ?_
  refine sw_bipush (x := 6) O (xx_dt dd_X6_init 31 rfl) (by decide) ?_
  refine sw_newarray (k := 0) (n := 0) (t := 100) (N := 6) (r := 1017) O (xx_dt dd_X6_init 32 rfl) ⟨⟨by omega, by omega⟩, rfl⟩ ac_int (by decide) (by decide) (by decide) (ob_free (by decide) (by decide) (hf 1017 (by omega) (by omega) (by omega))) (by omega) ?_
  rw [ob_new (by omega) (fun i hi => by obtain rfl : i = 0 := (by omega); rfl)]
  refine sw_putF (h2 := xx_up (setI [(1017, 1), (1016, 1), (1015, 1), (1014, 1), (1013, 1), (1012, 1), (1011, 1), (1010, 1)] z9 h) 1001 (12, 12, updV (updV (updV (updV (updV (updV (updV (updV (fun j => defaultValue (tyX6 j)) 0 (.ref 1010)) 1 (.ref 1011)) 2 (.ref 1012)) 3 (.ref 1013)) 5 (.ref 1014)) 6 (.ref 1015)) 7 (.ref 1016)) 8 (.ref 1017))) O (xx_dt dd_X6_init 33 rfl) cl_X6 fz_X6_33 (xx_up_eq _ _ _) (by decide) (by omega) rfl rfl (fun _ => ⟨rfl, rfl⟩) xx_up_up ?_
  refine sw_aload_n O (xx_dt dd_X6_init 34 rfl) rfl ?_
  refine sw_iconst (x := 5) O (xx_dt dd_X6_init 35 rfl) (by decide) ?_
  refine sw_put (h2 := xx_up (setI [(1017, 1), (1016, 1), (1015, 1), (1014, 1), (1013, 1), (1012, 1), (1011, 1), (1010, 1)] z9 h) 1001 (12, 12, updV (updV (updV (updV (updV (updV (updV (updV (updV (fun j => defaultValue (tyX6 j)) 0 (.ref 1010)) 1 (.ref 1011)) 2 (.ref 1012)) 3 (.ref 1013)) 5 (.ref 1014)) 6 (.ref 1015)) 7 (.ref 1016)) 8 (.ref 1017)) 10 (.int 5))) O (xx_dt dd_X6_init 36 rfl) cl_X6 fl_X6_36 (xx_up_eq _ _ _) (by decide) (by omega) rfl (fun _ => ⟨rfl, rfl⟩) xx_up_up ?_
  refine sw_aload_n O (xx_dt dd_X6_init 37 rfl) rfl ?_
  refine sw_iconst (x := 1) O (xx_dt dd_X6_init 38 rfl) (by decide) ?_
  refine sw_put (h2 := xx_up (setI [(1017, 1), (1016, 1), (1015, 1), (1014, 1), (1013, 1), (1012, 1), (1011, 1), (1010, 1)] z9 h) 1001 (12, 12, updV (updV (updV (updV (updV (updV (updV (updV (updV (updV (fun j => defaultValue (tyX6 j)) 0 (.ref 1010)) 1 (.ref 1011)) 2 (.ref 1012)) 3 (.ref 1013)) 5 (.ref 1014)) 6 (.ref 1015)) 7 (.ref 1016)) 8 (.ref 1017)) 10 (.int 5)) 11 (.int 1))) O (xx_dt dd_X6_init 39 rfl) cl_X6 fl_X6_40 (xx_up_eq _ _ _) (by decide) (by omega) rfl (fun _ => ⟨rfl, rfl⟩) xx_up_up ?_
  refine sw_alter (r := 1001) (t := 12) (N := 12) (F2 := fun k => match k with | 0 => .ref (1010) | 1 => .ref (1011) | 2 => .ref (1012) | 3 => .ref (1013) | 4 => .int (s0C 1001 4) | 5 => .ref (1014) | 6 => .ref (1015) | 7 => .ref (1016) | 8 => .ref (1017) | 9 => .int (s0C 1001 9) | 10 => .int (s0C 1001 10) | 11 => .int (s0C 1001 11) | _ => .null) (xx_up_eq _ _ _) (fun j hj => ?_) ?_
  · match j, hj with
    | 0, _ => rfl
    | 1, _ => rfl
    | 2, _ => rfl
    | 3, _ => rfl
    | 4, _ => rfl
    | 5, _ => rfl
    | 6, _ => rfl
    | 7, _ => rfl
    | 8, _ => rfl
    | 9, _ => rfl
    | 10, _ => rfl
    | 11, _ => rfl
  rw [xx_up_up, ob_done (σ' := s0C) rfl (fun q hq hne => by simp only [inI, List.any_cons, List.any_nil, Bool.or_false, Bool.or_eq_true, decide_eq_true_eq] at hq; exact s0C_z (by omega) (by omega) (by omega) (by omega))]
  exact sw_ret O (xx_dt dd_X6_init 40 rfl) rfl (by rw [hQ]; exact ⟨rfl, rfl⟩)
theorem ct_X4_init {l : Launch} {h : XH} (hl : l.stackTraces = false) (hf : ∀ q, 1130 ≤ q → q < 1134 → q ≠ 1004 → h q = none) (hb : h 1004 = some (10, 1, fun j => defaultValue (tyX4 j))) : XEx l m_X4_init 1 4 21 [.ref 1004] h none (setI [(1004, 1), (1130, 4)] s0C h) := by
  refine XMet.of hl rfl rfl (Nat.le_of_ble_eq_true rfl) (fun Y O hh hQ => ?_)
  have fr_1130 : ∀ {q : Nat}, q < 4 → inI [] (1130 + q) = false := by decide
  have mb_1130 : ∀ i, i < 4 → lyC (1130 + i) (z9 (1130 + i)) = some (if i = 0 then (103, 3, fun q => .ref (1130 + 1 + q)) else (100, 6, fun _ => .int 0)) := by
    intro i hi
    cases i with
    | zero => rfl
    | succ k =>
      have h9 := lr_1130 z9 (fun _ => none) (k := k) (by omega)
      unfold setC at h9
      rw [if_pos (by omega)] at h9
      rw [show 1130 + (k + 1) = 1131 + k by omega, if_neg (by omega)]
      exact h9
  rw [show h = xx_up (setI [] z9 h) 1004 (10, 1, fun j => defaultValue (tyX4 j)) from (xx_up_self hb).symm]
  show SW Y 4 21 _ 0 [.ref 1004] []
  refine sw_aload_n O (xx_dt dd_X4_init 0 rfl) rfl ?_
  refine sw_objInit O oi_X4_3 (xx_dt dd_X4_init 1 rfl) (by omega) (Nat.le_of_ble_eq_true rfl) ?_
  refine sw_aload_n O (xx_dt dd_X4_init 2 rfl) rfl ?_
  refine sw_iconst (x := 3) O (xx_dt dd_X4_init 3 rfl) (by decide) ?_
  refine sw_bipush (x := 6) O (xx_dt dd_X4_init 4 rfl) (by decide) ?_
  refine sw_multi (k := 0) (n := 0) (N := 3) (K := 6) (r := 1130) O (xx_dt dd_X4_init 5 rfl) mu_X4_9 (by decide) (by decide) (by decide) (by decide) (by omega) (by omega) (fun q hq => ob_free (by omega) (fr_1130 hq) (hf _ (by omega) (by omega) (by omega))) (by omega) ?_
  rw [ob_new (by omega) mb_1130]
  refine sw_putF (h2 := xx_up (setI [(1130, 4)] z9 h) 1004 (10, 1, updV (fun j => defaultValue (tyX4 j)) 0 (.ref 1130))) O (xx_dt dd_X4_init 6 rfl) cl_X4 fz_X4_11 (xx_up_eq _ _ _) (by decide) (by omega) rfl rfl (fun _ => ⟨rfl, rfl⟩) xx_up_up ?_
  refine sw_alter (r := 1004) (t := 10) (N := 1) (F2 := fun k => match k with | 0 => .ref (1130) | _ => .null) (xx_up_eq _ _ _) (fun j hj => ?_) ?_
  · match j, hj with
    | 0, _ => rfl
  rw [xx_up_up, ob_done (σ' := s0C) rfl (fun q hq hne => by simp only [inI, List.any_cons, List.any_nil, Bool.or_false, Bool.or_eq_true, decide_eq_true_eq] at hq; exact s0C_z (by omega) (by omega) (by omega) (by omega))]
  exact sw_ret O (xx_dt dd_X4_init 7 rfl) rfl (by rw [hQ]; exact ⟨rfl, rfl⟩)
theorem ct_X1_init_2000 {l : Launch} {h : XH} (hl : l.stackTraces = false) (hf : ∀ q, 2001 ≤ q → q < 2400 → q ≠ 2000 → h q = none) (hb : h 2000 = some (7, 13, fun j => defaultValue (tyX1 j))) : XEx l m_X1_init 1 191 1355 [.ref 2000] h none (setI [(2000, 1), (2008, 1), (2007, 1), (2300, 61), (2200, 61), (2100, 61), (2006, 1), (2005, 1), (2004, 1), (2003, 1), (2002, 1), (2001, 1)] s0C h) := by
  refine XMet.of hl rfl rfl (Nat.le_of_ble_eq_true rfl) (fun Y O hh hQ => ?_)
  have fr_2100 : ∀ {q : Nat}, q < 61 → inI [(2006, 1), (2005, 1), (2004, 1), (2003, 1), (2002, 1), (2001, 1)] (2100 + q) = false := by decide
  have mb_2100 : ∀ i, i < 61 → lyC (2100 + i) (z9 (2100 + i)) = some (if i = 0 then (103, 60, fun q => .ref (2100 + 1 + q)) else (100, 5, fun _ => .int 0)) := by
    intro i hi
    cases i with
    | zero => rfl
    | succ k =>
      have h9 := lkr_100 z9 (fun _ => none) (b := 2000) (.inl rfl) (k := k) (by omega)
      unfold setC at h9
      rw [if_pos (by omega)] at h9
      rw [show 2100 + (k + 1) = 2000 + 101 + k by omega, if_neg (by omega)]
      exact h9
  have fr_2200 : ∀ {q : Nat}, q < 61 → inI [(2100, 61), (2006, 1), (2005, 1), (2004, 1), (2003, 1), (2002, 1), (2001, 1)] (2200 + q) = false := by decide
  have mb_2200 : ∀ i, i < 61 → lyC (2200 + i) (z9 (2200 + i)) = some (if i = 0 then (103, 60, fun q => .ref (2200 + 1 + q)) else (100, 6, fun _ => .int 0)) := by
    intro i hi
    cases i with
    | zero => rfl
    | succ k =>
      have h9 := lkr_200 z9 (fun _ => none) (b := 2000) (.inl rfl) (k := k) (by omega)
      unfold setC at h9
      rw [if_pos (by omega)] at h9
      rw [show 2200 + (k + 1) = 2000 + 201 + k by omega, if_neg (by omega)]
      exact h9
  have fr_2300 : ∀ {q : Nat}, q < 61 → inI [(2200, 61), (2100, 61), (2006, 1), (2005, 1), (2004, 1), (2003, 1), (2002, 1), (2001, 1)] (2300 + q) = false := by decide
  have mb_2300 : ∀ i, i < 61 → lyC (2300 + i) (z9 (2300 + i)) = some (if i = 0 then (103, 60, fun q => .ref (2300 + 1 + q)) else (100, 6, fun _ => .int 0)) := by
    intro i hi
    cases i with
    | zero => rfl
    | succ k =>
      have h9 := lkr_300 z9 (fun _ => none) (b := 2000) (.inl rfl) (k := k) (by omega)
      unfold setC at h9
      rw [if_pos (by omega)] at h9
      rw [show 2300 + (k + 1) = 2000 + 301 + k by omega, if_neg (by omega)]
      exact h9
  rw [show h = xx_up (setI [] z9 h) 2000 (7, 13, fun j => defaultValue (tyX1 j)) from (xx_up_self hb).symm]
  show SW Y 191 1355 _ 0 [.ref 2000] []
  refine sw_aload_n O (xx_dt dd_X1_init 0 rfl) rfl ?_
  refine sw_objInit O oi_X1_3 (xx_dt dd_X1_init 1 rfl) (by omega) (Nat.le_of_ble_eq_true rfl) ?_
  refine sw_aload_n O (xx_dt dd_X1_init 2 rfl) rfl ?_
  refine sw_iconst (x := 5) O (xx_dt dd_X1_init 3 rfl) (by decide) ?_
  refine sw_newarray (k := 190) (n := 1350) (t := 100) (N := 5) (r := 2001) O (xx_dt dd_X1_init 4 rfl) ⟨⟨by omega, by omega⟩, rfl⟩ ac_int (by decide) (by decide) (by decide) (ob_free (by decide) (by decide) (hf 2001 (by omega) (by omega) (by omega))) (by omega) ?_
  rw [ob_new (by omega) (fun i hi => by obtain rfl : i = 0 := (by omega); rfl)]
  refine sw_putF (h2 := xx_up (setI [(2001, 1)] z9 h) 2000 (7, 13, updV (fun j => defaultValue (tyX1 j)) 0 (.ref 2001))) O (xx_dt dd_X1_init 5 rfl) cl_X1 fz_X1_9 (xx_up_eq _ _ _) (by decide) (by omega) rfl rfl (fun _ => ⟨rfl, rfl⟩) xx_up_up ?_
  refine sw_aload_n O (xx_dt dd_X1_init 6 rfl) rfl ?_
  refine sw_bipush (x := 6) O (xx_dt dd_X1_init 7 rfl) (by decide) ?_
  refine sw_newarray (k := 189) (n := 1344) (t := 100) (N := 6) (r := 2002) O (xx_dt dd_X1_init 8 rfl) ⟨⟨by omega, by omega⟩, rfl⟩ ac_int (by decide) (by decide) (by decide) (ob_free (by decide) (by decide) (hf 2002 (by omega) (by omega) (by omega))) (by omega) ?_
  rw [ob_new (by omega) (fun i hi => by obtain rfl : i = 0 := (by omega); rfl)]
  refine sw_putF (h2 := xx_up (setI [(2002, 1), (2001, 1)] z9 h) 2000 (7, 13, updV (updV (fun j => defaultValue (tyX1 j)) 0 (.ref 2001)) 1 (.ref 2002))) O (xx_dt dd_X1_init 9 rfl) cl_X1 fz_X1_15 (xx_up_eq _ _ _) (by decide) (by omega) rfl rfl (fun _ => ⟨rfl, rfl⟩) xx_up_up ?_
  refine sw_aload_n O (xx_dt dd_X1_init 10 rfl) rfl ?_
  refine sw_bipush (x := 6) O (xx_dt dd_X1_init 11 rfl) (by decide) ?_
  refine sw_newarray (k := 188) (n := 1338) (t := 100) (N := 6) (r := 2003) O (xx_dt dd_X1_init 12 rfl) ⟨⟨by omega, by omega⟩, rfl⟩ ac_int (by decide) (by decide) (by decide) (ob_free (by decide) (by decide) (hf 2003 (by omega) (by omega) (by omega))) (by omega) ?_
  rw [ob_new (by omega) (fun i hi => by obtain rfl : i = 0 := (by omega); rfl)]
  refine sw_putF (h2 := xx_up (setI [(2003, 1), (2002, 1), (2001, 1)] z9 h) 2000 (7, 13, updV (updV (updV (fun j => defaultValue (tyX1 j)) 0 (.ref 2001)) 1 (.ref 2002)) 2 (.ref 2003))) O (xx_dt dd_X1_init 13 rfl) cl_X1 fz_X1_18 (xx_up_eq _ _ _) (by decide) (by omega) rfl rfl (fun _ => ⟨rfl, rfl⟩) xx_up_up ?_
  refine sw_aload_n O (xx_dt dd_X1_init 14 rfl) rfl ?_
  refine sw_bipush (x := 6) O (xx_dt dd_X1_init 15 rfl) (by decide) ?_
  refine sw_newarray (k := 187) (n := 1332) (t := 100) (N := 6) (r := 2004) O (xx_dt dd_X1_init 16 rfl) ⟨⟨by omega, by omega⟩, rfl⟩ ac_int (by decide) (by decide) (by decide) (ob_free (by decide) (by decide) (hf 2004 (by omega) (by omega) (by omega))) (by omega) ?_
  rw [ob_new (by omega) (fun i hi => by obtain rfl : i = 0 := (by omega); rfl)]
  refine sw_putF (h2 := xx_up (setI [(2004, 1), (2003, 1), (2002, 1), (2001, 1)] z9 h) 2000 (7, 13, updV (updV (updV (updV (fun j => defaultValue (tyX1 j)) 0 (.ref 2001)) 1 (.ref 2002)) 2 (.ref 2003)) 3 (.ref 2004))) O (xx_dt dd_X1_init 17 rfl) cl_X1 fz_X1_21 (xx_up_eq _ _ _) (by decide) (by omega) rfl rfl (fun _ => ⟨rfl, rfl⟩) xx_up_up ?_
  refine sw_aload_n O (xx_dt dd_X1_init 18 rfl) rfl ?_
  refine sw_bipush (x := 6) O (xx_dt dd_X1_init 19 rfl) (by decide) ?_
  refine sw_newarray (k := 186) (n := 1326) (t := 100) (N := 6) (r := 2005) O (xx_dt dd_X1_init 20 rfl) ⟨⟨by omega, by omega⟩, rfl⟩ ac_int (by decide) (by decide) (by decide) (ob_free (by decide) (by decide) (hf 2005 (by omega) (by omega) (by omega))) (by omega) ?_
  rw [ob_new (by omega) (fun i hi => by obtain rfl : i = 0 := (by omega); rfl)]
  refine sw_putF (h2 := xx_up (setI [(2005, 1), (2004, 1), (2003, 1), (2002, 1), (2001, 1)] z9 h) 2000 (7, 13, updV (updV (updV (updV (updV (fun j => defaultValue (tyX1 j)) 0 (.ref 2001)) 1 (.ref 2002)) 2 (.ref 2003)) 3 (.ref 2004)) 4 (.ref 2005))) O (xx_dt dd_X1_init 21 rfl) cl_X1 fz_X1_24 (xx_up_eq _ _ _) (by decide) (by omega) rfl rfl (fun _ => ⟨rfl, rfl⟩) xx_up_up ?_
  refine sw_aload_n O (xx_dt dd_X1_init 22 rfl) rfl ?_
  refine sw_bipush (x := 6) O (xx_dt dd_X1_init 23 rfl) (by decide) ?_
  refine sw_newarray (k := 185) (n := 1320) (t := 100) (N := 6) (r := 2006) O (xx_dt dd_X1_init 24 rfl) ⟨⟨by omega, by omega⟩, rfl⟩ ac_int (by decide) (by decide) (by decide) (ob_free (by decide) (by decide) (hf 2006 (by omega) (by omega) (by omega))) (by omega) ?_
  rw [ob_new (by omega) (fun i hi => by obtain rfl : i = 0 := (by omega); rfl)]
  refine sw_putF (h2 := xx_up (setI [(2006, 1), (2005, 1), (2004, 1), (2003, 1), (2002, 1), (2001, 1)] z9 h) 2000 (7, 13, updV (updV (updV (updV (updV (updV (fun j => defaultValue (tyX1 j)) 0 (.ref 2001)) 1 (.ref 2002)) 2 (.ref 2003)) 3 (.ref 2004)) 4 (.ref 2005)) 5 (.ref 2006))) O (xx_dt dd_X1_init 25 rfl) cl_X1 fz_X1_27 (xx_up_eq _ _ _) (by decide) (by omega) rfl rfl (fun _ => ⟨rfl, rfl⟩) xx_up_up ?_
  refine sw_aload_n O (xx_dt dd_X1_init 26 rfl) rfl ?_
  refine sw_bipush (x := 60) O (xx_dt dd_X1_init 27 rfl) (by decide) ?_
  refine sw_iconst (x := 5) O (xx_dt dd_X1_init 28 rfl) (by decide) ?_
  refine sw_multi (k := 124) (n := 960) (N := 60) (K := 5) (r := 2100) O (xx_dt dd_X1_init 29 rfl) mu_X1_30 (by decide) (by decide) (by decide) (by decide) (by omega) (by omega) (fun q hq => ob_free (by omega) (fr_2100 hq) (hf _ (by omega) (by omega) (by omega))) (by omega) ?_
  rw [ob_new (by omega) mb_2100]
  refine sw_putF (h2 := xx_up (setI [(2100, 61), (2006, 1), (2005, 1), (2004, 1), (2003, 1), (2002, 1), (2001, 1)] z9 h) 2000 (7, 13, updV (updV (updV (updV (updV (updV (updV (fun j => defaultValue (tyX1 j)) 0 (.ref 2001)) 1 (.ref 2002)) 2 (.ref 2003)) 3 (.ref 2004)) 4 (.ref 2005)) 5 (.ref 2006)) 6 (.ref 2100))) O (xx_dt dd_X1_init 30 rfl) cl_X1 fz_X1_32 (xx_up_eq _ _ _) (by decide) (by omega) rfl rfl (fun _ => ⟨rfl, rfl⟩) xx_up_up ?_
  refine sw_aload_n O (xx_dt dd_X1_init 31 rfl) rfl ?_
  refine sw_bipush (x := 60) O (xx_dt dd_X1_init 32 rfl) (by decide) ?_
  refine sw_bipush (x := 6) O (xx_dt dd_X1_init 33 rfl) (by decide) ?_
  refine sw_multi (k := 63) (n := 540) (N := 60) (K := 6) (r := 2200) O (xx_dt dd_X1_init 34 rfl) mu_X1_30 (by decide) (by decide) (by decide) (by decide) (by omega) (by omega) (fun q hq => ob_free (by omega) (fr_2200 hq) (hf _ (by omega) (by omega) (by omega))) (by omega) ?_
  rw [ob_new (by omega) mb_2200]
  refine sw_putF (h2 := xx_up (setI [(2200, 61), (2100, 61), (2006, 1), (2005, 1), (2004, 1), (2003, 1), (2002, 1), (2001, 1)] z9 h) 2000 (7, 13, updV (updV (updV (updV (updV (updV (updV (updV (fun j => defaultValue (tyX1 j)) 0 (.ref 2001)) 1 (.ref 2002)) 2 (.ref 2003)) 3 (.ref 2004)) 4 (.ref 2005)) 5 (.ref 2006)) 6 (.ref 2100)) 7 (.ref 2200))) O (xx_dt dd_X1_init 35 rfl) cl_X1 fz_X1_35 (xx_up_eq _ _ _) (by decide) (by omega) rfl rfl (fun _ => ⟨rfl, rfl⟩) xx_up_up ?_
  refine sw_aload_n O (xx_dt dd_X1_init 36 rfl) rfl ?_
  refine sw_bipush (x := 60) O (xx_dt dd_X1_init 37 rfl) (by decide) ?_
  refine sw_bipush (x := 6) O (xx_dt dd_X1_init 38 rfl) (by decide) ?_
  refine sw_multi (k := 2) (n := 120) (N := 60) (K := 6) (r := 2300) O (xx_dt dd_X1_init 39 rfl) mu_X1_30 (by decide) (by decide) (by decide) (by decide) (by omega) (by omega) (fun q hq => ob_free (by omega) (fr_2300 hq) (hf _ (by omega) (by omega) (by omega))) (by omega) ?_
  rw [ob_new (by omega) mb_2300]
  refine sw_putF (h2 := xx_up (setI [(2300, 61), (2200, 61), (2100, 61), (2006, 1), (2005, 1), (2004, 1), (2003, 1), (2002, 1), (2001, 1)] z9 h) 2000 (7, 13, updV (updV (updV (updV (updV (updV (updV (updV (updV (fun j => defaultValue (tyX1 j)) 0 (.ref 2001)) 1 (.ref 2002)) 2 (.ref 2003)) 3 (.ref 2004)) 4 (.ref 2005)) 5 (.ref 2006)) 6 (.ref 2100)) 7 (.ref 2200)) 8 (.ref 2300))) O (xx_dt dd_X1_init 40 rfl) cl_X1 fz_X1_38 (xx_up_eq _ _ _) (by decide) (by omega) rfl rfl (fun _ => ⟨rfl, rfl⟩) xx_up_up ?_
  refine sw_aload_n O (xx_dt dd_X1_init 41 rfl) rfl ?_
  refine sw_bipush (x := 60) O (xx_dt dd_X1_init 42 rfl) (by decide) ?_
  refine sw_newarray (k := 1) (n := 60) (t := 100) (N := 60) (r := 2007) O (xx_dt dd_X1_init 43 rfl) ⟨⟨by omega, by omega⟩, rfl⟩ ac_int (by decide) (by decide) (by decide) (ob_free (by decide) (by decide) (hf 2007 (by omega) (by omega) (by omega))) (by omega) ?_
  rw [ob_new (by omega) (fun i hi => by obtain rfl : i = 0 := (by omega); rfl)]
  refine sw_putF (h2 := xx_up (setI [(2007, 1), (2300, 61), (2200, 61), (2100, 61), (2006, 1), (2005, 1), (2004, 1), (2003, 1), (2002, 1), (2001, 1)] z9 h) 2000 (7, 13, updV (updV (updV (updV (updV (updV (updV (updV (updV (updV (fun j => defaultValue (tyX1 j)) 0 (.ref 2001)) 1 (.ref 2002)) 2 (.ref 2003)) 3 (.ref 2004)) 4 (.ref 2005)) 5 (.ref 2006)) 6 (.ref 2100)) 7 (.ref 2200)) 8 (.ref 2300)) 10 (.ref 2007))) O (xx_dt dd_X1_init 44 rfl) cl_X1 fz_X1_41 (xx_up_eq _ _ _) (by decide) (by omega) rfl rfl (fun _ => ⟨rfl, rfl⟩) xx_up_up ?_
  refine sw_aload_n O (xx_dt dd_X1_init 45 rfl) rfl ?_
  refine sw_bipush (x := 60) O (xx_dt dd_X1_init 46 rfl) (by decide) ?_
  refine sw_newarray (k := 0) (n := 0) (t := 100) (N := 60) (r := 2008) O (xx_dt dd_X1_init 47 rfl) ⟨⟨by omega, by omega⟩, rfl⟩ ac_int (by decide) (by decide) (by decide) (ob_free (by decide) (by decide) (hf 2008 (by omega) (by omega) (by omega))) (by omega) ?_
  rw [ob_new (by omega) (fun i hi => by obtain rfl : i = 0 := (by omega); rfl)]
  refine sw_putF (h2 := xx_up (setI [(2008, 1), (2007, 1), (2300, 61), (2200, 61), (2100, 61), (2006, 1), (2005, 1), (2004, 1), (2003, 1), (2002, 1), (2001, 1)] z9 h) 2000 (7, 13, updV (updV (updV (updV (updV (updV (updV (updV (updV (updV (updV (fun j => defaultValue (tyX1 j)) 0 (.ref 2001)) 1 (.ref 2002)) 2 (.ref 2003)) 3 (.ref 2004)) 4 (.ref 2005)) 5 (.ref 2006)) 6 (.ref 2100)) 7 (.ref 2200)) 8 (.ref 2300)) 10 (.ref 2007)) 11 (.ref 2008))) O (xx_dt dd_X1_init 48 rfl) cl_X1 fz_X1_44 (xx_up_eq _ _ _) (by decide) (by omega) rfl rfl (fun _ => ⟨rfl, rfl⟩) xx_up_up ?_
  refine sw_alter (r := 2000) (t := 7) (N := 13) (F2 := fun k => match k with | 0 => .ref (2000 + 1) | 1 => .ref (2000 + 2) | 2 => .ref (2000 + 3) | 3 => .ref (2000 + 4) | 4 => .ref (2000 + 5) | 5 => .ref (2000 + 6) | 6 => .ref (2000 + 100) | 7 => .ref (2000 + 200) | 8 => .ref (2000 + 300) | 9 => .int (s0C 2000 9) | 10 => .ref (2000 + 7) | 11 => .ref (2000 + 8) | 12 => .int (s0C 2000 12) | _ => .null) (xx_up_eq _ _ _) (fun j hj => ?_) ?_
  · match j, hj with
    | 0, _ => rfl
    | 1, _ => rfl
    | 2, _ => rfl
    | 3, _ => rfl
    | 4, _ => rfl
    | 5, _ => rfl
    | 6, _ => rfl
    | 7, _ => rfl
    | 8, _ => rfl
    | 9, _ => rfl
    | 10, _ => rfl
    | 11, _ => rfl
    | 12, _ => rfl
  rw [xx_up_up, ob_done (σ' := s0C) rfl (fun q hq hne => by simp only [inI, List.any_cons, List.any_nil, Bool.or_false, Bool.or_eq_true, decide_eq_true_eq] at hq; exact s0C_z (by omega) (by omega) (by omega) (by omega))]
  exact sw_ret O (xx_dt dd_X1_init 49 rfl) rfl (by rw [hQ]; exact ⟨rfl, rfl⟩)
theorem ct_X1_init_3000 {l : Launch} {h : XH} (hl : l.stackTraces = false) (hf : ∀ q, 3001 ≤ q → q < 3400 → q ≠ 3000 → h q = none) (hb : h 3000 = some (7, 13, fun j => defaultValue (tyX1 j))) : XEx l m_X1_init 1 191 1355 [.ref 3000] h none (setI [(3000, 1), (3008, 1), (3007, 1), (3300, 61), (3200, 61), (3100, 61), (3006, 1), (3005, 1), (3004, 1), (3003, 1), (3002, 1), (3001, 1)] s0C h) := by
  refine XMet.of hl rfl rfl (Nat.le_of_ble_eq_true rfl) (fun Y O hh hQ => ?_)
  have fr_3100 : ∀ {q : Nat}, q < 61 → inI [(3006, 1), (3005, 1), (3004, 1), (3003, 1), (3002, 1), (3001, 1)] (3100 + q) = false := by decide
  have mb_3100 : ∀ i, i < 61 → lyC (3100 + i) (z9 (3100 + i)) = some (if i = 0 then (103, 60, fun q => .ref (3100 + 1 + q)) else (100, 5, fun _ => .int 0)) := by
    intro i hi
    cases i with
    | zero => rfl
    | succ k =>
      have h9 := lkr_100 z9 (fun _ => none) (b := 3000) (.inr rfl) (k := k) (by omega)
      unfold setC at h9
      rw [if_pos (by omega)] at h9
      rw [show 3100 + (k + 1) = 3000 + 101 + k by omega, if_neg (by omega)]
      exact h9
  have fr_3200 : ∀ {q : Nat}, q < 61 → inI [(3100, 61), (3006, 1), (3005, 1), (3004, 1), (3003, 1), (3002, 1), (3001, 1)] (3200 + q) = false := by decide
  have mb_3200 : ∀ i, i < 61 → lyC (3200 + i) (z9 (3200 + i)) = some (if i = 0 then (103, 60, fun q => .ref (3200 + 1 + q)) else (100, 6, fun _ => .int 0)) := by
    intro i hi
    cases i with
    | zero => rfl
    | succ k =>
      have h9 := lkr_200 z9 (fun _ => none) (b := 3000) (.inr rfl) (k := k) (by omega)
      unfold setC at h9
      rw [if_pos (by omega)] at h9
      rw [show 3200 + (k + 1) = 3000 + 201 + k by omega, if_neg (by omega)]
      exact h9
  have fr_3300 : ∀ {q : Nat}, q < 61 → inI [(3200, 61), (3100, 61), (3006, 1), (3005, 1), (3004, 1), (3003, 1), (3002, 1), (3001, 1)] (3300 + q) = false := by decide
  have mb_3300 : ∀ i, i < 61 → lyC (3300 + i) (z9 (3300 + i)) = some (if i = 0 then (103, 60, fun q => .ref (3300 + 1 + q)) else (100, 6, fun _ => .int 0)) := by
    intro i hi
    cases i with
    | zero => rfl
    | succ k =>
      have h9 := lkr_300 z9 (fun _ => none) (b := 3000) (.inr rfl) (k := k) (by omega)
      unfold setC at h9
      rw [if_pos (by omega)] at h9
      rw [show 3300 + (k + 1) = 3000 + 301 + k by omega, if_neg (by omega)]
      exact h9
  rw [show h = xx_up (setI [] z9 h) 3000 (7, 13, fun j => defaultValue (tyX1 j)) from (xx_up_self hb).symm]
  show SW Y 191 1355 _ 0 [.ref 3000] []
  refine sw_aload_n O (xx_dt dd_X1_init 0 rfl) rfl ?_
  refine sw_objInit O oi_X1_3 (xx_dt dd_X1_init 1 rfl) (by omega) (Nat.le_of_ble_eq_true rfl) ?_
  refine sw_aload_n O (xx_dt dd_X1_init 2 rfl) rfl ?_
  refine sw_iconst (x := 5) O (xx_dt dd_X1_init 3 rfl) (by decide) ?_
  refine sw_newarray (k := 190) (n := 1350) (t := 100) (N := 5) (r := 3001) O (xx_dt dd_X1_init 4 rfl) ⟨⟨by omega, by omega⟩, rfl⟩ ac_int (by decide) (by decide) (by decide) (ob_free (by decide) (by decide) (hf 3001 (by omega) (by omega) (by omega))) (by omega) ?_
  rw [ob_new (by omega) (fun i hi => by obtain rfl : i = 0 := (by omega); rfl)]
  refine sw_putF (h2 := xx_up (setI [(3001, 1)] z9 h) 3000 (7, 13, updV (fun j => defaultValue (tyX1 j)) 0 (.ref 3001))) O (xx_dt dd_X1_init 5 rfl) cl_X1 fz_X1_9 (xx_up_eq _ _ _) (by decide) (by omega) rfl rfl (fun _ => ⟨rfl, rfl⟩) xx_up_up ?_
  refine sw_aload_n O (xx_dt dd_X1_init 6 rfl) rfl ?_
  refine sw_bipush (x := 6) O (xx_dt dd_X1_init 7 rfl) (by decide) ?_
  refine sw_newarray (k := 189) (n := 1344) (t := 100) (N := 6) (r := 3002) O (xx_dt dd_X1_init 8 rfl) ⟨⟨by omega, by omega⟩, rfl⟩ ac_int (by decide) (by decide) (by decide) (ob_free (by decide) (by decide) (hf 3002 (by omega) (by omega) (by omega))) (by omega) ?_
  rw [ob_new (by omega) (fun i hi => by obtain rfl : i = 0 := (by omega); rfl)]
  refine sw_putF (h2 := xx_up (setI [(3002, 1), (3001, 1)] z9 h) 3000 (7, 13, updV (updV (fun j => defaultValue (tyX1 j)) 0 (.ref 3001)) 1 (.ref 3002))) O (xx_dt dd_X1_init 9 rfl) cl_X1 fz_X1_15 (xx_up_eq _ _ _) (by decide) (by omega) rfl rfl (fun _ => ⟨rfl, rfl⟩) xx_up_up ?_
  refine sw_aload_n O (xx_dt dd_X1_init 10 rfl) rfl ?_
  refine sw_bipush (x := 6) O (xx_dt dd_X1_init 11 rfl) (by decide) ?_
  refine sw_newarray (k := 188) (n := 1338) (t := 100) (N := 6) (r := 3003) O (xx_dt dd_X1_init 12 rfl) ⟨⟨by omega, by omega⟩, rfl⟩ ac_int (by decide) (by decide) (by decide) (ob_free (by decide) (by decide) (hf 3003 (by omega) (by omega) (by omega))) (by omega) ?_
  rw [ob_new (by omega) (fun i hi => by obtain rfl : i = 0 := (by omega); rfl)]
  refine sw_putF (h2 := xx_up (setI [(3003, 1), (3002, 1), (3001, 1)] z9 h) 3000 (7, 13, updV (updV (updV (fun j => defaultValue (tyX1 j)) 0 (.ref 3001)) 1 (.ref 3002)) 2 (.ref 3003))) O (xx_dt dd_X1_init 13 rfl) cl_X1 fz_X1_18 (xx_up_eq _ _ _) (by decide) (by omega) rfl rfl (fun _ => ⟨rfl, rfl⟩) xx_up_up ?_
  refine sw_aload_n O (xx_dt dd_X1_init 14 rfl) rfl ?_
  refine sw_bipush (x := 6) O (xx_dt dd_X1_init 15 rfl) (by decide) ?_
  refine sw_newarray (k := 187) (n := 1332) (t := 100) (N := 6) (r := 3004) O (xx_dt dd_X1_init 16 rfl) ⟨⟨by omega, by omega⟩, rfl⟩ ac_int (by decide) (by decide) (by decide) (ob_free (by decide) (by decide) (hf 3004 (by omega) (by omega) (by omega))) (by omega) ?_
  rw [ob_new (by omega) (fun i hi => by obtain rfl : i = 0 := (by omega); rfl)]
  refine sw_putF (h2 := xx_up (setI [(3004, 1), (3003, 1), (3002, 1), (3001, 1)] z9 h) 3000 (7, 13, updV (updV (updV (updV (fun j => defaultValue (tyX1 j)) 0 (.ref 3001)) 1 (.ref 3002)) 2 (.ref 3003)) 3 (.ref 3004))) O (xx_dt dd_X1_init 17 rfl) cl_X1 fz_X1_21 (xx_up_eq _ _ _) (by decide) (by omega) rfl rfl (fun _ => ⟨rfl, rfl⟩) xx_up_up ?_
  refine sw_aload_n O (xx_dt dd_X1_init 18 rfl) rfl ?_
  refine sw_bipush (x := 6) O (xx_dt dd_X1_init 19 rfl) (by decide) ?_
  refine sw_newarray (k := 186) (n := 1326) (t := 100) (N := 6) (r := 3005) O (xx_dt dd_X1_init 20 rfl) ⟨⟨by omega, by omega⟩, rfl⟩ ac_int (by decide) (by decide) (by decide) (ob_free (by decide) (by decide) (hf 3005 (by omega) (by omega) (by omega))) (by omega) ?_
  rw [ob_new (by omega) (fun i hi => by obtain rfl : i = 0 := (by omega); rfl)]
  refine sw_putF (h2 := xx_up (setI [(3005, 1), (3004, 1), (3003, 1), (3002, 1), (3001, 1)] z9 h) 3000 (7, 13, updV (updV (updV (updV (updV (fun j => defaultValue (tyX1 j)) 0 (.ref 3001)) 1 (.ref 3002)) 2 (.ref 3003)) 3 (.ref 3004)) 4 (.ref 3005))) O (xx_dt dd_X1_init 21 rfl) cl_X1 fz_X1_24 (xx_up_eq _ _ _) (by decide) (by omega) rfl rfl (fun _ => ⟨rfl, rfl⟩) xx_up_up ?_
  refine sw_aload_n O (xx_dt dd_X1_init 22 rfl) rfl ?_
  refine sw_bipush (x := 6) O (xx_dt dd_X1_init 23 rfl) (by decide) ?_
  refine sw_newarray (k := 185) (n := 1320) (t := 100) (N := 6) (r := 3006) O (xx_dt dd_X1_init 24 rfl) ⟨⟨by omega, by omega⟩, rfl⟩ ac_int (by decide) (by decide) (by decide) (ob_free (by decide) (by decide) (hf 3006 (by omega) (by omega) (by omega))) (by omega) ?_
  rw [ob_new (by omega) (fun i hi => by obtain rfl : i = 0 := (by omega); rfl)]
  refine sw_putF (h2 := xx_up (setI [(3006, 1), (3005, 1), (3004, 1), (3003, 1), (3002, 1), (3001, 1)] z9 h) 3000 (7, 13, updV (updV (updV (updV (updV (updV (fun j => defaultValue (tyX1 j)) 0 (.ref 3001)) 1 (.ref 3002)) 2 (.ref 3003)) 3 (.ref 3004)) 4 (.ref 3005)) 5 (.ref 3006))) O (xx_dt dd_X1_init 25 rfl) cl_X1 fz_X1_27 (xx_up_eq _ _ _) (by decide) (by omega) rfl rfl (fun _ => ⟨rfl, rfl⟩) xx_up_up ?_
  refine sw_aload_n O (xx_dt dd_X1_init 26 rfl) rfl ?_
  refine sw_bipush (x := 60) O (xx_dt dd_X1_init 27 rfl) (by decide) ?_
  refine sw_iconst (x := 5) O (xx_dt dd_X1_init 28 rfl) (by decide) ?_
  refine sw_multi (k := 124) (n := 960) (N := 60) (K := 5) (r := 3100) O (xx_dt dd_X1_init 29 rfl) mu_X1_30 (by decide) (by decide) (by decide) (by decide) (by omega) (by omega) (fun q hq => ob_free (by omega) (fr_3100 hq) (hf _ (by omega) (by omega) (by omega))) (by omega) ?_
  rw [ob_new (by omega) mb_3100]
  refine sw_putF (h2 := xx_up (setI [(3100, 61), (3006, 1), (3005, 1), (3004, 1), (3003, 1), (3002, 1), (3001, 1)] z9 h) 3000 (7, 13, updV (updV (updV (updV (updV (updV (updV (fun j => defaultValue (tyX1 j)) 0 (.ref 3001)) 1 (.ref 3002)) 2 (.ref 3003)) 3 (.ref 3004)) 4 (.ref 3005)) 5 (.ref 3006)) 6 (.ref 3100))) O (xx_dt dd_X1_init 30 rfl) cl_X1 fz_X1_32 (xx_up_eq _ _ _) (by decide) (by omega) rfl rfl (fun _ => ⟨rfl, rfl⟩) xx_up_up ?_
  refine sw_aload_n O (xx_dt dd_X1_init 31 rfl) rfl ?_
  refine sw_bipush (x := 60) O (xx_dt dd_X1_init 32 rfl) (by decide) ?_
  refine sw_bipush (x := 6) O (xx_dt dd_X1_init 33 rfl) (by decide) ?_
  refine sw_multi (k := 63) (n := 540) (N := 60) (K := 6) (r := 3200) O (xx_dt dd_X1_init 34 rfl) mu_X1_30 (by decide) (by decide) (by decide) (by decide) (by omega) (by omega) (fun q hq => ob_free (by omega) (fr_3200 hq) (hf _ (by omega) (by omega) (by omega))) (by omega) ?_
  rw [ob_new (by omega) mb_3200]
  refine sw_putF (h2 := xx_up (setI [(3200, 61), (3100, 61), (3006, 1), (3005, 1), (3004, 1), (3003, 1), (3002, 1), (3001, 1)] z9 h) 3000 (7, 13, updV (updV (updV (updV (updV (updV (updV (updV (fun j => defaultValue (tyX1 j)) 0 (.ref 3001)) 1 (.ref 3002)) 2 (.ref 3003)) 3 (.ref 3004)) 4 (.ref 3005)) 5 (.ref 3006)) 6 (.ref 3100)) 7 (.ref 3200))) O (xx_dt dd_X1_init 35 rfl) cl_X1 fz_X1_35 (xx_up_eq _ _ _) (by decide) (by omega) rfl rfl (fun _ => ⟨rfl, rfl⟩) xx_up_up ?_
  refine sw_aload_n O (xx_dt dd_X1_init 36 rfl) rfl ?_
  refine sw_bipush (x := 60) O (xx_dt dd_X1_init 37 rfl) (by decide) ?_
  refine sw_bipush (x := 6) O (xx_dt dd_X1_init 38 rfl) (by decide) ?_
  refine sw_multi (k := 2) (n := 120) (N := 60) (K := 6) (r := 3300) O (xx_dt dd_X1_init 39 rfl) mu_X1_30 (by decide) (by decide) (by decide) (by decide) (by omega) (by omega) (fun q hq => ob_free (by omega) (fr_3300 hq) (hf _ (by omega) (by omega) (by omega))) (by omega) ?_
  rw [ob_new (by omega) mb_3300]
  refine sw_putF (h2 := xx_up (setI [(3300, 61), (3200, 61), (3100, 61), (3006, 1), (3005, 1), (3004, 1), (3003, 1), (3002, 1), (3001, 1)] z9 h) 3000 (7, 13, updV (updV (updV (updV (updV (updV (updV (updV (updV (fun j => defaultValue (tyX1 j)) 0 (.ref 3001)) 1 (.ref 3002)) 2 (.ref 3003)) 3 (.ref 3004)) 4 (.ref 3005)) 5 (.ref 3006)) 6 (.ref 3100)) 7 (.ref 3200)) 8 (.ref 3300))) O (xx_dt dd_X1_init 40 rfl) cl_X1 fz_X1_38 (xx_up_eq _ _ _) (by decide) (by omega) rfl rfl (fun _ => ⟨rfl, rfl⟩) xx_up_up ?_
  refine sw_aload_n O (xx_dt dd_X1_init 41 rfl) rfl ?_
  refine sw_bipush (x := 60) O (xx_dt dd_X1_init 42 rfl) (by decide) ?_
  refine sw_newarray (k := 1) (n := 60) (t := 100) (N := 60) (r := 3007) O (xx_dt dd_X1_init 43 rfl) ⟨⟨by omega, by omega⟩, rfl⟩ ac_int (by decide) (by decide) (by decide) (ob_free (by decide) (by decide) (hf 3007 (by omega) (by omega) (by omega))) (by omega) ?_
  rw [ob_new (by omega) (fun i hi => by obtain rfl : i = 0 := (by omega); rfl)]
  refine sw_putF (h2 := xx_up (setI [(3007, 1), (3300, 61), (3200, 61), (3100, 61), (3006, 1), (3005, 1), (3004, 1), (3003, 1), (3002, 1), (3001, 1)] z9 h) 3000 (7, 13, updV (updV (updV (updV (updV (updV (updV (updV (updV (updV (fun j => defaultValue (tyX1 j)) 0 (.ref 3001)) 1 (.ref 3002)) 2 (.ref 3003)) 3 (.ref 3004)) 4 (.ref 3005)) 5 (.ref 3006)) 6 (.ref 3100)) 7 (.ref 3200)) 8 (.ref 3300)) 10 (.ref 3007))) O (xx_dt dd_X1_init 44 rfl) cl_X1 fz_X1_41 (xx_up_eq _ _ _) (by decide) (by omega) rfl rfl (fun _ => ⟨rfl, rfl⟩) xx_up_up ?_
  refine sw_aload_n O (xx_dt dd_X1_init 45 rfl) rfl ?_
  refine sw_bipush (x := 60) O (xx_dt dd_X1_init 46 rfl) (by decide) ?_
  refine sw_newarray (k := 0) (n := 0) (t := 100) (N := 60) (r := 3008) O (xx_dt dd_X1_init 47 rfl) ⟨⟨by omega, by omega⟩, rfl⟩ ac_int (by decide) (by decide) (by decide) (ob_free (by decide) (by decide) (hf 3008 (by omega) (by omega) (by omega))) (by omega) ?_
  rw [ob_new (by omega) (fun i hi => by obtain rfl : i = 0 := (by omega); rfl)]
  refine sw_putF (h2 := xx_up (setI [(3008, 1), (3007, 1), (3300, 61), (3200, 61), (3100, 61), (3006, 1), (3005, 1), (3004, 1), (3003, 1), (3002, 1), (3001, 1)] z9 h) 3000 (7, 13, updV (updV (updV (updV (updV (updV (updV (updV (updV (updV (updV (fun j => defaultValue (tyX1 j)) 0 (.ref 3001)) 1 (.ref 3002)) 2 (.ref 3003)) 3 (.ref 3004)) 4 (.ref 3005)) 5 (.ref 3006)) 6 (.ref 3100)) 7 (.ref 3200)) 8 (.ref 3300)) 10 (.ref 3007)) 11 (.ref 3008))) O (xx_dt dd_X1_init 48 rfl) cl_X1 fz_X1_44 (xx_up_eq _ _ _) (by decide) (by omega) rfl rfl (fun _ => ⟨rfl, rfl⟩) xx_up_up ?_
  refine sw_alter (r := 3000) (t := 7) (N := 13) (F2 := fun k => match k with | 0 => .ref (3000 + 1) | 1 => .ref (3000 + 2) | 2 => .ref (3000 + 3) | 3 => .ref (3000 + 4) | 4 => .ref (3000 + 5) | 5 => .ref (3000 + 6) | 6 => .ref (3000 + 100) | 7 => .ref (3000 + 200) | 8 => .ref (3000 + 300) | 9 => .int (s0C 3000 9) | 10 => .ref (3000 + 7) | 11 => .ref (3000 + 8) | 12 => .int (s0C 3000 12) | _ => .null) (xx_up_eq _ _ _) (fun j hj => ?_) ?_
  · match j, hj with
    | 0, _ => rfl
    | 1, _ => rfl
    | 2, _ => rfl
    | 3, _ => rfl
    | 4, _ => rfl
    | 5, _ => rfl
    | 6, _ => rfl
    | 7, _ => rfl
    | 8, _ => rfl
    | 9, _ => rfl
    | 10, _ => rfl
    | 11, _ => rfl
    | 12, _ => rfl
  rw [xx_up_up, ob_done (σ' := s0C) rfl (fun q hq hne => by simp only [inI, List.any_cons, List.any_nil, Bool.or_false, Bool.or_eq_true, decide_eq_true_eq] at hq; exact s0C_z (by omega) (by omega) (by omega) (by omega))]
  exact sw_ret O (xx_dt dd_X1_init 49 rfl) rfl (by rw [hQ]; exact ⟨rfl, rfl⟩)
theorem setI_up {I : List (Nat × Nat)} {σ : XS9} {h : XH} {a : Nat} {x : Nat → Int32} {c : XC} (hI : inI I a = true) (hl : lyC a x = some c) : xx_up (setI I σ h) a c = setI I (fun q => if q = a then x else σ q) h := by
  funext q
  show (if q = a then some c else if inI I q = true then lyC q (σ q) else h q) = if inI I q = true then lyC q (if q = a then x else σ q) else h q
  by_cases e : q = a
  · subst e
    rw [if_pos rfl, if_pos hI, if_pos rfl, hl]
  · rw [if_neg e, if_neg e]
theorem setI_congr {I : List (Nat × Nat)} {σ σ' : XS9} {h : XH} (e : ∀ q, inI I q = true → σ q = σ' q) : setI I σ h = setI I σ' h := by
  funext q
  unfold setI
  by_cases e2 : inI I q = true
  · rw [if_pos e2, if_pos e2, e q e2]
  · rw [if_neg e2, if_neg e2]
theorem setI_in {I : List (Nat × Nat)} {σ : XS9} {h : XH} {q : Nat} (e : inI I q = true) : setI I σ h q = lyC q (σ q) := if_pos e
theorem fill_eq {F : Nat → Value} {x : Int32} {s : Nat} : updV (fun k => if k < s then .int x else F k) s (.int x) = fun k => if k < s + 1 then .int x else F k := by
  funext k
  unfold updV
  by_cases e : k = s
  · rw [if_pos e, if_pos (by omega)]
  · rw [if_neg e]
    dsimp only
    by_cases e2 : k < s
    · rw [if_pos e2, if_pos (by omega)]
    · rw [if_neg e2, if_neg (by omega)]
theorem ct_fillG {l : Launch} {h : XH} (hl : l.stackTraces = false) {a n : Nat} {x : Int32} {F : Nat → Value} (ha : h a = some (100, n, F)) (h1 : 1000 ≤ a) (hn : n < 2147483648) : XEx l m_J7_fill_53178 0 0 0 [.ref a, .int x] (h) (none) (xx_up h a (100, n, fun _ => .int x)) := by
  refine XMet.of hl rfl rfl (Nat.le_of_ble_eq_true rfl) (fun Y O hh hQ => ?_)
  show SW Y 0 0 (h) 0 [.ref a, .int x, xx_d, xx_d] []
  refine sw_iconst (x := 0) O (xx_dt dd_J7_fill_53178 0 rfl) (by decide) ?_
  refine sw_istore_n (ls2 := [.ref a, .int x, .int 0, xx_d]) O (xx_dt dd_J7_fill_53178 1 rfl) (by decide) rfl ?_
  refine sw_aload_n O (xx_dt dd_J7_fill_53178 2 rfl) rfl ?_
  refine sw_alen (t := 100) O (xx_dt dd_J7_fill_53178 3 rfl) (by omega) (by omega) ha ?_
  refine sw_istore_n (ls2 := [.ref a, .int x, .int 0, .int (nI n)]) O (xx_dt dd_J7_fill_53178 4 rfl) (by decide) rfl ?_
  rw [show h = xx_up h a (100, n, fun k => if k < 0 then .int x else F k) from (by rw [show (fun k => if k < 0 then Value.int x else F k) = F from funext fun k => if_neg (Nat.not_lt_zero k)]; exact (xx_up_self ha).symm)]
  refine sw_for (S := Nat) (fun i _ => i + 1) (fun i s => s = i) (hp := fun s => xx_up h a (100, n, fun k => if k < s then .int x else F k)) (hd := 5) (lc := fun i s => [.ref a, .int x, .int (nI i), .int (nI n)]) (N := n) (fun i s hi hs => ⟨rfl, fun kk => ?_⟩) n 0 0 (by omega) rfl (fun hs => ?_)
  · subst hs
    refine sw_iload_n O (xx_dt dd_J7_fill_53178 5 rfl) rfl ?_
    refine sw_iload_n O (xx_dt dd_J7_fill_53178 6 rfl) rfl ?_
    refine sw_icmp_ge (tgt := 20) O (xx_dt dd_J7_fill_53178 7 rfl) (by decide) (fun q => absurd q (nI_ge (b := n) hi (by omega))) (fun q => ?_)
    refine sw_aload_n O (xx_dt dd_J7_fill_53178 8 rfl) rfl ?_
    refine sw_iload_n O (xx_dt dd_J7_fill_53178 9 rfl) rfl ?_
    refine sw_iload_n O (xx_dt dd_J7_fill_53178 10 rfl) rfl ?_
    refine sw_iastore (h2 := xx_up h a (100, n, fun k => if k < (s + 1) then .int x else F k)) O (xx_dt dd_J7_fill_53178 11 rfl) (xx_up_eq _ _ _) (pk_in s n hi) h1 (by rw [nI_clamp (by omega), xx_up_up, fill_eq]) ?_
    refine sw_iinc (y := nI (s + 1)) (ls2 := [.ref a, .int x, .int (nI (s + 1)), .int (nI n)]) O (xx_dt dd_J7_fill_53178 12 rfl) rfl (nI_1 _) (by decide) rfl ?_
    refine sw_goto (tgt := 5) O (xx_dt dd_J7_fill_53178 13 rfl) (by decide) ?_
    exact kk
  · generalize hz : xit (fun i _ => i + 1) n 0 0 = z at hs ⊢
    subst hs
    refine sw_iload_n O (xx_dt dd_J7_fill_53178 5 rfl) rfl ?_
    refine sw_iload_n O (xx_dt dd_J7_fill_53178 6 rfl) rfl ?_
    refine sw_icmp_ge (tgt := 20) O (xx_dt dd_J7_fill_53178 7 rfl) (by decide) (fun q => ?_) (fun q => absurd (Int32.le_refl _) q)
    refine sw_alter (r := a) (F2 := fun _ => .int x) (xx_up_eq _ _ _) (fun j hj => if_pos hj) ?_
    rw [xx_up_up]
    exact sw_ret O (xx_dt dd_J7_fill_53178 14 rfl) rfl (by rw [hQ]; exact ⟨rfl, rfl⟩)
