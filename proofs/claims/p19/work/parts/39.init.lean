section
/-! ===== constructors ===== -/
def inI (I : List (Nat × Nat)) (q : Nat) : Bool := I.any fun p => decide (p.1 ≤ q ∧ q < p.1 + p.2)
def setI (I : List (Nat × Nat)) (σ : XS9) (h : XH) : XH := fun q => if inI I q = true then lyC q (σ q) else h q
theorem inI_cons {I : List (Nat × Nat)} {r N q : Nat} : inI ((r, N) :: I) q = (decide (r ≤ q ∧ q < r + N) || inI I q) := rfl
theorem setI_blk {I : List (Nat × Nat)} {σ : XS9} {h : XH} {r N : Nat} {c : Nat → XC} (hc : ∀ i, i < N → lyC (r + i) (σ (r + i)) = some (c i)) : xx_blk (setI I σ h) r N c = setI ((r, N) :: I) σ h := by
  funext q
  unfold xx_blk setI
  rw [inI_cons]
  by_cases e : r ≤ q ∧ q < r + N
  · rw [if_pos e, decide_eq_true e, Bool.true_or, if_pos rfl]
    have := hc (q - r) (by omega)
    rw [show r + (q - r) = q by omega] at this
    exact this.symm
  · rw [if_neg e, decide_eq_false e, Bool.false_or]
theorem blk_up {A : XH} {b r N : Nat} {F : XC} {c : Nat → XC} (hb : b < r ∨ r + N ≤ b) : xx_blk (xx_up A b F) r N c = xx_up (xx_blk A r N c) b F := by
  funext q
  unfold xx_blk xx_up
  by_cases e : q = b
  · subst e
    rw [if_neg (by omega), if_pos rfl, if_pos rfl]
  · rw [if_neg e, if_neg e]
theorem ob_new {I : List (Nat × Nat)} {σ : XS9} {h : XH} {b r N : Nat} {F : XC} {c : Nat → XC} (hb : b < r ∨ r + N ≤ b) (hc : ∀ i, i < N → lyC (r + i) (σ (r + i)) = some (c i)) : xx_blk (xx_up (setI I σ h) b F) r N c = xx_up (setI ((r, N) :: I) σ h) b F := by rw [blk_up hb, setI_blk hc]
theorem ob_free {I : List (Nat × Nat)} {σ : XS9} {h : XH} {b r : Nat} {F : XC} (hb : r ≠ b) (hI : inI I r = false) (hf : h r = none) : xx_up (setI I σ h) b F r = none := by
  rw [xx_up_ne hb]
  unfold setI
  rw [hI]
  exact hf
theorem ob_done {I : List (Nat × Nat)} {σ σ' : XS9} {h : XH} {b : Nat} {F : XC} (hF : lyC b (σ' b) = some F) (hI : ∀ q, inI I q = true → q ≠ b → σ' q = σ q) : xx_up (setI I σ h) b F = setI ((b, 1) :: I) σ' h := by
  funext q
  unfold xx_up setI
  rw [inI_cons]
  by_cases e : q = b
  · subst e
    rw [if_pos rfl, decide_eq_true (show q ≤ q ∧ q < q + 1 by omega), Bool.true_or, if_pos rfl, hF]
  · rw [if_neg e, decide_eq_false (show ¬ (b ≤ q ∧ q < b + 1) by omega), Bool.false_or]
    by_cases e2 : inI I q = true
    · rw [if_pos e2, if_pos e2, hI q e2 e]
    · rw [if_neg e2, if_neg e2]
theorem setI_nil {σ : XS9} {h : XH} : setI [] σ h = h := rfl
def z9 : XS9 := fun _ _ => 0
def s0C : XS9 := fun q k => if q = 1001 then (if k = 10 then 5 else if k = 11 then 1 else 0) else if q = 1042 then (if k = 0 then 0 else -1) else if (1051 ≤ q ∧ q ≤ 1114) ∨ q = 1043 ∨ q = 1040 ∨ (1141 ≤ q ∧ q ≤ 1145) then -1 else if q = 1000 ∧ k = 8 then 10 else 0
theorem s0C_z {q : Nat} (h1 : q ≠ 1001) (h2 : q ≠ 1042) (h3 : ¬ ((1051 ≤ q ∧ q ≤ 1114) ∨ q = 1043 ∨ q = 1040 ∨ (1141 ≤ q ∧ q ≤ 1145))) (h4 : q ≠ 1000) : s0C q = z9 q := by
  funext k
  unfold s0C z9
  rw [if_neg h1, if_neg h2, if_neg h3, if_neg (fun e => h4 e.1)]
theorem xx_cell.alter {D : XD} {ρ : Nat → Nat} {ow : Nat → Option Nat} {r t N : Nat} {F F2 : Nat → Value} {H : Heap} (h : xx_cell D ρ ow r (t, N, F) H) (hF : ∀ j, j < N → F j = F2 j) : xx_cell D ρ ow r (t, N, F2) H :=
  ⟨fun q => (h.1 q).ren rfl (fun j hj => congrArg (xx_v ρ) (hF j hj).symm), fun q => (h.2 q).ren rfl (fun _ z => z) (fun j hj => congrArg (xx_v ρ) (hF j hj).symm)⟩
theorem sw_alter {Y : XY} {k n pc r t N : Nat} {h : XH} {ls st : List Value} {F F2 : Nat → Value} (hc : h r = some (t, N, F)) (hF : ∀ j, j < N → F j = F2 j) (kk : SW Y k n (xx_up h r (t, N, F2)) pc ls st) : SW Y k n h pc ls st := by
  intro ρ ow H locs cells slots lsA r9
  have hd : ∀ a, (h a).isSome = true → (xx_up h r (t, N, F2) a).isSome = true := fun a ha => xx_up_in ha
  obtain ⟨s1, s2, s3, s4, s5⟩ := r9.1
  refine kk ρ ow H locs cells slots lsA (r9.view ⟨s1, s2, s3, fun q c hq => ?_, fun q c j hq hj => ?_⟩ (fun a _ => rfl) (fun a ha => hd a (r9.2.1 a ha).1) (fun v hv => xx_in_of hd (r9.lcl v hv)) (fun v hv => xx_in_of hd (r9.stk v hv)))
  · by_cases e : q = r
    · subst e
      rw [xx_up_eq] at hq
      cases hq
      exact ⟨(s4 q _ hc).1, (s4 q _ hc).2.alter hF⟩
    · rw [xx_up_ne e] at hq
      exact s4 q c hq
  · by_cases e : q = r
    · subst e
      rw [xx_up_eq] at hq
      cases hq
      have := s5 q _ j hc hj
      rw [show (t, N, F).2.2 j = F2 j from hF j hj] at this
      exact xx_in_of hd this
    · rw [xx_up_ne e] at hq
      exact xx_in_of hd (s5 q c j hq hj)
/-- the cells of the class are free -/
def xx_fC (h : XH) : Prop := ∀ q, 1000 ≤ q → q < 4000 → h q = none
theorem ct_X5_init {l : Launch} {h : XH} (hl : l.stackTraces = false) (hf : ∀ q, 1150 ≤ q → q < 1154 → q ≠ 1006 → h q = none) (hb : h 1006 = some (11, 5, fun j => defaultValue (tyX5 j))) : XEx l m_X5_init 1 4 36 [.ref 1006] h none (setI [(1006, 1), (1153, 1), (1152, 1), (1151, 1), (1150, 1)] s0C h) := by
  refine XMet.of hl rfl rfl (Nat.le_of_ble_eq_true rfl) (fun Y O hh hQ => ?_)
  rw [show h = xx_up (setI [] z9 h) 1006 (11, 5, fun j => defaultValue (tyX5 j)) from (xx_up_self hb).symm]
  show SW Y 4 36 _ 0 [.ref 1006] []
  refine sw_aload_n O (xx_dt dd_X5_init 0 rfl) rfl ?_
  refine sw_objInit O oi_X5_3 (xx_dt dd_X5_init 1 rfl) (by omega) (Nat.le_of_ble_eq_true rfl) ?_
  refine sw_aload_n O (xx_dt dd_X5_init 2 rfl) rfl ?_
  refine sw_bipush (x := 10) O (xx_dt dd_X5_init 3 rfl) (by decide) ?_
  refine sw_newarray (k := 3) (n := 26) (t := 100) (N := 10) (r := 1150) O (xx_dt dd_X5_init 4 rfl) ⟨⟨by omega, by omega⟩, rfl⟩ ac_int (by decide) (by decide) (by decide) (ob_free (by decide) (by decide) (hf 1150 (by omega) (by omega) (by omega))) (by omega) ?_
  rw [ob_new (by omega) (fun i hi => by obtain rfl : i = 0 := (by omega); rfl)]
  refine sw_putF (h2 := xx_up (setI [(1150, 1)] z9 h) 1006 (11, 5, updV (fun j => defaultValue (tyX5 j)) 0 (.ref 1150))) O (xx_dt dd_X5_init 5 rfl) cl_X5 fz_X5_9 (xx_up_eq _ _ _) (by decide) (by omega) rfl rfl (fun _ => ⟨rfl, rfl⟩) xx_up_up ?_
  refine sw_aload_n O (xx_dt dd_X5_init 6 rfl) rfl ?_
  refine sw_bipush (x := 10) O (xx_dt dd_X5_init 7 rfl) (by decide) ?_
  refine sw_newarray (k := 2) (n := 16) (t := 100) (N := 10) (r := 1151) O (xx_dt dd_X5_init 8 rfl) ⟨⟨by omega, by omega⟩, rfl⟩ ac_int (by decide) (by decide) (by decide) (ob_free (by decide) (by decide) (hf 1151 (by omega) (by omega) (by omega))) (by omega) ?_
  rw [ob_new (by omega) (fun i hi => by obtain rfl : i = 0 := (by omega); rfl)]
  refine sw_putF (h2 := xx_up (setI [(1151, 1), (1150, 1)] z9 h) 1006 (11, 5, updV (updV (fun j => defaultValue (tyX5 j)) 0 (.ref 1150)) 2 (.ref 1151))) O (xx_dt dd_X5_init 9 rfl) cl_X5 fz_X5_15 (xx_up_eq _ _ _) (by decide) (by omega) rfl rfl (fun _ => ⟨rfl, rfl⟩) xx_up_up ?_
  refine sw_aload_n O (xx_dt dd_X5_init 10 rfl) rfl ?_
  refine sw_bipush (x := 10) O (xx_dt dd_X5_init 11 rfl) (by decide) ?_
  refine sw_newarray (k := 1) (n := 6) (t := 100) (N := 10) (r := 1152) O (xx_dt dd_X5_init 12 rfl) ⟨⟨by omega, by omega⟩, rfl⟩ ac_int (by decide) (by decide) (by decide) (ob_free (by decide) (by decide) (hf 1152 (by omega) (by omega) (by omega))) (by omega) ?_
  rw [ob_new (by omega) (fun i hi => by obtain rfl : i = 0 := (by omega); rfl)]
  refine sw_putF (h2 := xx_up (setI [(1152, 1), (1151, 1), (1150, 1)] z9 h) 1006 (11, 5, updV (updV (updV (fun j => defaultValue (tyX5 j)) 0 (.ref 1150)) 2 (.ref 1151)) 3 (.ref 1152))) O (xx_dt dd_X5_init 13 rfl) cl_X5 fz_X5_18 (xx_up_eq _ _ _) (by decide) (by omega) rfl rfl (fun _ => ⟨rfl, rfl⟩) xx_up_up ?_
  refine sw_aload_n O (xx_dt dd_X5_init 14 rfl) rfl ?_
  refine sw_bipush (x := 6) O (xx_dt dd_X5_init 15 rfl) (by decide) ?_
  refine sw_newarray (k := 0) (n := 0) (t := 100) (N := 6) (r := 1153) O (xx_dt dd_X5_init 16 rfl) ⟨⟨by omega, by omega⟩, rfl⟩ ac_int (by decide) (by decide) (by decide) (ob_free (by decide) (by decide) (hf 1153 (by omega) (by omega) (by omega))) (by omega) ?_
  rw [ob_new (by omega) (fun i hi => by obtain rfl : i = 0 := (by omega); rfl)]
  refine sw_putF (h2 := xx_up (setI [(1153, 1), (1152, 1), (1151, 1), (1150, 1)] z9 h) 1006 (11, 5, updV (updV (updV (updV (fun j => defaultValue (tyX5 j)) 0 (.ref 1150)) 2 (.ref 1151)) 3 (.ref 1152)) 4 (.ref 1153))) O (xx_dt dd_X5_init 17 rfl) cl_X5 fz_X5_21 (xx_up_eq _ _ _) (by decide) (by omega) rfl rfl (fun _ => ⟨rfl, rfl⟩) xx_up_up ?_
  refine sw_alter (r := 1006) (t := 11) (N := 5) (F2 := fun k => match k with | 0 => .ref (1150) | 1 => .int (s0C 1006 1) | 2 => .ref (1151) | 3 => .ref (1152) | 4 => .ref (1153) | _ => .null) (xx_up_eq _ _ _) (fun j hj => ?_) ?_
  · match j, hj with
    | 0, _ => rfl
    | 1, _ => rfl
    | 2, _ => rfl
    | 3, _ => rfl
    | 4, _ => rfl
  rw [xx_up_up, ob_done (σ' := s0C) rfl (fun q hq hne => by simp only [inI, List.any_cons, List.any_nil, Bool.or_false, Bool.or_eq_true, decide_eq_true_eq] at hq; exact s0C_z (by omega) (by omega) (by omega) (by omega))]
  exact sw_ret O (xx_dt dd_X5_init 18 rfl) rfl (by rw [hQ]; exact ⟨rfl, rfl⟩)
theorem ct_X6_init {l : Launch} {h : XH} (hl : l.stackTraces = false) (hf : ∀ q, 1010 ≤ q → q < 1018 → q ≠ 1001 → h q = none) (hb : h 1001 = some (12, 12, fun j => defaultValue (tyX6 j))) : XEx l m_X6_init 1 8 44 [.ref 1001] h none (setI [(1001, 1), (1017, 1), (1016, 1), (1015, 1), (1014, 1), (1013, 1), (1012, 1), (1011, 1), (1010, 1)] s0C h) := by
  refine XMet.of hl rfl rfl (Nat.le_of_ble_eq_true rfl) (fun Y O hh hQ => ?_)
  rw [show h = xx_up (setI [] z9 h) 1001 (12, 12, fun j => defaultValue (tyX6 j)) from (xx_up_self hb).symm]
  show SW Y 8 44 _ 0 [.ref 1001] []
  refine sw_aload_n O (xx_dt dd_X6_init 0 rfl) rfl ?_
  refine sw_objInit O oi_X6_3 (xx_dt dd_X6_init 1 rfl) (by omega) (Nat.le_of_ble_eq_true rfl) ?_
  refine sw_aload_n O (xx_dt dd_X6_init 2 rfl) rfl ?_
  refine sw_iconst (x := 5) O (xx_dt dd_X6_init 3 rfl) (by decide) ?_
  refine sw_newarray (k := 7) (n := 39) (t := 100) (N := 5) (r := 1010) O (xx_dt dd_X6_init 4 rfl) ⟨⟨by omega, by omega⟩, rfl⟩ ac_int (by decide) (by decide) (by decide) (ob_free (by decide) (by decide) (hf 1010 (by omega) (by omega) (by omega))) (by omega) ?_
  rw [ob_new (by omega) (fun i hi => by obtain rfl : i = 0 := (by omega); rfl)]
  refine sw_putF (h2 := xx_up (setI [(1010, 1)] z9 h) 1001 (12, 12, updV (fun j => defaultValue (tyX6 j)) 0 (.ref 1010))) O (xx_dt dd_X6_init 5 rfl) cl_X6 fz_X6_9 (xx_up_eq _ _ _) (by decide) (by omega) rfl rfl (fun _ => ⟨rfl, rfl⟩) xx_up_up ?_
  refine sw_aload_n O (xx_dt dd_X6_init 6 rfl) rfl ?_
  refine sw_iconst (x := 5) O (xx_dt dd_X6_init 7 rfl) (by decide) ?_
  refine sw_newarray (k := 6) (n := 34) (t := 100) (N := 5) (r := 1011) O (xx_dt dd_X6_init 8 rfl) ⟨⟨by omega, by omega⟩, rfl⟩ ac_int (by decide) (by decide) (by decide) (ob_free (by decide) (by decide) (hf 1011 (by omega) (by omega) (by omega))) (by omega) ?_
  rw [ob_new (by omega) (fun i hi => by obtain rfl : i = 0 := (by omega); rfl)]
  refine sw_putF (h2 := xx_up (setI [(1011, 1), (1010, 1)] z9 h) 1001 (12, 12, updV (updV (fun j => defaultValue (tyX6 j)) 0 (.ref 1010)) 1 (.ref 1011))) O (xx_dt dd_X6_init 9 rfl) cl_X6 fz_X6_15 (xx_up_eq _ _ _) (by decide) (by omega) rfl rfl (fun _ => ⟨rfl, rfl⟩) xx_up_up ?_
  refine sw_aload_n O (xx_dt dd_X6_init 10 rfl) rfl ?_
  refine sw_iconst (x := 5) O (xx_dt dd_X6_init 11 rfl) (by decide) ?_
  refine sw_newarray (k := 5) (n := 29) (t := 100) (N := 5) (r := 1012) O (xx_dt dd_X6_init 12 rfl) ⟨⟨by omega, by omega⟩, rfl⟩ ac_int (by decide) (by decide) (by decide) (ob_free (by decide) (by decide) (hf 1012 (by omega) (by omega) (by omega))) (by omega) ?_
  rw [ob_new (by omega) (fun i hi => by obtain rfl : i = 0 := (by omega); rfl)]
  refine sw_putF (h2 := xx_up (setI [(1012, 1), (1011, 1), (1010, 1)] z9 h) 1001 (12, 12, updV (updV (updV (fun j => defaultValue (tyX6 j)) 0 (.ref 1010)) 1 (.ref 1011)) 2 (.ref 1012))) O (xx_dt dd_X6_init 13 rfl) cl_X6 fz_X6_18 (xx_up_eq _ _ _) (by decide) (by omega) rfl rfl (fun _ => ⟨rfl, rfl⟩) xx_up_up ?_
  refine sw_aload_n O (xx_dt dd_X6_init 14 rfl) rfl ?_
  refine sw_iconst (x := 5) O (xx_dt dd_X6_init 15 rfl) (by decide) ?_
  refine sw_newarray (k := 4) (n := 24) (t := 100) (N := 5) (r := 1013) O (xx_dt dd_X6_init 16 rfl) ⟨⟨by omega, by omega⟩, rfl⟩ ac_int (by decide) (by decide) (by decide) (ob_free (by decide) (by decide) (hf 1013 (by omega) (by omega) (by omega))) (by omega) ?_
  rw [ob_new (by omega) (fun i hi => by obtain rfl : i = 0 := (by omega); rfl)]
  refine sw_putF (h2 := xx_up (setI [(1013, 1), (1012, 1), (1011, 1), (1010, 1)] z9 h) 1001 (12, 12, updV (updV (updV (updV (fun j => defaultValue (tyX6 j)) 0 (.ref 1010)) 1 (.ref 1011)) 2 (.ref 1012)) 3 (.ref 1013))) O (xx_dt dd_X6_init 17 rfl) cl_X6 fz_X6_21 (xx_up_eq _ _ _) (by decide) (by omega) rfl rfl (fun _ => ⟨rfl, rfl⟩) xx_up_up ?_
  refine sw_aload_n O (xx_dt dd_X6_init 18 rfl) rfl ?_
  refine sw_bipush (x := 6) O (xx_dt dd_X6_init 19 rfl) (by decide) ?_
  refine sw_newarray (k := 3) (n := 18) (t := 100) (N := 6) (r := 1014) O (xx_dt dd_X6_init 20 rfl) ⟨⟨by omega, by omega⟩, rfl⟩ ac_int (by decide) (by decide) (by decide) (ob_free (by decide) (by decide) (hf 1014 (by omega) (by omega) (by omega))) (by omega) ?_
  rw [ob_new (by omega) (fun i hi => by obtain rfl : i = 0 := (by omega); rfl)]
  refine sw_putF (h2 := xx_up (setI [(1014, 1), (1013, 1), (1012, 1), (1011, 1), (1010, 1)] z9 h) 1001 (12, 12, updV (updV (updV (updV (updV (fun j => defaultValue (tyX6 j)) 0 (.ref 1010)) 1 (.ref 1011)) 2 (.ref 1012)) 3 (.ref 1013)) 5 (.ref 1014))) O (xx_dt dd_X6_init 21 rfl) cl_X6 fz_X6_24 (xx_up_eq _ _ _) (by decide) (by omega) rfl rfl (fun _ => ⟨rfl, rfl⟩) xx_up_up ?_
  refine sw_aload_n O (xx_dt dd_X6_init 22 rfl) rfl ?_
  refine sw_bipush (x := 6) O (xx_dt dd_X6_init 23 rfl) (by decide) ?_
  refine sw_newarray (k := 2) (n := 12) (t := 100) (N := 6) (r := 1015) O (xx_dt dd_X6_init 24 rfl) ⟨⟨by omega, by omega⟩, rfl⟩ ac_int (by decide) (by decide) (by decide) (ob_free (by decide) (by decide) (hf 1015 (by omega) (by omega) (by omega))) (by omega) ?_
  rw [ob_new (by omega) (fun i hi => by obtain rfl : i = 0 := (by omega); rfl)]
  refine sw_putF (h2 := xx_up (setI [(1015, 1), (1014, 1), (1013, 1), (1012, 1), (1011, 1), (1010, 1)] z9 h) 1001 (12, 12, updV (updV (updV (updV (updV (updV (fun j => defaultValue (tyX6 j)) 0 (.ref 1010)) 1 (.ref 1011)) 2 (.ref 1012)) 3 (.ref 1013)) 5 (.ref 1014)) 6 (.ref 1015))) O (xx_dt dd_X6_init 25 rfl) cl_X6 fz_X6_27 (xx_up_eq _ _ _) (by decide) (by omega) rfl rfl (fun _ => ⟨rfl, rfl⟩) xx_up_up ?_
  refine sw_aload_n O (xx_dt dd_X6_init 26 rfl) rfl ?_
  refine sw_bipush (x := 6) O (xx_dt dd_X6_init 27 rfl) (by decide) ?_
  refine sw_newarray (k := 1) (n := 6) (t := 100) (N := 6) (r := 1016) O (xx_dt dd_X6_init 28 rfl) ⟨⟨by omega, by omega⟩, rfl⟩ ac_int (by decide) (by decide) (by decide) (ob_free (by decide) (by decide) (hf 1016 (by omega) (by omega) (by omega))) (by omega) ?_
  rw [ob_new (by omega) (fun i hi => by obtain rfl : i = 0 := (by omega); rfl)]
  refine sw_putF (h2 := xx_up (setI [(1016, 1), (1015, 1), (1014, 1), (1013, 1), (1012, 1), (1011, 1), (1010, 1)] z9 h) 1001 (12, 12, updV (updV (updV (updV (updV (updV (updV (fun j => defaultValue (tyX6 j)) 0 (.ref 1010)) 1 (.ref 1011)) 2 (.ref 1012)) 3 (.ref 1013)) 5 (.ref 1014)) 6 (.ref 1015)) 7 (.ref 1016))) O (xx_dt dd_X6_init 29 rfl) cl_X6 fz_X6_30 (xx_up_eq _ _ _) (by decide) (by omega) rfl rfl (fun _ => ⟨rfl, rfl⟩) xx_up_up ?_
  refine sw_aload_n O (xx_dt dd_X6_init 30 rfl) rfl ?_
  refine sw_bipush (x := 6) O (xx_dt dd_X6_init 31 rfl) (by decide) ?_
  refine sw_newarray (k := 0) (n := 0) (t := 100) (N := 6) (r := 1017) O (xx_dt dd_X6_init 32 rfl) ⟨⟨by omega, by omega⟩, rfl⟩ ac_int (by decide) (by decide) (by decide) (ob_free (by decide) (by decide) (hf 1017 (by omega) (by omega) (by omega))) (by omega) ?_
  rw [ob_new (by omega) (fun i hi => by obtain rfl : i = 0 := (by omega); rfl)]
  refine sw_putF (h2 := xx_up (setI [(1017, 1), (1016, 1), (1015, 1), (1014, 1), (1013, 1), (1012, 1), (1011, 1), (1010, 1)] z9 h) 1001 (12, 12, updV (updV (updV (updV (updV (updV (updV (updV (fun j => defaultValue (tyX6 j)) 0 (.ref 1010)) 1 (.ref 1011)) 2 (.ref 1012)) 3 (.ref 1013)) 5 (.ref 1014)) 6 (.ref 1015)) 7 (.ref 1016)) 8 (.ref 1017))) O (xx_dt dd_X6_init 33 rfl) cl_X6 fz_X6_33 (xx_up_eq _ _ _) (by decide) (by omega) rfl rfl (fun _ => ⟨rfl, rfl⟩) xx_up_up ?_
  refine sw_aload_n O (xx_dt dd_X6_init 34 rfl) rfl ?_
  refine sw_iconst (x := 5) O (xx_dt dd_X6_init 35 rfl) (by decide) ?_
  refine sw_put (h2 := xx_up (setI [(1017, 1), (1016, 1), (1015, 1), (1014, 1), (1013, 1), (1012, 1), (1011, 1), (1010, 1)] z9 h) 1001 (12, 12, updV (updV (updV (updV (updV (updV (updV (updV (updV (fun j => defaultValue (tyX6 j)) 0 (.ref 1010)) 1 (.ref 1011)) 2 (.ref 1012)) 3 (.ref 1013)) 5 (.ref 1014)) 6 (.ref 1015)) 7 (.ref 1016)) 8 (.ref 1017)) 10 (.int 5))) O (xx_dt dd_X6_init 36 rfl) cl_X6 fl_X6_36 (xx_up_eq _ _ _) (by decide) (by omega) rfl (fun _ => ⟨rfl, rfl⟩) xx_up_up ?_
  refine sw_aload_n O (xx_dt dd_X6_init 37 rfl) rfl ?_
  refine sw_iconst (x := 1) O (xx_dt dd_X6_init 38 rfl) (by decide) ?_
  refine sw_put (h2 := xx_up (setI [(1017, 1), (1016, 1), (1015, 1), (1014, 1), (1013, 1), (1012, 1), (1011, 1), (1010, 1)] z9 h) 1001 (12, 12, updV (updV (updV (updV (updV (updV (updV (updV (updV (updV (fun j => defaultValue (tyX6 j)) 0 (.ref 1010)) 1 (.ref 1011)) 2 (.ref 1012)) 3 (.ref 1013)) 5 (.ref 1014)) 6 (.ref 1015)) 7 (.ref 1016)) 8 (.ref 1017)) 10 (.int 5)) 11 (.int 1))) O (xx_dt dd_X6_init 39 rfl) cl_X6 fl_X6_40 (xx_up_eq _ _ _) (by decide) (by omega) rfl (fun _ => ⟨rfl, rfl⟩) xx_up_up ?_
  refine sw_alter (r := 1001) (t := 12) (N := 12) (F2 := fun k => match k with | 0 => .ref (1010) | 1 => .ref (1011) | 2 => .ref (1012) | 3 => .ref (1013) | 4 => .int (s0C 1001 4) | 5 => .ref (1014) | 6 => .ref (1015) | 7 => .ref (1016) | 8 => .ref (1017) | 9 => .int (s0C 1001 9) | 10 => .int (s0C 1001 10) | 11 => .int (s0C 1001 11) | _ => .null) (xx_up_eq _ _ _) (fun j hj => ?_) ?_
  · match j, hj with
    | 0, _ => rfl
    | 1, _ => rfl
    | 2, _ => rfl
    | 3, _ => rfl
    | 4, _ => rfl
    | 5, _ => rfl
    | 6, _ => rfl
    | 7, _ => rfl
    | 8, _ => rfl
    | 9, _ => rfl
    | 10, _ => rfl
    | 11, _ => rfl
  rw [xx_up_up, ob_done (σ' := s0C) rfl (fun q hq hne => by simp only [inI, List.any_cons, List.any_nil, Bool.or_false, Bool.or_eq_true, decide_eq_true_eq] at hq; exact s0C_z (by omega) (by omega) (by omega) (by omega))]
  exact sw_ret O (xx_dt dd_X6_init 40 rfl) rfl (by rw [hQ]; exact ⟨rfl, rfl⟩)
theorem ct_X4_init {l : Launch} {h : XH} (hl : l.stackTraces = false) (hf : ∀ q, 1130 ≤ q → q < 1134 → q ≠ 1004 → h q = none) (hb : h 1004 = some (10, 1, fun j => defaultValue (tyX4 j))) : XEx l m_X4_init 1 4 21 [.ref 1004] h none (setI [(1004, 1), (1130, 4)] s0C h) := by
  refine XMet.of hl rfl rfl (Nat.le_of_ble_eq_true rfl) (fun Y O hh hQ => ?_)
  have fr_1130 : ∀ {q : Nat}, q < 4 → inI [] (1130 + q) = false := by decide
  have mb_1130 : ∀ i, i < 4 → lyC (1130 + i) (z9 (1130 + i)) = some (if i = 0 then (103, 3, fun q => .ref (1130 + 1 + q)) else (100, 6, fun _ => .int 0)) := by
    intro i hi
    cases i with
    | zero => rfl
    | succ k =>
      have h9 := lr_1130 z9 (fun _ => none) (k := k) (by omega)
      unfold setC at h9
      rw [if_pos (by omega)] at h9
      rw [show 1130 + (k + 1) = 1131 + k by omega, if_neg (by omega)]
      exact h9
  rw [show h = xx_up (setI [] z9 h) 1004 (10, 1, fun j => defaultValue (tyX4 j)) from (xx_up_self hb).symm]
  show SW Y 4 21 _ 0 [.ref 1004] []
  refine sw_aload_n O (xx_dt dd_X4_init 0 rfl) rfl ?_
  refine sw_objInit O oi_X4_3 (xx_dt dd_X4_init 1 rfl) (by omega) (Nat.le_of_ble_eq_true rfl) ?_
  refine sw_aload_n O (xx_dt dd_X4_init 2 rfl) rfl ?_
  refine sw_iconst (x := 3) O (xx_dt dd_X4_init 3 rfl) (by decide) ?_
  refine sw_bipush (x := 6) O (xx_dt dd_X4_init 4 rfl) (by decide) ?_
  refine sw_multi (k := 0) (n := 0) (N := 3) (K := 6) (r := 1130) O (xx_dt dd_X4_init 5 rfl) mu_X4_9 (by decide) (by decide) (by decide) (by decide) (by omega) (by omega) (fun q hq => ob_free (by omega) (fr_1130 hq) (hf _ (by omega) (by omega) (by omega))) (by omega) ?_
  rw [ob_new (by omega) mb_1130]
  refine sw_putF (h2 := xx_up (setI [(1130, 4)] z9 h) 1004 (10, 1, updV (fun j => defaultValue (tyX4 j)) 0 (.ref 1130))) O (xx_dt dd_X4_init 6 rfl) cl_X4 fz_X4_11 (xx_up_eq _ _ _) (by decide) (by omega) rfl rfl (fun _ => ⟨rfl, rfl⟩) xx_up_up ?_
  refine sw_alter (r := 1004) (t := 10) (N := 1) (F2 := fun k => match k with | 0 => .ref (1130) | _ => .null) (xx_up_eq _ _ _) (fun j hj => ?_) ?_
  · match j, hj with
    | 0, _ => rfl
  rw [xx_up_up, ob_done (σ' := s0C) rfl (fun q hq hne => by simp only [inI, List.any_cons, List.any_nil, Bool.or_false, Bool.or_eq_true, decide_eq_true_eq] at hq; exact s0C_z (by omega) (by omega) (by omega) (by omega))]
  exact sw_ret O (xx_dt dd_X4_init 7 rfl) rfl (by rw [hQ]; exact ⟨rfl, rfl⟩)
theorem ct_X1_init_2000 {l : Launch} {h : XH} (hl : l.stackTraces = false) (hf : ∀ q, 2001 ≤ q → q < 2400 → q ≠ 2000 → h q = none) (hb : h 2000 = some (7, 13, fun j => defaultValue (tyX1 j))) : XEx l m_X1_init 1 191 1355 [.ref 2000] h none (setI [(2000, 1), (2008, 1), (2007, 1), (2300, 61), (2200, 61), (2100, 61), (2006, 1), (2005, 1), (2004, 1), (2003, 1), (2002, 1), (2001, 1)] s0C h) := by
  refine XMet.of hl rfl rfl (Nat.le_of_ble_eq_true rfl) (fun Y O hh hQ => ?_)
  have fr_2100 : ∀ {q : Nat}, q < 61 → inI [(2006, 1), (2005, 1), (2004, 1), (2003, 1), (2002, 1), (2001, 1)] (2100 + q) = false := by decide
  have mb_2100 : ∀ i, i < 61 → lyC (2100 + i) (z9 (2100 + i)) = some (if i = 0 then (103, 60, fun q => .ref (2100 + 1 + q)) else (100, 5, fun _ => .int 0)) := by
    intro i hi
    cases i with
    | zero => rfl
    | succ k =>
      have h9 := lkr_100 z9 (fun _ => none) (b := 2000) (.inl rfl) (k := k) (by omega)
      unfold setC at h9
      rw [if_pos (by omega)] at h9
      rw [show 2100 + (k + 1) = 2000 + 101 + k by omega, if_neg (by omega)]
      exact h9
  have fr_2200 : ∀ {q : Nat}, q < 61 → inI [(2100, 61), (2006, 1), (2005, 1), (2004, 1), (2003, 1), (2002, 1), (2001, 1)] (2200 + q) = false := by decide
  have mb_2200 : ∀ i, i < 61 → lyC (2200 + i) (z9 (2200 + i)) = some (if i = 0 then (103, 60, fun q => .ref (2200 + 1 + q)) else (100, 6, fun _ => .int 0)) := by
    intro i hi
    cases i with
    | zero => rfl
    | succ k =>
      have h9 := lkr_200 z9 (fun _ => none) (b := 2000) (.inl rfl) (k := k) (by omega)
      unfold setC at h9
      rw [if_pos (by omega)] at h9
      rw [show 2200 + (k + 1) = 2000 + 201 + k by omega, if_neg (by omega)]
      exact h9
  have fr_2300 : ∀ {q : Nat}, q < 61 → inI [(2200, 61), (2100, 61), (2006, 1), (2005, 1), (2004, 1), (2003, 1), (2002, 1), (2001, 1)] (2300 + q) = false := by decide
  have mb_2300 : ∀ i, i < 61 → lyC (2300 + i) (z9 (2300 + i)) = some (if i = 0 then (103, 60, fun q => .ref (2300 + 1 + q)) else (100, 6, fun _ => .int 0)) := by
    intro i hi
    cases i with
    | zero => rfl
    | succ k =>
      have h9 := lkr_300 z9 (fun _ => none) (b := 2000) (.inl rfl) (k := k) (by omega)
      unfold setC at h9
      rw [if_pos (by omega)] at h9
      rw [show 2300 + (k + 1) = 2000 + 301 + k by omega, if_neg (by omega)]
      exact h9
  rw [show h = xx_up (setI [] z9 h) 2000 (7, 13, fun j => defaultValue (tyX1 j)) from (xx_up_self hb).symm]
  show SW Y 191 1355 _ 0 [.ref 2000] []
  refine sw_aload_n O (xx_dt dd_X1_init 0 rfl) rfl ?_
  refine sw_objInit O oi_X1_3 (xx_dt dd_X1_init 1 rfl) (by omega) (Nat.le_of_ble_eq_true rfl) ?_
  refine sw_aload_n O (xx_dt dd_X1_init 2 rfl) rfl ?_
  refine sw_iconst (x := 5) O (xx_dt dd_X1_init 3 rfl) (by decide) ?_
  refine sw_newarray (k := 190) (n := 1350) (t := 100) (N := 5) (r := 2001) O (xx_dt dd_X1_init 4 rfl) ⟨⟨by omega, by omega⟩, rfl⟩ ac_int (by decide) (by decide) (by decide) (ob_free (by decide) (by decide) (hf 2001 (by omega) (by omega) (by omega))) (by omega) ?_
  rw [ob_new (by omega) (fun i hi => by obtain rfl : i = 0 := (by omega); rfl)]
  refine sw_putF (h2 := xx_up (setI [(2001, 1)] z9 h) 2000 (7, 13, updV (fun j => defaultValue (tyX1 j)) 0 (.ref 2001))) O (xx_dt dd_X1_init 5 rfl) cl_X1 fz_X1_9 (xx_up_eq _ _ _) (by decide) (by omega) rfl rfl (fun _ => ⟨rfl, rfl⟩) xx_up_up ?_
  refine sw_aload_n O (xx_dt dd_X1_init 6 rfl) rfl ?_
  refine sw_bipush (x := 6) O (xx_dt dd_X1_init 7 rfl) (by decide) ?_
  refine sw_newarray (k := 189) (n := 1344) (t := 100) (N := 6) (r := 2002) O (xx_dt dd_X1_init 8 rfl) ⟨⟨by omega, by omega⟩, rfl⟩ ac_int (by decide) (by decide) (by decide) (ob_free (by decide) (by decide) (hf 2002 (by omega) (by omega) (by omega))) (by omega) ?_
  rw [ob_new (by omega) (fun i hi => by obtain rfl : i = 0 := (by omega); rfl)]
  refine sw_putF (h2 := xx_up (setI [(2002, 1), (2001, 1)] z9 h) 2000 (7, 13, updV (updV (fun j => defaultValue (tyX1 j)) 0 (.ref 2001)) 1 (.ref 2002))) O (xx_dt dd_X1_init 9 rfl) cl_X1 fz_X1_15 (xx_up_eq _ _ _) (by decide) (by omega) rfl rfl (fun _ => ⟨rfl, rfl⟩) xx_up_up ?_
  refine sw_aload_n O (xx_dt dd_X1_init 10 rfl) rfl ?_
  refine sw_bipush (x := 6) O (xx_dt dd_X1_init 11 rfl) (by decide) ?_
  refine sw_newarray (k := 188) (n := 1338) (t := 100) (N := 6) (r := 2003) O (xx_dt dd_X1_init 12 rfl) ⟨⟨by omega, by omega⟩, rfl⟩ ac_int (by decide) (by decide) (by decide) (ob_free (by decide) (by decide) (hf 2003 (by omega) (by omega) (by omega))) (by omega) ?_
  rw [ob_new (by omega) (fun i hi => by obtain rfl : i = 0 := (by omega); rfl)]
  refine sw_putF (h2 := xx_up (setI [(2003, 1), (2002, 1), (2001, 1)] z9 h) 2000 (7, 13, updV (updV (updV (fun j => defaultValue (tyX1 j)) 0 (.ref 2001)) 1 (.ref 2002)) 2 (.ref 2003))) O (xx_dt dd_X1_init 13 rfl) cl_X1 fz_X1_18 (xx_up_eq _ _ _) (by decide) (by omega) rfl rfl (fun _ => ⟨rfl, rfl⟩) xx_up_up ?_
  refine sw_aload_n O (xx_dt dd_X1_init 14 rfl) rfl ?_
  refine sw_bipush (x := 6) O (xx_dt dd_X1_init 15 rfl) (by decide) ?_
  refine sw_newarray (k := 187) (n := 1332) (t := 100) (N := 6) (r := 2004) O (xx_dt dd_X1_init 16 rfl) ⟨⟨by omega, by omega⟩, rfl⟩ ac_int (by decide) (by decide) (by decide) (ob_free (by decide) (by decide) (hf 2004 (by omega) (by omega) (by omega))) (by omega) ?_
  rw [ob_new (by omega) (fun i hi => by obtain rfl : i = 0 := (by omega); rfl)]
  refine sw_putF (h2 := xx_up (setI [(2004, 1), (2003, 1), (2002, 1), (2001, 1)] z9 h) 2000 (7, 13, updV (updV (updV (updV (fun j => defaultValue (tyX1 j)) 0 (.ref 2001)) 1 (.ref 2002)) 2 (.ref 2003)) 3 (.ref 2004))) O (xx_dt dd_X1_init 17 rfl) cl_X1 fz_X1_21 (xx_up_eq _ _ _) (by decide) (by omega) rfl rfl (fun _ => ⟨rfl, rfl⟩) xx_up_up ?_
  refine sw_aload_n O (xx_dt dd_X1_init 18 rfl) rfl ?_
  refine sw_bipush (x := 6) O (xx_dt dd_X1_init 19 rfl) (by decide) ?_
  refine sw_newarray (k := 186) (n := 1326) (t := 100) (N := 6) (r := 2005) O (xx_dt dd_X1_init 20 rfl) ⟨⟨by omega, by omega⟩, rfl⟩ ac_int (by decide) (by decide) (by decide) (ob_free (by decide) (by decide) (hf 2005 (by omega) (by omega) (by omega))) (by omega) ?_
  rw [ob_new (by omega) (fun i hi => by obtain rfl : i = 0 := (by omega); rfl)]
  refine sw_putF (h2 := xx_up (setI [(2005, 1), (2004, 1), (2003, 1), (2002, 1), (2001, 1)] z9 h) 2000 (7, 13, updV (updV (updV (updV (updV (fun j => defaultValue (tyX1 j)) 0 (.ref 2001)) 1 (.ref 2002)) 2 (.ref 2003)) 3 (.ref 2004)) 4 (.ref 2005))) O (xx_dt dd_X1_init 21 rfl) cl_X1 fz_X1_24 (xx_up_eq _ _ _) (by decide) (by omega) rfl rfl (fun _ => ⟨rfl, rfl⟩) xx_up_up ?_
  refine sw_aload_n O (xx_dt dd_X1_init 22 rfl) rfl ?_
  refine sw_bipush (x := 6) O (xx_dt dd_X1_init 23 rfl) (by decide) ?_
  refine sw_newarray (k := 185) (n := 1320) (t := 100) (N := 6) (r := 2006) O (xx_dt dd_X1_init 24 rfl) ⟨⟨by omega, by omega⟩, rfl⟩ ac_int (by decide) (by decide) (by decide) (ob_free (by decide) (by decide) (hf 2006 (by omega) (by omega) (by omega))) (by omega) ?_
  rw [ob_new (by omega) (fun i hi => by obtain rfl : i = 0 := (by omega); rfl)]
  refine sw_putF (h2 := xx_up (setI [(2006, 1), (2005, 1), (2004, 1), (2003, 1), (2002, 1), (2001, 1)] z9 h) 2000 (7, 13, updV (updV (updV (updV (updV (updV (fun j => defaultValue (tyX1 j)) 0 (.ref 2001)) 1 (.ref 2002)) 2 (.ref 2003)) 3 (.ref 2004)) 4 (.ref 2005)) 5 (.ref 2006))) O (xx_dt dd_X1_init 25 rfl) cl_X1 fz_X1_27 (xx_up_eq _ _ _) (by decide) (by omega) rfl rfl (fun _ => ⟨rfl, rfl⟩) xx_up_up ?_
  refine sw_aload_n O (xx_dt dd_X1_init 26 rfl) rfl ?_
  refine sw_bipush (x := 60) O (xx_dt dd_X1_init 27 rfl) (by decide) ?_
  refine sw_iconst (x := 5) O (xx_dt dd_X1_init 28 rfl) (by decide) ?_
  refine sw_multi (k := 124) (n := 960) (N := 60) (K := 5) (r := 2100) O (xx_dt dd_X1_init 29 rfl) mu_X1_30 (by decide) (by decide) (by decide) (by decide) (by omega) (by omega) (fun q hq => ob_free (by omega) (fr_2100 hq) (hf _ (by omega) (by omega) (by omega))) (by omega) ?_
  rw [ob_new (by omega) mb_2100]
  refine sw_putF (h2 := xx_up (setI [(2100, 61), (2006, 1), (2005, 1), (2004, 1), (2003, 1), (2002, 1), (2001, 1)] z9 h) 2000 (7, 13, updV (updV (updV (updV (updV (updV (updV (fun j => defaultValue (tyX1 j)) 0 (.ref 2001)) 1 (.ref 2002)) 2 (.ref 2003)) 3 (.ref 2004)) 4 (.ref 2005)) 5 (.ref 2006)) 6 (.ref 2100))) O (xx_dt dd_X1_init 30 rfl) cl_X1 fz_X1_32 (xx_up_eq _ _ _) (by decide) (by omega) rfl rfl (fun _ => ⟨rfl, rfl⟩) xx_up_up ?_
  refine sw_aload_n O (xx_dt dd_X1_init 31 rfl) rfl ?_
  refine sw_bipush (x := 60) O (xx_dt dd_X1_init 32 rfl) (by decide) ?_
  refine sw_bipush (x := 6) O (xx_dt dd_X1_init 33 rfl) (by decide) ?_
  refine sw_multi (k := 63) (n := 540) (N := 60) (K := 6) (r := 2200) O (xx_dt dd_X1_init 34 rfl) mu_X1_30 (by decide) (by decide) (by decide) (by decide) (by omega) (by omega) (fun q hq => ob_free (by omega) (fr_2200 hq) (hf _ (by omega) (by omega) (by omega))) (by omega) ?_
  rw [ob_new (by omega) mb_2200]
  refine sw_putF (h2 := xx_up (setI [(2200, 61), (2100, 61), (2006, 1), (2005, 1), (2004, 1), (2003, 1), (2002, 1), (2001, 1)] z9 h) 2000 (7, 13, updV (updV (updV (updV (updV (updV (updV (updV (fun j => defaultValue (tyX1 j)) 0 (.ref 2001)) 1 (.ref 2002)) 2 (.ref 2003)) 3 (.ref 2004)) 4 (.ref 2005)) 5 (.ref 2006)) 6 (.ref 2100)) 7 (.ref 2200))) O (xx_dt dd_X1_init 35 rfl) cl_X1 fz_X1_35 (xx_up_eq _ _ _) (by decide) (by omega) rfl rfl (fun _ => ⟨rfl, rfl⟩) xx_up_up ?_
  refine sw_aload_n O (xx_dt dd_X1_init 36 rfl) rfl ?_
  refine sw_bipush (x := 60) O (xx_dt dd_X1_init 37 rfl) (by decide) ?_
  refine sw_bipush (x := 6) O (xx_dt dd_X1_init 38 rfl) (by decide) ?_
  refine sw_multi (k := 2) (n := 120) (N := 60) (K := 6) (r := 2300) O (xx_dt dd_X1_init 39 rfl) mu_X1_30 (by decide) (by decide) (by decide) (by decide) (by omega) (by omega) (fun q hq => ob_free (by omega) (fr_2300 hq) (hf _ (by omega) (by omega) (by omega))) (by omega) ?_
  rw [ob_new (by omega) mb_2300]
  refine sw_putF (h2 := xx_up (setI [(2300, 61), (2200, 61), (2100, 61), (2006, 1), (2005, 1), (2004, 1), (2003, 1), (2002, 1), (2001, 1)] z9 h) 2000 (7, 13, updV (updV (updV (updV (updV (updV (updV (updV (updV (fun j => defaultValue (tyX1 j)) 0 (.ref 2001)) 1 (.ref 2002)) 2 (.ref 2003)) 3 (.ref 2004)) 4 (.ref 2005)) 5 (.ref 2006)) 6 (.ref 2100)) 7 (.ref 2200)) 8 (.ref 2300))) O (xx_dt dd_X1_init 40 rfl) cl_X1 fz_X1_38 (xx_up_eq _ _ _) (by decide) (by omega) rfl rfl (fun _ => ⟨rfl, rfl⟩) xx_up_up ?_
  refine sw_aload_n O (xx_dt dd_X1_init 41 rfl) rfl ?_
  refine sw_bipush (x := 60) O (xx_dt dd_X1_init 42 rfl) (by decide) ?_
  refine sw_newarray (k := 1) (n := 60) (t := 100) (N := 60) (r := 2007) O (xx_dt dd_X1_init 43 rfl) ⟨⟨by omega, by omega⟩, rfl⟩ ac_int (by decide) (by decide) (by decide) (ob_free (by decide) (by decide) (hf 2007 (by omega) (by omega) (by omega))) (by omega) ?_
  rw [ob_new (by omega) (fun i hi => by obtain rfl : i = 0 := (by omega); rfl)]
  refine sw_putF (h2 := xx_up (setI [(2007, 1), (2300, 61), (2200, 61), (2100, 61), (2006, 1), (2005, 1), (2004, 1), (2003, 1), (2002, 1), (2001, 1)] z9 h) 2000 (7, 13, updV (updV (updV (updV (updV (updV (updV (updV (updV (updV (fun j => defaultValue (tyX1 j)) 0 (.ref 2001)) 1 (.ref 2002)) 2 (.ref 2003)) 3 (.ref 2004)) 4 (.ref 2005)) 5 (.ref 2006)) 6 (.ref 2100)) 7 (.ref 2200)) 8 (.ref 2300)) 10 (.ref 2007))) O (xx_dt dd_X1_init 44 rfl) cl_X1 fz_X1_41 (xx_up_eq _ _ _) (by decide) (by omega) rfl rfl (fun _ => ⟨rfl, rfl⟩) xx_up_up ?_
  refine sw_aload_n O (xx_dt dd_X1_init 45 rfl) rfl ?_
  refine sw_bipush (x := 60) O (xx_dt dd_X1_init 46 rfl) (by decide) ?_
  refine sw_newarray (k := 0) (n := 0) (t := 100) (N := 60) (r := 2008) O (xx_dt dd_X1_init 47 rfl) ⟨⟨by omega, by omega⟩, rfl⟩ ac_int (by decide) (by decide) (by decide) (ob_free (by decide) (by decide) (hf 2008 (by omega) (by omega) (by omega))) (by omega) ?_
  rw [ob_new (by omega) (fun i hi => by obtain rfl : i = 0 := (by omega); rfl)]
  refine sw_putF (h2 := xx_up (setI [(2008, 1), (2007, 1), (2300, 61), (2200, 61), (2100, 61), (2006, 1), (2005, 1), (2004, 1), (2003, 1), (2002, 1), (2001, 1)] z9 h) 2000 (7, 13, updV (updV (updV (updV (updV (updV (updV (updV (updV (updV (updV (fun j => defaultValue (tyX1 j)) 0 (.ref 2001)) 1 (.ref 2002)) 2 (.ref 2003)) 3 (.ref 2004)) 4 (.ref 2005)) 5 (.ref 2006)) 6 (.ref 2100)) 7 (.ref 2200)) 8 (.ref 2300)) 10 (.ref 2007)) 11 (.ref 2008))) O (xx_dt dd_X1_init 48 rfl) cl_X1 fz_X1_44 (xx_up_eq _ _ _) (by decide) (by omega) rfl rfl (fun _ => ⟨rfl, rfl⟩) xx_up_up ?_
  refine sw_alter (r := 2000) (t := 7) (N := 13) (F2 := fun k => match k with | 0 => .ref (2000 + 1) | 1 => .ref (2000 + 2) | 2 => .ref (2000 + 3) | 3 => .ref (2000 + 4) | 4 => .ref (2000 + 5) | 5 => .ref (2000 + 6) | 6 => .ref (2000 + 100) | 7 => .ref (2000 + 200) | 8 => .ref (2000 + 300) | 9 => .int (s0C 2000 9) | 10 => .ref (2000 + 7) | 11 => .ref (2000 + 8) | 12 => .int (s0C 2000 12) | _ => .null) (xx_up_eq _ _ _) (fun j hj => ?_) ?_
  · match j, hj with
    | 0, _ => rfl
    | 1, _ => rfl
    | 2, _ => rfl
    | 3, _ => rfl
    | 4, _ => rfl
    | 5, _ => rfl
    | 6, _ => rfl
    | 7, _ => rfl
    | 8, _ => rfl
    | 9, _ => rfl
    | 10, _ => rfl
    | 11, _ => rfl
    | 12, _ => rfl
  rw [xx_up_up, ob_done (σ' := s0C) rfl (fun q hq hne => by simp only [inI, List.any_cons, List.any_nil, Bool.or_false, Bool.or_eq_true, decide_eq_true_eq] at hq; exact s0C_z (by omega) (by omega) (by omega) (by omega))]
  exact sw_ret O (xx_dt dd_X1_init 49 rfl) rfl (by rw [hQ]; exact ⟨rfl, rfl⟩)
theorem ct_X1_init_3000 {l : Launch} {h : XH} (hl : l.stackTraces = false) (hf : ∀ q, 3001 ≤ q → q < 3400 → q ≠ 3000 → h q = none) (hb : h 3000 = some (7, 13, fun j => defaultValue (tyX1 j))) : XEx l m_X1_init 1 191 1355 [.ref 3000] h none (setI [(3000, 1), (3008, 1), (3007, 1), (3300, 61), (3200, 61), (3100, 61), (3006, 1), (3005, 1), (3004, 1), (3003, 1), (3002, 1), (3001, 1)] s0C h) := by
  refine XMet.of hl rfl rfl (Nat.le_of_ble_eq_true rfl) (fun Y O hh hQ => ?_)
  have fr_3100 : ∀ {q : Nat}, q < 61 → inI [(3006, 1), (3005, 1), (3004, 1), (3003, 1), (3002, 1), (3001, 1)] (3100 + q) = false := by decide
  have mb_3100 : ∀ i, i < 61 → lyC (3100 + i) (z9 (3100 + i)) = some (if i = 0 then (103, 60, fun q => .ref (3100 + 1 + q)) else (100, 5, fun _ => .int 0)) := by
    intro i hi
    cases i with
    | zero => rfl
    | succ k =>
      have h9 := lkr_100 z9 (fun _ => none) (b := 3000) (.inr rfl) (k := k) (by omega)
      unfold setC at h9
      rw [if_pos (by omega)] at h9
      rw [show 3100 + (k + 1) = 3000 + 101 + k by omega, if_neg (by omega)]
      exact h9
  have fr_3200 : ∀ {q : Nat}, q < 61 → inI [(3100, 61), (3006, 1), (3005, 1), (3004, 1), (3003, 1), (3002, 1), (3001, 1)] (3200 + q) = false := by decide
  have mb_3200 : ∀ i, i < 61 → lyC (3200 + i) (z9 (3200 + i)) = some (if i = 0 then (103, 60, fun q => .ref (3200 + 1 + q)) else (100, 6, fun _ => .int 0)) := by
    intro i hi
    cases i with
    | zero => rfl
    | succ k =>
      have h9 := lkr_200 z9 (fun _ => none) (b := 3000) (.inr rfl) (k := k) (by omega)
      unfold setC at h9
      rw [if_pos (by omega)] at h9
      rw [show 3200 + (k + 1) = 3000 + 201 + k by omega, if_neg (by omega)]
      exact h9
  have fr_3300 : ∀ {q : Nat}, q < 61 → inI [(3200, 61), (3100, 61), (3006, 1), (3005, 1), (3004, 1), (3003, 1), (3002, 1), (3001, 1)] (3300 + q) = false := by decide
  have mb_3300 : ∀ i, i < 61 → lyC (3300 + i) (z9 (3300 + i)) = some (if i = 0 then (103, 60, fun q => .ref (3300 + 1 + q)) else (100, 6, fun _ => .int 0)) := by
    intro i hi
    cases i with
    | zero => rfl
    | succ k =>
      have h9 := lkr_300 z9 (fun _ => none) (b := 3000) (.inr rfl) (k := k) (by omega)
      unfold setC at h9
      rw [if_pos (by omega)] at h9
      rw [show 3300 + (k + 1) = 3000 + 301 + k by omega, if_neg (by omega)]
      exact h9
  rw [show h = xx_up (setI [] z9 h) 3000 (7, 13, fun j => defaultValue (tyX1 j)) from (xx_up_self hb).symm]
  show SW Y 191 1355 _ 0 [.ref 3000] []
  refine sw_aload_n O (xx_dt dd_X1_init 0 rfl) rfl ?_
  refine sw_objInit O oi_X1_3 (xx_dt dd_X1_init 1 rfl) (by omega) (Nat.le_of_ble_eq_true rfl) ?_
  refine sw_aload_n O (xx_dt dd_X1_init 2 rfl) rfl ?_
  refine sw_iconst (x := 5) O (xx_dt dd_X1_init 3 rfl) (by decide) ?_
  refine sw_newarray (k := 190) (n := 1350) (t := 100) (N := 5) (r := 3001) O (xx_dt dd_X1_init 4 rfl) ⟨⟨by omega, by omega⟩, rfl⟩ ac_int (by decide) (by decide) (by decide) (ob_free (by decide) (by decide) (hf 3001 (by omega) (by omega) (by omega))) (by omega) ?_
  rw [ob_new (by omega) (fun i hi => by obtain rfl : i = 0 := (by omega); rfl)]
  refine sw_putF (h2 := xx_up (setI [(3001, 1)] z9 h) 3000 (7, 13, updV (fun j => defaultValue (tyX1 j)) 0 (.ref 3001))) O (xx_dt dd_X1_init 5 rfl) cl_X1 fz_X1_9 (xx_up_eq _ _ _) (by decide) (by omega) rfl rfl (fun _ => ⟨rfl, rfl⟩) xx_up_up ?_
  refine sw_aload_n O (xx_dt dd_X1_init 6 rfl) rfl ?_
  refine sw_bipush (x := 6) O (xx_dt dd_X1_init 7 rfl) (by decide) ?_
  refine sw_newarray (k := 189) (n := 1344) (t := 100) (N := 6) (r := 3002) O (xx_dt dd_X1_init 8 rfl) ⟨⟨by omega, by omega⟩, rfl⟩ ac_int (by decide) (by decide) (by decide) (ob_free (by decide) (by decide) (hf 3002 (by omega) (by omega) (by omega))) (by omega) ?_
  rw [ob_new (by omega) (fun i hi => by obtain rfl : i = 0 := (by omega); rfl)]
  refine sw_putF (h2 := xx_up (setI [(3002, 1), (3001, 1)] z9 h) 3000 (7, 13, updV (updV (fun j => defaultValue (tyX1 j)) 0 (.ref 3001)) 1 (.ref 3002))) O (xx_dt dd_X1_init 9 rfl) cl_X1 fz_X1_15 (xx_up_eq _ _ _) (by decide) (by omega) rfl rfl (fun _ => ⟨rfl, rfl⟩) xx_up_up ?_
  refine sw_aload_n O (xx_dt dd_X1_init 10 rfl) rfl ?_
  refine sw_bipush (x := 6) O (xx_dt dd_X1_init 11 rfl) (by decide) ?_
  refine sw_newarray (k := 188) (n := 1338) (t := 100) (N := 6) (r := 3003) O (xx_dt dd_X1_init 12 rfl) ⟨⟨by omega, by omega⟩, rfl⟩ ac_int (by decide) (by decide) (by decide) (ob_free (by decide) (by decide) (hf 3003 (by omega) (by omega) (by omega))) (by omega) ?_
  rw [ob_new (by omega) (fun i hi => by obtain rfl : i = 0 := (by omega); rfl)]
  refine sw_putF (h2 := xx_up (setI [(3003, 1), (3002, 1), (3001, 1)] z9 h) 3000 (7, 13, updV (updV (updV (fun j => defaultValue (tyX1 j)) 0 (.ref 3001)) 1 (.ref 3002)) 2 (.ref 3003))) O (xx_dt dd_X1_init 13 rfl) cl_X1 fz_X1_18 (xx_up_eq _ _ _) (by decide) (by omega) rfl rfl (fun _ => ⟨rfl, rfl⟩) xx_up_up ?_
  refine sw_aload_n O (xx_dt dd_X1_init 14 rfl) rfl ?_
  refine sw_bipush (x := 6) O (xx_dt dd_X1_init 15 rfl) (by decide) ?_
  refine sw_newarray (k := 187) (n := 1332) (t := 100) (N := 6) (r := 3004) O (xx_dt dd_X1_init 16 rfl) ⟨⟨by omega, by omega⟩, rfl⟩ ac_int (by decide) (by decide) (by decide) (ob_free (by decide) (by decide) (hf 3004 (by omega) (by omega) (by omega))) (by omega) ?_
  rw [ob_new (by omega) (fun i hi => by obtain rfl : i = 0 := (by omega); rfl)]
  refine sw_putF (h2 := xx_up (setI [(3004, 1), (3003, 1), (3002, 1), (3001, 1)] z9 h) 3000 (7, 13, updV (updV (updV (updV (fun j => defaultValue (tyX1 j)) 0 (.ref 3001)) 1 (.ref 3002)) 2 (.ref 3003)) 3 (.ref 3004))) O (xx_dt dd_X1_init 17 rfl) cl_X1 fz_X1_21 (xx_up_eq _ _ _) (by decide) (by omega) rfl rfl (fun _ => ⟨rfl, rfl⟩) xx_up_up ?_
  refine sw_aload_n O (xx_dt dd_X1_init 18 rfl) rfl ?_
  refine sw_bipush (x := 6) O (xx_dt dd_X1_init 19 rfl) (by decide) ?_
  refine sw_newarray (k := 186) (n := 1326) (t := 100) (N := 6) (r := 3005) O (xx_dt dd_X1_init 20 rfl) ⟨⟨by omega, by omega⟩, rfl⟩ ac_int (by decide) (by decide) (by decide) (ob_free (by decide) (by decide) (hf 3005 (by omega) (by omega) (by omega))) (by omega) ?_
  rw [ob_new (by omega) (fun i hi => by obtain rfl : i = 0 := (by omega); rfl)]
  refine sw_putF (h2 := xx_up (setI [(3005, 1), (3004, 1), (3003, 1), (3002, 1), (3001, 1)] z9 h) 3000 (7, 13, updV (updV (updV (updV (updV (fun j => defaultValue (tyX1 j)) 0 (.ref 3001)) 1 (.ref 3002)) 2 (.ref 3003)) 3 (.ref 3004)) 4 (.ref 3005))) O (xx_dt dd_X1_init 21 rfl) cl_X1 fz_X1_24 (xx_up_eq _ _ _) (by decide) (by omega) rfl rfl (fun _ => ⟨rfl, rfl⟩) xx_up_up ?_
  refine sw_aload_n O (xx_dt dd_X1_init 22 rfl) rfl ?_
  refine sw_bipush (x := 6) O (xx_dt dd_X1_init 23 rfl) (by decide) ?_
  refine sw_newarray (k := 185) (n := 1320) (t := 100) (N := 6) (r := 3006) O (xx_dt dd_X1_init 24 rfl) ⟨⟨by omega, by omega⟩, rfl⟩ ac_int (by decide) (by decide) (by decide) (ob_free (by decide) (by decide) (hf 3006 (by omega) (by omega) (by omega))) (by omega) ?_
  rw [ob_new (by omega) (fun i hi => by obtain rfl : i = 0 := (by omega); rfl)]
  refine sw_putF (h2 := xx_up (setI [(3006, 1), (3005, 1), (3004, 1), (3003, 1), (3002, 1), (3001, 1)] z9 h) 3000 (7, 13, updV (updV (updV (updV (updV (updV (fun j => defaultValue (tyX1 j)) 0 (.ref 3001)) 1 (.ref 3002)) 2 (.ref 3003)) 3 (.ref 3004)) 4 (.ref 3005)) 5 (.ref 3006))) O (xx_dt dd_X1_init 25 rfl) cl_X1 fz_X1_27 (xx_up_eq _ _ _) (by decide) (by omega) rfl rfl (fun _ => ⟨rfl, rfl⟩) xx_up_up ?_
  refine sw_aload_n O (xx_dt dd_X1_init 26 rfl) rfl ?_
  refine sw_bipush (x := 60) O (xx_dt dd_X1_init 27 rfl) (by decide) ?_
  refine sw_iconst (x := 5) O (xx_dt dd_X1_init 28 rfl) (by decide) ?_
  refine sw_multi (k := 124) (n := 960) (N := 60) (K := 5) (r := 3100) O (xx_dt dd_X1_init 29 rfl) mu_X1_30 (by decide) (by decide) (by decide) (by decide) (by omega) (by omega) (fun q hq => ob_free (by omega) (fr_3100 hq) (hf _ (by omega) (by omega) (by omega))) (by omega) ?_
  rw [ob_new (by omega) mb_3100]
  refine sw_putF (h2 := xx_up (setI [(3100, 61), (3006, 1), (3005, 1), (3004, 1), (3003, 1), (3002, 1), (3001, 1)] z9 h) 3000 (7, 13, updV (updV (updV (updV (updV (updV (updV (fun j => defaultValue (tyX1 j)) 0 (.ref 3001)) 1 (.ref 3002)) 2 (.ref 3003)) 3 (.ref 3004)) 4 (.ref 3005)) 5 (.ref 3006)) 6 (.ref 3100))) O (xx_dt dd_X1_init 30 rfl) cl_X1 fz_X1_32 (xx_up_eq _ _ _) (by decide) (by omega) rfl rfl (fun _ => ⟨rfl, rfl⟩) xx_up_up ?_
  refine sw_aload_n O (xx_dt dd_X1_init 31 rfl) rfl ?_
  refine sw_bipush (x := 60) O (xx_dt dd_X1_init 32 rfl) (by decide) ?_
  refine sw_bipush (x := 6) O (xx_dt dd_X1_init 33 rfl) (by decide) ?_
  refine sw_multi (k := 63) (n := 540) (N := 60) (K := 6) (r := 3200) O (xx_dt dd_X1_init 34 rfl) mu_X1_30 (by decide) (by decide) (by decide) (by decide) (by omega) (by omega) (fun q hq => ob_free (by omega) (fr_3200 hq) (hf _ (by omega) (by omega) (by omega))) (by omega) ?_
  rw [ob_new (by omega) mb_3200]
  refine sw_putF (h2 := xx_up (setI [(3200, 61), (3100, 61), (3006, 1), (3005, 1), (3004, 1), (3003, 1), (3002, 1), (3001, 1)] z9 h) 3000 (7, 13, updV (updV (updV (updV (updV (updV (updV (updV (fun j => defaultValue (tyX1 j)) 0 (.ref 3001)) 1 (.ref 3002)) 2 (.ref 3003)) 3 (.ref 3004)) 4 (.ref 3005)) 5 (.ref 3006)) 6 (.ref 3100)) 7 (.ref 3200))) O (xx_dt dd_X1_init 35 rfl) cl_X1 fz_X1_35 (xx_up_eq _ _ _) (by decide) (by omega) rfl rfl (fun _ => ⟨rfl, rfl⟩) xx_up_up ?_
  refine sw_aload_n O (xx_dt dd_X1_init 36 rfl) rfl ?_
  refine sw_bipush (x := 60) O (xx_dt dd_X1_init 37 rfl) (by decide) ?_
  refine sw_bipush (x := 6) O (xx_dt dd_X1_init 38 rfl) (by decide) ?_
  refine sw_multi (k := 2) (n := 120) (N := 60) (K := 6) (r := 3300) O (xx_dt dd_X1_init 39 rfl) mu_X1_30 (by decide) (by decide) (by decide) (by decide) (by omega) (by omega) (fun q hq => ob_free (by omega) (fr_3300 hq) (hf _ (by omega) (by omega) (by omega))) (by omega) ?_
  rw [ob_new (by omega) mb_3300]
  refine sw_putF (h2 := xx_up (setI [(3300, 61), (3200, 61), (3100, 61), (3006, 1), (3005, 1), (3004, 1), (3003, 1), (3002, 1), (3001, 1)] z9 h) 3000 (7, 13, updV (updV (updV (updV (updV (updV (updV (updV (updV (fun j => defaultValue (tyX1 j)) 0 (.ref 3001)) 1 (.ref 3002)) 2 (.ref 3003)) 3 (.ref 3004)) 4 (.ref 3005)) 5 (.ref 3006)) 6 (.ref 3100)) 7 (.ref 3200)) 8 (.ref 3300))) O (xx_dt dd_X1_init 40 rfl) cl_X1 fz_X1_38 (xx_up_eq _ _ _) (by decide) (by omega) rfl rfl (fun _ => ⟨rfl, rfl⟩) xx_up_up ?_
  refine sw_aload_n O (xx_dt dd_X1_init 41 rfl) rfl ?_
  refine sw_bipush (x := 60) O (xx_dt dd_X1_init 42 rfl) (by decide) ?_
  refine sw_newarray (k := 1) (n := 60) (t := 100) (N := 60) (r := 3007) O (xx_dt dd_X1_init 43 rfl) ⟨⟨by omega, by omega⟩, rfl⟩ ac_int (by decide) (by decide) (by decide) (ob_free (by decide) (by decide) (hf 3007 (by omega) (by omega) (by omega))) (by omega) ?_
  rw [ob_new (by omega) (fun i hi => by obtain rfl : i = 0 := (by omega); rfl)]
  refine sw_putF (h2 := xx_up (setI [(3007, 1), (3300, 61), (3200, 61), (3100, 61), (3006, 1), (3005, 1), (3004, 1), (3003, 1), (3002, 1), (3001, 1)] z9 h) 3000 (7, 13, updV (updV (updV (updV (updV (updV (updV (updV (updV (updV (fun j => defaultValue (tyX1 j)) 0 (.ref 3001)) 1 (.ref 3002)) 2 (.ref 3003)) 3 (.ref 3004)) 4 (.ref 3005)) 5 (.ref 3006)) 6 (.ref 3100)) 7 (.ref 3200)) 8 (.ref 3300)) 10 (.ref 3007))) O (xx_dt dd_X1_init 44 rfl) cl_X1 fz_X1_41 (xx_up_eq _ _ _) (by decide) (by omega) rfl rfl (fun _ => ⟨rfl, rfl⟩) xx_up_up ?_
  refine sw_aload_n O (xx_dt dd_X1_init 45 rfl) rfl ?_
  refine sw_bipush (x := 60) O (xx_dt dd_X1_init 46 rfl) (by decide) ?_
  refine sw_newarray (k := 0) (n := 0) (t := 100) (N := 60) (r := 3008) O (xx_dt dd_X1_init 47 rfl) ⟨⟨by omega, by omega⟩, rfl⟩ ac_int (by decide) (by decide) (by decide) (ob_free (by decide) (by decide) (hf 3008 (by omega) (by omega) (by omega))) (by omega) ?_
  rw [ob_new (by omega) (fun i hi => by obtain rfl : i = 0 := (by omega); rfl)]
  refine sw_putF (h2 := xx_up (setI [(3008, 1), (3007, 1), (3300, 61), (3200, 61), (3100, 61), (3006, 1), (3005, 1), (3004, 1), (3003, 1), (3002, 1), (3001, 1)] z9 h) 3000 (7, 13, updV (updV (updV (updV (updV (updV (updV (updV (updV (updV (updV (fun j => defaultValue (tyX1 j)) 0 (.ref 3001)) 1 (.ref 3002)) 2 (.ref 3003)) 3 (.ref 3004)) 4 (.ref 3005)) 5 (.ref 3006)) 6 (.ref 3100)) 7 (.ref 3200)) 8 (.ref 3300)) 10 (.ref 3007)) 11 (.ref 3008))) O (xx_dt dd_X1_init 48 rfl) cl_X1 fz_X1_44 (xx_up_eq _ _ _) (by decide) (by omega) rfl rfl (fun _ => ⟨rfl, rfl⟩) xx_up_up ?_
  refine sw_alter (r := 3000) (t := 7) (N := 13) (F2 := fun k => match k with | 0 => .ref (3000 + 1) | 1 => .ref (3000 + 2) | 2 => .ref (3000 + 3) | 3 => .ref (3000 + 4) | 4 => .ref (3000 + 5) | 5 => .ref (3000 + 6) | 6 => .ref (3000 + 100) | 7 => .ref (3000 + 200) | 8 => .ref (3000 + 300) | 9 => .int (s0C 3000 9) | 10 => .ref (3000 + 7) | 11 => .ref (3000 + 8) | 12 => .int (s0C 3000 12) | _ => .null) (xx_up_eq _ _ _) (fun j hj => ?_) ?_
  · match j, hj with
    | 0, _ => rfl
    | 1, _ => rfl
    | 2, _ => rfl
    | 3, _ => rfl
    | 4, _ => rfl
    | 5, _ => rfl
    | 6, _ => rfl
    | 7, _ => rfl
    | 8, _ => rfl
    | 9, _ => rfl
    | 10, _ => rfl
    | 11, _ => rfl
    | 12, _ => rfl
  rw [xx_up_up, ob_done (σ' := s0C) rfl (fun q hq hne => by simp only [inI, List.any_cons, List.any_nil, Bool.or_false, Bool.or_eq_true, decide_eq_true_eq] at hq; exact s0C_z (by omega) (by omega) (by omega) (by omega))]
  exact sw_ret O (xx_dt dd_X1_init 49 rfl) rfl (by rw [hQ]; exact ⟨rfl, rfl⟩)
theorem setI_up {I : List (Nat × Nat)} {σ : XS9} {h : XH} {a : Nat} {x : Nat → Int32} {c : XC} (hI : inI I a = true) (hl : lyC a x = some c) : xx_up (setI I σ h) a c = setI I (fun q => if q = a then x else σ q) h := by
  funext q
  show (if q = a then some c else if inI I q = true then lyC q (σ q) else h q) = if inI I q = true then lyC q (if q = a then x else σ q) else h q
  by_cases e : q = a
  · subst e
    rw [if_pos rfl, if_pos hI, if_pos rfl, hl]
  · rw [if_neg e, if_neg e]
theorem setI_congr {I : List (Nat × Nat)} {σ σ' : XS9} {h : XH} (e : ∀ q, inI I q = true → σ q = σ' q) : setI I σ h = setI I σ' h := by
  funext q
  unfold setI
  by_cases e2 : inI I q = true
  · rw [if_pos e2, if_pos e2, e q e2]
  · rw [if_neg e2, if_neg e2]
theorem setI_in {I : List (Nat × Nat)} {σ : XS9} {h : XH} {q : Nat} (e : inI I q = true) : setI I σ h q = lyC q (σ q) := if_pos e
theorem fill_eq {F : Nat → Value} {x : Int32} {s : Nat} : updV (fun k => if k < s then .int x else F k) s (.int x) = fun k => if k < s + 1 then .int x else F k := by
  funext k
  unfold updV
  by_cases e : k = s
  · rw [if_pos e, if_pos (by omega)]
  · rw [if_neg e]
    dsimp only
    by_cases e2 : k < s
    · rw [if_pos e2, if_pos (by omega)]
    · rw [if_neg e2, if_neg (by omega)]
theorem ct_fillG {l : Launch} {h : XH} (hl : l.stackTraces = false) {a n : Nat} {x : Int32} {F : Nat → Value} (ha : h a = some (100, n, F)) (h1 : 1000 ≤ a) (hn : n < 2147483648) : XEx l m_J7_fill_53178 0 0 0 [.ref a, .int x] (h) (none) (xx_up h a (100, n, fun _ => .int x)) := by
  refine XMet.of hl rfl rfl (Nat.le_of_ble_eq_true rfl) (fun Y O hh hQ => ?_)
  show SW Y 0 0 (h) 0 [.ref a, .int x, xx_d, xx_d] []
  refine sw_iconst (x := 0) O (xx_dt dd_J7_fill_53178 0 rfl) (by decide) ?_
  refine sw_istore_n (ls2 := [.ref a, .int x, .int 0, xx_d]) O (xx_dt dd_J7_fill_53178 1 rfl) (by decide) rfl ?_
  refine sw_aload_n O (xx_dt dd_J7_fill_53178 2 rfl) rfl ?_
  refine sw_alen (t := 100) O (xx_dt dd_J7_fill_53178 3 rfl) (by omega) (by omega) ha ?_
  refine sw_istore_n (ls2 := [.ref a, .int x, .int 0, .int (nI n)]) O (xx_dt dd_J7_fill_53178 4 rfl) (by decide) rfl ?_
  rw [show h = xx_up h a (100, n, fun k => if k < 0 then .int x else F k) from (by rw [show (fun k => if k < 0 then Value.int x else F k) = F from funext fun k => if_neg (Nat.not_lt_zero k)]; exact (xx_up_self ha).symm)]
  refine sw_for (S := Nat) (fun i _ => i + 1) (fun i s => s = i) (hp := fun s => xx_up h a (100, n, fun k => if k < s then .int x else F k)) (hd := 5) (lc := fun i s => [.ref a, .int x, .int (nI i), .int (nI n)]) (N := n) (fun i s hi hs => ⟨rfl, fun kk => ?_⟩) n 0 0 (by omega) rfl (fun hs => ?_)
  · subst hs
    refine sw_iload_n O (xx_dt dd_J7_fill_53178 5 rfl) rfl ?_
    refine sw_iload_n O (xx_dt dd_J7_fill_53178 6 rfl) rfl ?_
    refine sw_icmp_ge (tgt := 20) O (xx_dt dd_J7_fill_53178 7 rfl) (by decide) (fun q => absurd q (nI_ge (b := n) hi (by omega))) (fun q => ?_)
    refine sw_aload_n O (xx_dt dd_J7_fill_53178 8 rfl) rfl ?_
    refine sw_iload_n O (xx_dt dd_J7_fill_53178 9 rfl) rfl ?_
    refine sw_iload_n O (xx_dt dd_J7_fill_53178 10 rfl) rfl ?_
    refine sw_iastore (h2 := xx_up h a (100, n, fun k => if k < (s + 1) then .int x else F k)) O (xx_dt dd_J7_fill_53178 11 rfl) (xx_up_eq _ _ _) (pk_in s n hi) h1 (by rw [nI_clamp (by omega), xx_up_up, fill_eq]) ?_
    refine sw_iinc (y := nI (s + 1)) (ls2 := [.ref a, .int x, .int (nI (s + 1)), .int (nI n)]) O (xx_dt dd_J7_fill_53178 12 rfl) rfl (nI_1 _) (by decide) rfl ?_
    refine sw_goto (tgt := 5) O (xx_dt dd_J7_fill_53178 13 rfl) (by decide) ?_
    exact kk
  · generalize hz : xit (fun i _ => i + 1) n 0 0 = z at hs ⊢
    subst hs
    refine sw_iload_n O (xx_dt dd_J7_fill_53178 5 rfl) rfl ?_
    refine sw_iload_n O (xx_dt dd_J7_fill_53178 6 rfl) rfl ?_
    refine sw_icmp_ge (tgt := 20) O (xx_dt dd_J7_fill_53178 7 rfl) (by decide) (fun q => ?_) (fun q => absurd (Int32.le_refl _) q)
    refine sw_alter (r := a) (F2 := fun _ => .int x) (xx_up_eq _ _ _) (fun j hj => if_pos hj) ?_
    rw [xx_up_up]
    exact sw_ret O (xx_dt dd_J7_fill_53178 14 rfl) rfl (by rw [hQ]; exact ⟨rfl, rfl⟩)
end
section
/-! ===== constructors with rows of -1 ===== -/
theorem lyr_1140 {k : Nat} (hk : k < 5) (s : Nat → Int32) : lyC (1141 + k) s = some (100, 5, fun j => .int (s j)) := by
  have := lr_1140 (fun _ => s) (fun _ => none) hk
  unfold setC at this
  rw [if_pos (by omega)] at this
  exact this
def zR1140 (z : XS9) (n : Nat) : XS9 := fun q => if 1141 ≤ q ∧ q < 1141 + n then (fun _ => -1) else z q
theorem zR1140_s (z : XS9) (n : Nat) : (fun q => if q = 1141 + n then (fun _ => (-1 : Int32)) else zR1140 z n q) = zR1140 z (n + 1) := by
  funext q
  unfold zR1140
  by_cases e : q = 1141 + n
  · rw [if_pos e, if_pos (by omega)]
  · rw [if_neg e]
    by_cases e2 : 1141 ≤ q ∧ q < 1141 + n
    · rw [if_pos e2, if_pos (by omega)]
    · rw [if_neg e2, if_neg (by omega)]
theorem lyr_1050 {k : Nat} (hk : k < 64) (s : Nat → Int32) : lyC (1051 + k) s = some (100, 6, fun j => .int (s j)) := by
  have := lr_1050 (fun _ => s) (fun _ => none) hk
  unfold setC at this
  rw [if_pos (by omega)] at this
  exact this
def zR1050 (z : XS9) (n : Nat) : XS9 := fun q => if 1051 ≤ q ∧ q < 1051 + n then (fun _ => -1) else z q
theorem zR1050_s (z : XS9) (n : Nat) : (fun q => if q = 1051 + n then (fun _ => (-1 : Int32)) else zR1050 z n q) = zR1050 z (n + 1) := by
  funext q
  unfold zR1050
  by_cases e : q = 1051 + n
  · rw [if_pos e, if_pos (by omega)]
  · rw [if_neg e]
    by_cases e2 : 1051 ≤ q ∧ q < 1051 + n
    · rw [if_pos e2, if_pos (by omega)]
    · rw [if_neg e2, if_neg (by omega)]
theorem ct_X3_init {l : Launch} {h : XH} (hl : l.stackTraces = false) (hf : ∀ q, 1140 ≤ q → q < 1146 → q ≠ 1005 → h q = none) (hb : h 1005 = some (9, 2, fun j => defaultValue (tyX3 j))) : XEx l m_X3_init 1 6 30 [.ref 1005] h none (setI [(1005, 1), (1140, 6)] s0C h) := by
  refine XMet.of hl rfl rfl (Nat.le_of_ble_eq_true rfl) (fun Y O hh hQ => ?_)
  have fr_1140 : ∀ {q : Nat}, q < 6 → inI [] (1140 + q) = false := by decide
  have mb_1140 : ∀ i, i < 6 → lyC (1140 + i) (z9 (1140 + i)) = some (if i = 0 then (103, 5, fun q => .ref (1140 + 1 + q)) else (100, 5, fun _ => .int 0)) := by
    intro i hi
    cases i with
    | zero => rfl
    | succ k =>
      have h9 := lr_1140 z9 (fun _ => none) (k := k) (by omega)
      unfold setC at h9
      rw [if_pos (by omega)] at h9
      rw [show 1140 + (k + 1) = 1141 + k by omega, if_neg (by omega)]
      exact h9
  rw [show h = xx_up (setI [] z9 h) 1005 (9, 2, fun j => defaultValue (tyX3 j)) from (xx_up_self hb).symm]
  show SW Y 6 30 _ 0 [.ref 1005, xx_d] []
  refine sw_aload_n O (xx_dt dd_X3_init 0 rfl) rfl ?_
  refine sw_objInit O oi_X3_3 (xx_dt dd_X3_init 1 rfl) (by omega) (Nat.le_of_ble_eq_true rfl) ?_
  refine sw_aload_n O (xx_dt dd_X3_init 2 rfl) rfl ?_
  refine sw_iconst (x := 5) O (xx_dt dd_X3_init 3 rfl) (by decide) ?_
  refine sw_iconst (x := 5) O (xx_dt dd_X3_init 4 rfl) (by decide) ?_
  refine sw_multi (k := 0) (n := 0) (N := 5) (K := 5) (r := 1140) O (xx_dt dd_X3_init 5 rfl) mu_X3_9 (by decide) (by decide) (by decide) (by decide) (by omega) (by omega) (fun q hq => ob_free (by omega) (fr_1140 hq) (hf _ (by omega) (by omega) (by omega))) (by omega) ?_
  rw [ob_new (by omega) mb_1140]
  refine sw_putF (h2 := xx_up (setI [(1140, 6)] z9 h) 1005 (9, 2, updV (fun j => defaultValue (tyX3 j)) 0 (.ref 1140))) O (xx_dt dd_X3_init 6 rfl) cl_X3 fz_X3_11 (xx_up_eq _ _ _) (by decide) (by omega) rfl rfl (fun _ => ⟨rfl, rfl⟩) xx_up_up ?_
  refine sw_alter (r := 1005) (t := 9) (N := 2) (F2 := fun k => match k with | 0 => .ref (1140) | 1 => .int (z9 1005 1) | _ => .null) (xx_up_eq _ _ _) (fun j hj => ?_) ?_
  · match j, hj with
    | 0, _ => rfl
    | 1, _ => rfl
  rw [xx_up_up, ob_done (σ' := z9) rfl (fun _ _ _ => rfl)]
  refine sw_iconst (x := 0) O (xx_dt dd_X3_init 7 rfl) (by decide) ?_
  refine sw_istore_n (ls2 := [.ref 1005, .int 0]) O (xx_dt dd_X3_init 8 rfl) (by decide) rfl ?_
  rw [show setI [(1005, 1), (1140, 6)] z9 h = setI [(1005, 1), (1140, 6)] (zR1140 z9 0) h from setI_congr (fun q hq => by unfold zR1140; rw [if_neg (by omega)])]
  refine sw_for (S := Nat) (fun i _ => i + 1) (fun i s => s = i) (hp := fun s => setI [(1005, 1), (1140, 6)] (zR1140 z9 s) h) (hd := 16) (lc := fun i s => [.ref 1005, .int (nI i)]) (N := 5) (fun i s hi hs => ⟨rfl, fun kk => ?_⟩) 5 0 0 (by omega) rfl (fun hs => ?_)
  · subst hs
    refine sw_iload_n O (xx_dt dd_X3_init 9 rfl) rfl ?_
    refine sw_iconst (x := 5) O (xx_dt dd_X3_init 10 rfl) (by decide) ?_
    refine sw_icmp_ge (tgt := 37) O (xx_dt dd_X3_init 11 rfl) (by decide) (fun q => absurd q (nI_ge (b := 5) hi (by omega))) (fun q => ?_)
    refine sw_aload_n O (xx_dt dd_X3_init 12 rfl) rfl ?_
    refine sw_get (v := .ref 1140) O (xx_dt dd_X3_init 13 rfl) cl_X3 fl_X3_11 (f := fun k => match k with | 0 => .ref (1140) | 1 => .int ((zR1140 z9 s) 1005 1) | _ => .null) (setI_in (by decide)) (by decide) rfl ?_
    refine sw_iload_n O (xx_dt dd_X3_init 14 rfl) rfl ?_
    refine sw_aaload (t := 103) (N := 5) (f := fun k => .ref (1141 + k)) (v := .ref (1141 + s)) O (xx_dt dd_X3_init 15 rfl) (by omega) (by omega) (setI_in (by decide)) (pk_in s 5 hi) (by rw [nI_clamp (by omega)]) ?_
    refine sw_iconst (x := (-1)) O (xx_dt dd_X3_init 16 rfl) (by decide) ?_
    refine sw_callSx (as := [.ref (1141 + s), .int (-1)]) (st := []) (st2 := []) O (ct_fillG hl (a := 1141 + s) (n := 5) (x := -1) (F := fun k => .int ((zR1140 z9 s) (1141 + s) k)) ((setI_in (by simp only [inI, List.any_cons, List.any_nil, Bool.or_false, Bool.or_eq_true, decide_eq_true_eq]; omega)).trans (lyr_1140 hi _)) (by omega) (by omega)) ce_J7_fill_53178 ml_X3_16 st_J7_fill_53178 (xx_dt dd_X3_init 17 rfl) (by decide) rfl rfl (Nat.le_of_ble_eq_true rfl) rfl ?_
    rw [setI_up (x := fun _ => -1) (by simp only [inI, List.any_cons, List.any_nil, Bool.or_false, Bool.or_eq_true, decide_eq_true_eq]; omega) (lyr_1140 hi _), zR1140_s]
    refine sw_iinc (y := nI (s + 1)) (ls2 := [.ref 1005, .int (nI (s + 1))]) O (xx_dt dd_X3_init 18 rfl) rfl (nI_1 _) (by decide) rfl ?_
    refine sw_goto (tgt := 16) O (xx_dt dd_X3_init 19 rfl) (by decide) ?_
    exact kk
  · generalize hz : xit (fun i _ => i + 1) 5 0 0 = z at hs ⊢
    subst hs
    refine sw_iload_n O (xx_dt dd_X3_init 9 rfl) rfl ?_
    refine sw_iconst (x := 5) O (xx_dt dd_X3_init 10 rfl) (by decide) ?_
    refine sw_icmp_ge (tgt := 37) O (xx_dt dd_X3_init 11 rfl) (by decide) (fun q => ?_) (fun q => absurd (Int32.le_refl _) q)
    rw [show setI [(1005, 1), (1140, 6)] (zR1140 z9 5) h = setI [(1005, 1), (1140, 6)] s0C h from setI_congr (fun q hq => by
      simp only [inI, List.any_cons, List.any_nil, Bool.or_false, Bool.or_eq_true, decide_eq_true_eq] at hq
      unfold zR1140
      by_cases e : 1141 ≤ q ∧ q < 1141 + 5
      · rw [if_pos e]
        funext k
        unfold s0C
        rw [if_neg (by omega), if_neg (by omega), if_pos (by omega)]
      · rw [if_neg e]
        exact (s0C_z (by omega) (by omega) (by omega) (by omega)).symm)]
    exact sw_ret O (xx_dt dd_X3_init 20 rfl) rfl (by rw [hQ]; exact ⟨rfl, rfl⟩)
def zM1 : XS9 := fun q => if q = 1042 then (fun _ => -1) else z9 q
def zM2 : XS9 := fun q => if q = 1042 then (fun j => if j = 0 then 0 else -1) else zM1 q
def zM3 : XS9 := fun q => if q = 1043 then (fun _ => -1) else zR1050 zM2 64 q
def zM4 : XS9 := fun q => if q = 1040 then (fun _ => -1) else zM3 q
theorem ct_X2_init {l : Launch} {h : XH} (hl : l.stackTraces = false) (hf : ∀ q, 1020 ≤ q → q < 1125 → q ≠ 1003 → h q = none) (hb : h 1003 = some (8, 11, fun j => defaultValue (tyX2 j))) : XEx l m_X2_init 1 90 707 [.ref 1003] h none (setI [(1003, 1), (1120, 5), (1044, 1), (1043, 1), (1050, 65), (1042, 1), (1041, 1), (1040, 1), (1030, 7), (1021, 7), (1020, 1)] s0C h) := by
  refine XMet.of hl rfl rfl (Nat.le_of_ble_eq_true rfl) (fun Y O hh hQ => ?_)
  have fr_1021 : ∀ {q : Nat}, q < 7 → inI [(1020, 1)] (1021 + q) = false := by decide
  have mb_1021 : ∀ i, i < 7 → lyC (1021 + i) (z9 (1021 + i)) = some (if i = 0 then (103, 6, fun q => .ref (1021 + 1 + q)) else (100, 6, fun _ => .int 0)) := by
    intro i hi
    cases i with
    | zero => rfl
    | succ k =>
      have h9 := lr_1021 z9 (fun _ => none) (k := k) (by omega)
      unfold setC at h9
      rw [if_pos (by omega)] at h9
      rw [show 1021 + (k + 1) = 1022 + k by omega, if_neg (by omega)]
      exact h9
  have fr_1030 : ∀ {q : Nat}, q < 7 → inI [(1021, 7), (1020, 1)] (1030 + q) = false := by decide
  have mb_1030 : ∀ i, i < 7 → lyC (1030 + i) (z9 (1030 + i)) = some (if i = 0 then (103, 6, fun q => .ref (1030 + 1 + q)) else (100, 6, fun _ => .int 0)) := by
    intro i hi
    cases i with
    | zero => rfl
    | succ k =>
      have h9 := lr_1030 z9 (fun _ => none) (k := k) (by omega)
      unfold setC at h9
      rw [if_pos (by omega)] at h9
      rw [show 1030 + (k + 1) = 1031 + k by omega, if_neg (by omega)]
      exact h9
  have fr_1050 : ∀ {q : Nat}, q < 65 → inI [(1042, 1), (1041, 1), (1040, 1), (1030, 7), (1021, 7), (1020, 1)] (1050 + q) = false := by decide
  have mb_1050 : ∀ i, i < 65 → lyC (1050 + i) (z9 (1050 + i)) = some (if i = 0 then (103, 64, fun q => .ref (1050 + 1 + q)) else (100, 6, fun _ => .int 0)) := by
    intro i hi
    cases i with
    | zero => rfl
    | succ k =>
      have h9 := lr_1050 z9 (fun _ => none) (k := k) (by omega)
      unfold setC at h9
      rw [if_pos (by omega)] at h9
      rw [show 1050 + (k + 1) = 1051 + k by omega, if_neg (by omega)]
      exact h9
  have fr_1120 : ∀ {q : Nat}, q < 5 → inI [(1044, 1), (1043, 1), (1050, 65), (1042, 1), (1041, 1), (1040, 1), (1030, 7), (1021, 7), (1020, 1)] (1120 + q) = false := by decide
  have mb_1120 : ∀ i, i < 5 → lyC (1120 + i) (z9 (1120 + i)) = some (if i = 0 then (103, 4, fun q => .ref (1120 + 1 + q)) else (100, 5, fun _ => .int 0)) := by
    intro i hi
    cases i with
    | zero => rfl
    | succ k =>
      have h9 := lr_1120 z9 (fun _ => none) (k := k) (by omega)
      unfold setC at h9
      rw [if_pos (by omega)] at h9
      rw [show 1120 + (k + 1) = 1121 + k by omega, if_neg (by omega)]
      exact h9
  rw [show h = xx_up (setI [] z9 h) 1003 (8, 11, fun j => defaultValue (tyX2 j)) from (xx_up_self hb).symm]
  show SW Y 90 707 _ 0 [.ref 1003, xx_d] []
  refine sw_aload_n O (xx_dt dd_X2_init 0 rfl) rfl ?_
  refine sw_objInit O oi_X2_3 (xx_dt dd_X2_init 1 rfl) (by omega) (Nat.le_of_ble_eq_true rfl) ?_
  refine sw_aload_n O (xx_dt dd_X2_init 2 rfl) rfl ?_
  refine sw_bipush (x := 6) O (xx_dt dd_X2_init 3 rfl) (by decide) ?_
  refine sw_newarray (k := 89) (n := 701) (t := 100) (N := 6) (r := 1020) O (xx_dt dd_X2_init 4 rfl) ⟨⟨by omega, by omega⟩, rfl⟩ ac_int (by decide) (by decide) (by decide) (ob_free (by decide) (by decide) (hf 1020 (by omega) (by omega) (by omega))) (by omega) ?_
  rw [ob_new (by omega) (fun i hi => by obtain rfl : i = 0 := (by omega); rfl)]
  refine sw_putF (h2 := xx_up (setI [(1020, 1)] z9 h) 1003 (8, 11, updV (fun j => defaultValue (tyX2 j)) 0 (.ref 1020))) O (xx_dt dd_X2_init 5 rfl) cl_X2 fz_X2_9 (xx_up_eq _ _ _) (by decide) (by omega) rfl rfl (fun _ => ⟨rfl, rfl⟩) xx_up_up ?_
  refine sw_aload_n O (xx_dt dd_X2_init 6 rfl) rfl ?_
  refine sw_bipush (x := 6) O (xx_dt dd_X2_init 7 rfl) (by decide) ?_
  refine sw_bipush (x := 6) O (xx_dt dd_X2_init 8 rfl) (by decide) ?_
  refine sw_multi (k := 82) (n := 659) (N := 6) (K := 6) (r := 1021) O (xx_dt dd_X2_init 9 rfl) mu_X2_15 (by decide) (by decide) (by decide) (by decide) (by omega) (by omega) (fun q hq => ob_free (by omega) (fr_1021 hq) (hf _ (by omega) (by omega) (by omega))) (by omega) ?_
  rw [ob_new (by omega) mb_1021]
  refine sw_putF (h2 := xx_up (setI [(1021, 7), (1020, 1)] z9 h) 1003 (8, 11, updV (updV (fun j => defaultValue (tyX2 j)) 0 (.ref 1020)) 1 (.ref 1021))) O (xx_dt dd_X2_init 10 rfl) cl_X2 fz_X2_17 (xx_up_eq _ _ _) (by decide) (by omega) rfl rfl (fun _ => ⟨rfl, rfl⟩) xx_up_up ?_
  refine sw_aload_n O (xx_dt dd_X2_init 11 rfl) rfl ?_
  refine sw_bipush (x := 6) O (xx_dt dd_X2_init 12 rfl) (by decide) ?_
  refine sw_bipush (x := 6) O (xx_dt dd_X2_init 13 rfl) (by decide) ?_
  refine sw_multi (k := 75) (n := 617) (N := 6) (K := 6) (r := 1030) O (xx_dt dd_X2_init 14 rfl) mu_X2_15 (by decide) (by decide) (by decide) (by decide) (by omega) (by omega) (fun q hq => ob_free (by omega) (fr_1030 hq) (hf _ (by omega) (by omega) (by omega))) (by omega) ?_
  rw [ob_new (by omega) mb_1030]
  refine sw_putF (h2 := xx_up (setI [(1030, 7), (1021, 7), (1020, 1)] z9 h) 1003 (8, 11, updV (updV (updV (fun j => defaultValue (tyX2 j)) 0 (.ref 1020)) 1 (.ref 1021)) 2 (.ref 1030))) O (xx_dt dd_X2_init 15 rfl) cl_X2 fz_X2_20 (xx_up_eq _ _ _) (by decide) (by omega) rfl rfl (fun _ => ⟨rfl, rfl⟩) xx_up_up ?_
  refine sw_aload_n O (xx_dt dd_X2_init 16 rfl) rfl ?_
  refine sw_bipush (x := 6) O (xx_dt dd_X2_init 17 rfl) (by decide) ?_
  refine sw_newarray (k := 74) (n := 611) (t := 100) (N := 6) (r := 1040) O (xx_dt dd_X2_init 18 rfl) ⟨⟨by omega, by omega⟩, rfl⟩ ac_int (by decide) (by decide) (by decide) (ob_free (by decide) (by decide) (hf 1040 (by omega) (by omega) (by omega))) (by omega) ?_
  rw [ob_new (by omega) (fun i hi => by obtain rfl : i = 0 := (by omega); rfl)]
  refine sw_putF (h2 := xx_up (setI [(1040, 1), (1030, 7), (1021, 7), (1020, 1)] z9 h) 1003 (8, 11, updV (updV (updV (updV (fun j => defaultValue (tyX2 j)) 0 (.ref 1020)) 1 (.ref 1021)) 2 (.ref 1030)) 3 (.ref 1040))) O (xx_dt dd_X2_init 19 rfl) cl_X2 fz_X2_23 (xx_up_eq _ _ _) (by decide) (by omega) rfl rfl (fun _ => ⟨rfl, rfl⟩) xx_up_up ?_
  refine sw_aload_n O (xx_dt dd_X2_init 20 rfl) rfl ?_
  refine sw_bipush (x := 64) O (xx_dt dd_X2_init 21 rfl) (by decide) ?_
  refine sw_newarray (k := 73) (n := 547) (t := 100) (N := 64) (r := 1041) O (xx_dt dd_X2_init 22 rfl) ⟨⟨by omega, by omega⟩, rfl⟩ ac_int (by decide) (by decide) (by decide) (ob_free (by decide) (by decide) (hf 1041 (by omega) (by omega) (by omega))) (by omega) ?_
  rw [ob_new (by omega) (fun i hi => by obtain rfl : i = 0 := (by omega); rfl)]
  refine sw_putF (h2 := xx_up (setI [(1041, 1), (1040, 1), (1030, 7), (1021, 7), (1020, 1)] z9 h) 1003 (8, 11, updV (updV (updV (updV (updV (fun j => defaultValue (tyX2 j)) 0 (.ref 1020)) 1 (.ref 1021)) 2 (.ref 1030)) 3 (.ref 1040)) 4 (.ref 1041))) O (xx_dt dd_X2_init 23 rfl) cl_X2 fz_X2_26 (xx_up_eq _ _ _) (by decide) (by omega) rfl rfl (fun _ => ⟨rfl, rfl⟩) xx_up_up ?_
  refine sw_aload_n O (xx_dt dd_X2_init 24 rfl) rfl ?_
  refine sw_bipush (x := 64) O (xx_dt dd_X2_init 25 rfl) (by decide) ?_
  refine sw_newarray (k := 72) (n := 483) (t := 100) (N := 64) (r := 1042) O (xx_dt dd_X2_init 26 rfl) ⟨⟨by omega, by omega⟩, rfl⟩ ac_int (by decide) (by decide) (by decide) (ob_free (by decide) (by decide) (hf 1042 (by omega) (by omega) (by omega))) (by omega) ?_
  rw [ob_new (by omega) (fun i hi => by obtain rfl : i = 0 := (by omega); rfl)]
  refine sw_putF (h2 := xx_up (setI [(1042, 1), (1041, 1), (1040, 1), (1030, 7), (1021, 7), (1020, 1)] z9 h) 1003 (8, 11, updV (updV (updV (updV (updV (updV (fun j => defaultValue (tyX2 j)) 0 (.ref 1020)) 1 (.ref 1021)) 2 (.ref 1030)) 3 (.ref 1040)) 4 (.ref 1041)) 6 (.ref 1042))) O (xx_dt dd_X2_init 27 rfl) cl_X2 fz_X2_29 (xx_up_eq _ _ _) (by decide) (by omega) rfl rfl (fun _ => ⟨rfl, rfl⟩) xx_up_up ?_
  refine sw_aload_n O (xx_dt dd_X2_init 28 rfl) rfl ?_
  refine sw_bipush (x := 64) O (xx_dt dd_X2_init 29 rfl) (by decide) ?_
  refine sw_bipush (x := 6) O (xx_dt dd_X2_init 30 rfl) (by decide) ?_
  refine sw_multi (k := 7) (n := 35) (N := 64) (K := 6) (r := 1050) O (xx_dt dd_X2_init 31 rfl) mu_X2_15 (by decide) (by decide) (by decide) (by decide) (by omega) (by omega) (fun q hq => ob_free (by omega) (fr_1050 hq) (hf _ (by omega) (by omega) (by omega))) (by omega) ?_
  rw [ob_new (by omega) mb_1050]
  refine sw_putF (h2 := xx_up (setI [(1050, 65), (1042, 1), (1041, 1), (1040, 1), (1030, 7), (1021, 7), (1020, 1)] z9 h) 1003 (8, 11, updV (updV (updV (updV (updV (updV (updV (fun j => defaultValue (tyX2 j)) 0 (.ref 1020)) 1 (.ref 1021)) 2 (.ref 1030)) 3 (.ref 1040)) 4 (.ref 1041)) 6 (.ref 1042)) 7 (.ref 1050))) O (xx_dt dd_X2_init 32 rfl) cl_X2 fz_X2_32 (xx_up_eq _ _ _) (by decide) (by omega) rfl rfl (fun _ => ⟨rfl, rfl⟩) xx_up_up ?_
  refine sw_aload_n O (xx_dt dd_X2_init 33 rfl) rfl ?_
  refine sw_bipush (x := 6) O (xx_dt dd_X2_init 34 rfl) (by decide) ?_
  refine sw_newarray (k := 6) (n := 29) (t := 100) (N := 6) (r := 1043) O (xx_dt dd_X2_init 35 rfl) ⟨⟨by omega, by omega⟩, rfl⟩ ac_int (by decide) (by decide) (by decide) (ob_free (by decide) (by decide) (hf 1043 (by omega) (by omega) (by omega))) (by omega) ?_
  rw [ob_new (by omega) (fun i hi => by obtain rfl : i = 0 := (by omega); rfl)]
  refine sw_putF (h2 := xx_up (setI [(1043, 1), (1050, 65), (1042, 1), (1041, 1), (1040, 1), (1030, 7), (1021, 7), (1020, 1)] z9 h) 1003 (8, 11, updV (updV (updV (updV (updV (updV (updV (updV (fun j => defaultValue (tyX2 j)) 0 (.ref 1020)) 1 (.ref 1021)) 2 (.ref 1030)) 3 (.ref 1040)) 4 (.ref 1041)) 6 (.ref 1042)) 7 (.ref 1050)) 8 (.ref 1043))) O (xx_dt dd_X2_init 36 rfl) cl_X2 fz_X2_35 (xx_up_eq _ _ _) (by decide) (by omega) rfl rfl (fun _ => ⟨rfl, rfl⟩) xx_up_up ?_
  refine sw_aload_n O (xx_dt dd_X2_init 37 rfl) rfl ?_
  refine sw_iconst (x := 5) O (xx_dt dd_X2_init 38 rfl) (by decide) ?_
  refine sw_newarray (k := 5) (n := 24) (t := 100) (N := 5) (r := 1044) O (xx_dt dd_X2_init 39 rfl) ⟨⟨by omega, by omega⟩, rfl⟩ ac_int (by decide) (by decide) (by decide) (ob_free (by decide) (by decide) (hf 1044 (by omega) (by omega) (by omega))) (by omega) ?_
  rw [ob_new (by omega) (fun i hi => by obtain rfl : i = 0 := (by omega); rfl)]
  refine sw_putF (h2 := xx_up (setI [(1044, 1), (1043, 1), (1050, 65), (1042, 1), (1041, 1), (1040, 1), (1030, 7), (1021, 7), (1020, 1)] z9 h) 1003 (8, 11, updV (updV (updV (updV (updV (updV (updV (updV (updV (fun j => defaultValue (tyX2 j)) 0 (.ref 1020)) 1 (.ref 1021)) 2 (.ref 1030)) 3 (.ref 1040)) 4 (.ref 1041)) 6 (.ref 1042)) 7 (.ref 1050)) 8 (.ref 1043)) 9 (.ref 1044))) O (xx_dt dd_X2_init 40 rfl) cl_X2 fz_X2_38 (xx_up_eq _ _ _) (by decide) (by omega) rfl rfl (fun _ => ⟨rfl, rfl⟩) xx_up_up ?_
  refine sw_aload_n O (xx_dt dd_X2_init 41 rfl) rfl ?_
  refine sw_iconst (x := 4) O (xx_dt dd_X2_init 42 rfl) (by decide) ?_
  refine sw_iconst (x := 5) O (xx_dt dd_X2_init 43 rfl) (by decide) ?_
  refine sw_multi (k := 0) (n := 0) (N := 4) (K := 5) (r := 1120) O (xx_dt dd_X2_init 44 rfl) mu_X2_15 (by decide) (by decide) (by decide) (by decide) (by omega) (by omega) (fun q hq => ob_free (by omega) (fr_1120 hq) (hf _ (by omega) (by omega) (by omega))) (by omega) ?_
  rw [ob_new (by omega) mb_1120]
  refine sw_putF (h2 := xx_up (setI [(1120, 5), (1044, 1), (1043, 1), (1050, 65), (1042, 1), (1041, 1), (1040, 1), (1030, 7), (1021, 7), (1020, 1)] z9 h) 1003 (8, 11, updV (updV (updV (updV (updV (updV (updV (updV (updV (updV (fun j => defaultValue (tyX2 j)) 0 (.ref 1020)) 1 (.ref 1021)) 2 (.ref 1030)) 3 (.ref 1040)) 4 (.ref 1041)) 6 (.ref 1042)) 7 (.ref 1050)) 8 (.ref 1043)) 9 (.ref 1044)) 10 (.ref 1120))) O (xx_dt dd_X2_init 45 rfl) cl_X2 fz_X2_41 (xx_up_eq _ _ _) (by decide) (by omega) rfl rfl (fun _ => ⟨rfl, rfl⟩) xx_up_up ?_
  refine sw_alter (r := 1003) (t := 8) (N := 11) (F2 := fun k => match k with | 0 => .ref (1020) | 1 => .ref (1021) | 2 => .ref (1030) | 3 => .ref (1040) | 4 => .ref (1041) | 5 => .int (z9 1003 5) | 6 => .ref (1042) | 7 => .ref (1050) | 8 => .ref (1043) | 9 => .ref (1044) | 10 => .ref (1120) | _ => .null) (xx_up_eq _ _ _) (fun j hj => ?_) ?_
  · match j, hj with
    | 0, _ => rfl
    | 1, _ => rfl
    | 2, _ => rfl
    | 3, _ => rfl
    | 4, _ => rfl
    | 5, _ => rfl
    | 6, _ => rfl
    | 7, _ => rfl
    | 8, _ => rfl
    | 9, _ => rfl
    | 10, _ => rfl
  rw [xx_up_up, ob_done (σ' := z9) rfl (fun _ _ _ => rfl)]
  refine sw_aload_n O (xx_dt dd_X2_init 46 rfl) rfl ?_
  refine sw_get (v := .ref 1042) O (xx_dt dd_X2_init 47 rfl) cl_X2 fl_X2_29 (f := fun k => match k with | 0 => .ref (1020) | 1 => .ref (1021) | 2 => .ref (1030) | 3 => .ref (1040) | 4 => .ref (1041) | 5 => .int (z9 1003 5) | 6 => .ref (1042) | 7 => .ref (1050) | 8 => .ref (1043) | 9 => .ref (1044) | 10 => .ref (1120) | _ => .null) (setI_in (by decide)) (by decide) rfl ?_
  refine sw_iconst (x := (-1)) O (xx_dt dd_X2_init 48 rfl) (by decide) ?_
  refine sw_callSx (as := [.ref (1042), .int (-1)]) (st := []) (st2 := []) O (ct_fillG hl (a := 1042) (n := 64) (x := -1) (F := fun k => .int (z9 (1042) k)) (setI_in (by decide)) (by omega) (by omega)) ce_J7_fill_53178 ml_X2_44 st_J7_fill_53178 (xx_dt dd_X2_init 49 rfl) (by decide) rfl rfl (Nat.le_of_ble_eq_true rfl) rfl ?_
  rw [setI_up (x := fun _ => -1) (by decide) rfl, show (fun q => if q = 1042 then (fun _ => (-1 : Int32)) else z9 q) = zM1 from rfl]
  refine sw_aload_n O (xx_dt dd_X2_init 50 rfl) rfl ?_
  refine sw_get (v := .ref 1042) O (xx_dt dd_X2_init 51 rfl) cl_X2 fl_X2_29 (f := fun k => match k with | 0 => .ref (1020) | 1 => .ref (1021) | 2 => .ref (1030) | 3 => .ref (1040) | 4 => .ref (1041) | 5 => .int (zM1 1003 5) | 6 => .ref (1042) | 7 => .ref (1050) | 8 => .ref (1043) | 9 => .ref (1044) | 10 => .ref (1120) | _ => .null) (setI_in (by decide)) (by decide) rfl ?_
  refine sw_iconst (x := 0) O (xx_dt dd_X2_init 52 rfl) (by decide) ?_
  refine sw_iconst (x := 0) O (xx_dt dd_X2_init 53 rfl) (by decide) ?_
  refine sw_iastore (h2 := setI [(1003, 1), (1120, 5), (1044, 1), (1043, 1), (1050, 65), (1042, 1), (1041, 1), (1040, 1), (1030, 7), (1021, 7), (1020, 1)] zM2 h) (N := 64) (f := fun k => .int (zM1 1042 k)) O (xx_dt dd_X2_init 54 rfl) (setI_in (by decide)) (by unfold vp_in; decide) (by omega) ?_ ?_
  · rw [setI_up (x := fun j => if j = 0 then 0 else -1) (by decide) (c := (100, 64, updV (fun k => .int (zM1 1042 k)) (Int32.toNatClampNeg 0) (.int 0))) ?_]
    · rfl
    · show some _ = some _
      congr 3
      funext k
      show Value.int (if k = 0 then 0 else -1) = if k = 0 then Value.int 0 else Value.int (zM1 1042 k)
      by_cases e : k = 0
      · rw [if_pos e, if_pos e]
      · rw [if_neg e, if_neg e]
        rfl
  refine sw_iconst (x := 0) O (xx_dt dd_X2_init 55 rfl) (by decide) ?_
  refine sw_istore_n (ls2 := [.ref 1003, .int 0]) O (xx_dt dd_X2_init 56 rfl) (by decide) rfl ?_
  rw [show setI [(1003, 1), (1120, 5), (1044, 1), (1043, 1), (1050, 65), (1042, 1), (1041, 1), (1040, 1), (1030, 7), (1021, 7), (1020, 1)] zM2 h = setI [(1003, 1), (1120, 5), (1044, 1), (1043, 1), (1050, 65), (1042, 1), (1041, 1), (1040, 1), (1030, 7), (1021, 7), (1020, 1)] (zR1050 zM2 0) h from setI_congr (fun q hq => by unfold zR1050; rw [if_neg (by omega)])]
  refine sw_for (S := Nat) (fun i _ => i + 1) (fun i s => s = i) (hp := fun s => setI [(1003, 1), (1120, 5), (1044, 1), (1043, 1), (1050, 65), (1042, 1), (1041, 1), (1040, 1), (1030, 7), (1021, 7), (1020, 1)] (zR1050 zM2 s) h) (hd := 114) (lc := fun i s => [.ref 1003, .int (nI i)]) (N := 64) (fun i s hi hs => ⟨rfl, fun kk => ?_⟩) 64 0 0 (by omega) rfl (fun hs => ?_)
  · subst hs
    refine sw_iload_n O (xx_dt dd_X2_init 57 rfl) rfl ?_
    refine sw_bipush (x := 64) O (xx_dt dd_X2_init 58 rfl) (by decide) ?_
    refine sw_icmp_ge (tgt := 136) O (xx_dt dd_X2_init 59 rfl) (by decide) (fun q => absurd q (nI_ge (b := 64) hi (by omega))) (fun q => ?_)
    refine sw_aload_n O (xx_dt dd_X2_init 60 rfl) rfl ?_
    refine sw_get (v := .ref 1050) O (xx_dt dd_X2_init 61 rfl) cl_X2 fl_X2_32 (f := fun k => match k with | 0 => .ref (1020) | 1 => .ref (1021) | 2 => .ref (1030) | 3 => .ref (1040) | 4 => .ref (1041) | 5 => .int ((zR1050 zM2 s) 1003 5) | 6 => .ref (1042) | 7 => .ref (1050) | 8 => .ref (1043) | 9 => .ref (1044) | 10 => .ref (1120) | _ => .null) (setI_in (by decide)) (by decide) rfl ?_
    refine sw_iload_n O (xx_dt dd_X2_init 62 rfl) rfl ?_
    refine sw_aaload (t := 103) (N := 64) (f := fun k => .ref (1051 + k)) (v := .ref (1051 + s)) O (xx_dt dd_X2_init 63 rfl) (by omega) (by omega) (setI_in (by decide)) (pk_in s 64 hi) (by rw [nI_clamp (by omega)]) ?_
    refine sw_iconst (x := (-1)) O (xx_dt dd_X2_init 64 rfl) (by decide) ?_
    refine sw_callSx (as := [.ref (1051 + s), .int (-1)]) (st := []) (st2 := []) O (ct_fillG hl (a := 1051 + s) (n := 6) (x := -1) (F := fun k => .int ((zR1050 zM2 s) (1051 + s) k)) ((setI_in (by simp only [inI, List.any_cons, List.any_nil, Bool.or_false, Bool.or_eq_true, decide_eq_true_eq]; omega)).trans (lyr_1050 hi _)) (by omega) (by omega)) ce_J7_fill_53178 ml_X2_44 st_J7_fill_53178 (xx_dt dd_X2_init 65 rfl) (by decide) rfl rfl (Nat.le_of_ble_eq_true rfl) rfl ?_
    rw [setI_up (x := fun _ => -1) (by simp only [inI, List.any_cons, List.any_nil, Bool.or_false, Bool.or_eq_true, decide_eq_true_eq]; omega) (lyr_1050 hi _), zR1050_s]
    refine sw_iinc (y := nI (s + 1)) (ls2 := [.ref 1003, .int (nI (s + 1))]) O (xx_dt dd_X2_init 66 rfl) rfl (nI_1 _) (by decide) rfl ?_
    refine sw_goto (tgt := 114) O (xx_dt dd_X2_init 67 rfl) (by decide) ?_
    exact kk
  · generalize hz : xit (fun i _ => i + 1) 64 0 0 = z at hs ⊢
    subst hs
    refine sw_iload_n O (xx_dt dd_X2_init 57 rfl) rfl ?_
    refine sw_bipush (x := 64) O (xx_dt dd_X2_init 58 rfl) (by decide) ?_
    refine sw_icmp_ge (tgt := 136) O (xx_dt dd_X2_init 59 rfl) (by decide) (fun q => ?_) (fun q => absurd (Int32.le_refl _) q)
    refine sw_aload_n O (xx_dt dd_X2_init 68 rfl) rfl ?_
    refine sw_get (v := .ref 1043) O (xx_dt dd_X2_init 69 rfl) cl_X2 fl_X2_35 (f := fun k => match k with | 0 => .ref (1020) | 1 => .ref (1021) | 2 => .ref (1030) | 3 => .ref (1040) | 4 => .ref (1041) | 5 => .int ((zR1050 zM2 64) 1003 5) | 6 => .ref (1042) | 7 => .ref (1050) | 8 => .ref (1043) | 9 => .ref (1044) | 10 => .ref (1120) | _ => .null) (setI_in (by decide)) (by decide) rfl ?_
    refine sw_iconst (x := (-1)) O (xx_dt dd_X2_init 70 rfl) (by decide) ?_
    refine sw_callSx (as := [.ref (1043), .int (-1)]) (st := []) (st2 := []) O (ct_fillG hl (a := 1043) (n := 6) (x := -1) (F := fun k => .int ((zR1050 zM2 64) (1043) k)) (setI_in (by decide)) (by omega) (by omega)) ce_J7_fill_53178 ml_X2_44 st_J7_fill_53178 (xx_dt dd_X2_init 71 rfl) (by decide) rfl rfl (Nat.le_of_ble_eq_true rfl) rfl ?_
    rw [setI_up (x := fun _ => -1) (by decide) rfl, show (fun q => if q = 1043 then (fun _ => (-1 : Int32)) else zR1050 zM2 64 q) = zM3 from rfl]
    refine sw_aload_n O (xx_dt dd_X2_init 72 rfl) rfl ?_
    refine sw_get (v := .ref 1040) O (xx_dt dd_X2_init 73 rfl) cl_X2 fl_X2_23 (f := fun k => match k with | 0 => .ref (1020) | 1 => .ref (1021) | 2 => .ref (1030) | 3 => .ref (1040) | 4 => .ref (1041) | 5 => .int (zM3 1003 5) | 6 => .ref (1042) | 7 => .ref (1050) | 8 => .ref (1043) | 9 => .ref (1044) | 10 => .ref (1120) | _ => .null) (setI_in (by decide)) (by decide) rfl ?_
    refine sw_iconst (x := (-1)) O (xx_dt dd_X2_init 74 rfl) (by decide) ?_
    refine sw_callSx (as := [.ref (1040), .int (-1)]) (st := []) (st2 := []) O (ct_fillG hl (a := 1040) (n := 6) (x := -1) (F := fun k => .int (zM3 (1040) k)) (setI_in (by decide)) (by omega) (by omega)) ce_J7_fill_53178 ml_X2_44 st_J7_fill_53178 (xx_dt dd_X2_init 75 rfl) (by decide) rfl rfl (Nat.le_of_ble_eq_true rfl) rfl ?_
    rw [setI_up (x := fun _ => -1) (by decide) rfl, show (fun q => if q = 1040 then (fun _ => (-1 : Int32)) else zM3 q) = zM4 from rfl]
    rw [show setI [(1003, 1), (1120, 5), (1044, 1), (1043, 1), (1050, 65), (1042, 1), (1041, 1), (1040, 1), (1030, 7), (1021, 7), (1020, 1)] zM4 h = setI [(1003, 1), (1120, 5), (1044, 1), (1043, 1), (1050, 65), (1042, 1), (1041, 1), (1040, 1), (1030, 7), (1021, 7), (1020, 1)] s0C h from setI_congr (fun q hq => by
      simp only [inI, List.any_cons, List.any_nil, Bool.or_false, Bool.or_eq_true, decide_eq_true_eq] at hq
      unfold zM4 zM3 zR1050
      by_cases e1 : q = 1040
      · rw [if_pos e1]
        funext k
        unfold s0C
        rw [if_neg (by omega), if_neg (by omega), if_pos (by omega)]
      · rw [if_neg e1]
        by_cases e2 : q = 1043
        · rw [if_pos e2]
          funext k
          unfold s0C
          rw [if_neg (by omega), if_neg (by omega), if_pos (by omega)]
        · rw [if_neg e2]
          by_cases e3 : 1051 ≤ q ∧ q < 1051 + 64
          · rw [if_pos e3]
            funext k
            unfold s0C
            rw [if_neg (by omega), if_neg (by omega), if_pos (by omega)]
          · rw [if_neg e3]
            unfold zM2
            by_cases e4 : q = 1042
            · rw [if_pos e4]
              funext k
              subst e4
              rfl
            · rw [if_neg e4]
              unfold zM1
              rw [if_neg e4]
              exact (s0C_z (by omega) e4 (by omega) (by omega)).symm)]
    exact sw_ret O (xx_dt dd_X2_init 76 rfl) rfl (by rw [hQ]; exact ⟨rfl, rfl⟩)
theorem inI_app {I J : List (Nat × Nat)} {q : Nat} : inI (J ++ I) q = (inI J q || inI I q) := List.any_append
theorem setI_call {I J : List (Nat × Nat)} {σ : XS9} {h : XH} {b : Nat} {F d : XC} (hb : inI J b = true) (h0 : inI J 1000 = false) (hne : (1000 : Nat) ≠ b) : setI J σ (xx_up (xx_up (setI I σ h) 1000 F) b d) = xx_up (setI (J ++ I) σ h) 1000 F := by
  funext q
  show (if inI J q = true then lyC q (σ q) else if q = b then some d else if q = 1000 then some F else if inI I q = true then lyC q (σ q) else h q) = if q = 1000 then some F else if inI (J ++ I) q = true then lyC q (σ q) else h q
  rw [inI_app]
  by_cases e0 : q = 1000
  · subst e0
    rw [if_neg (by rw [h0]; decide), if_neg hne, if_pos rfl, if_pos rfl]
  · rw [if_neg e0, if_neg e0]
    by_cases e1 : inI J q = true
    · rw [if_pos e1, if_pos (by rw [e1]; rfl)]
    · rw [if_neg e1]
      have e2 : q ≠ b := fun e => e1 (by rw [e]; exact hb)
      have e3 : inI J q = false := by cases z : inI J q with | true => exact absurd z e1 | false => rfl
      rw [if_neg e2, e3, Bool.false_or]
theorem cl_free {I : List (Nat × Nat)} {σ : XS9} {h : XH} {b q : Nat} {F d : XC} (h1 : q ≠ b) (h2 : q ≠ 1000) (h3 : inI I q = false) (hq : h q = none) : xx_up (xx_up (setI I σ h) 1000 F) b d q = none := by
  rw [xx_up_ne h1, xx_up_ne h2]
  unfold setI
  rw [h3]
  exact hq
def ivC : List (Nat × Nat) := [(1000, 1), (1006, 1), (1153, 1), (1152, 1), (1151, 1), (1150, 1), (1005, 1), (1140, 6), (1004, 1), (1130, 4), (1003, 1), (1120, 5), (1044, 1), (1043, 1), (1050, 65), (1042, 1), (1041, 1), (1040, 1), (1030, 7), (1021, 7), (1020, 1), (3000, 1), (3008, 1), (3007, 1), (3300, 61), (3200, 61), (3100, 61), (3006, 1), (3005, 1), (3004, 1), (3003, 1), (3002, 1), (3001, 1), (2000, 1), (2008, 1), (2007, 1), (2300, 61), (2200, 61), (2100, 61), (2006, 1), (2005, 1), (2004, 1), (2003, 1), (2002, 1), (2001, 1), (1001, 1), (1017, 1), (1016, 1), (1015, 1), (1014, 1), (1013, 1), (1012, 1), (1011, 1), (1010, 1)]
theorem ivC_out {q : Nat} (h1 : 1000 ≤ q) (h2 : q < 4000) (hq : inI ivC q = false) (s : Nat → Int32) : lyC q s = none := by
  simp only [ivC, inI, List.any_cons, List.any_nil, Bool.or_false, Bool.or_eq_false_iff, decide_eq_false_iff_not] at hq
  by_cases a : 2000 ≤ q
  · unfold lyC lyK
    (repeat' split) <;> first | rfl | (exfalso; omega) | (exfalso; revert hq; decide)
  · unfold lyC
    rw [if_neg (by omega), if_neg a, if_neg (by omega), if_neg (by omega), if_neg (by omega), if_neg (by omega), if_neg (by omega), if_neg (by omega)]
    split <;> first | rfl | (exfalso; omega)
theorem ivC_all {σ : XS9} {h : XH} (hf : ∀ q, 1000 ≤ q → q < 4000 → q ≠ 1000 → h q = none) : setI ivC σ h = setC σ h := by
  funext q
  unfold setI setC
  by_cases e : 1000 ≤ q ∧ q < 4000
  · rw [if_pos e]
    cases z : inI ivC q with
    | true => exact if_pos rfl
    | false =>
      rw [if_neg (by decide), ivC_out e.1 e.2 z]
      refine hf q e.1 e.2 (fun e0 => ?_)
      subst e0
      exact absurd z (by decide)
  · rw [if_neg e]
    refine if_neg (fun z => e ?_)
    simp only [ivC, inI, List.any_cons, List.any_nil, Bool.or_false, Bool.or_eq_true, decide_eq_true_eq] at z
    omega
theorem ct_X7_init {l : Launch} {h : XH} (hl : l.stackTraces = false) (hf : ∀ q, 1000 ≤ q → q < 4000 → q ≠ 1000 → h q = none) (hb : h 1000 = some (13, 12, fun j => defaultValue (tyX7 j))) : XEx l m_X7_init 2 501 3605 [.ref 1000] h none (setC s0C h) := by
  refine XMet.of hl rfl rfl (Nat.le_of_ble_eq_true rfl) (fun Y O hh hQ => ?_)
  rw [show h = xx_up (setI [] s0C h) 1000 (13, 12, fun j => defaultValue (tyX7 j)) from (xx_up_self hb).symm]
  show SW Y 501 3605 _ 0 [.ref 1000] []
  refine sw_aload_n O (xx_dt dd_X7_init 0 rfl) rfl ?_
  refine sw_objInit O oi_X7_3 (xx_dt dd_X7_init 1 rfl) (by omega) (Nat.le_of_ble_eq_true rfl) ?_
  refine sw_aload_n O (xx_dt dd_X7_init 2 rfl) rfl ?_
  refine sw_new (k := 500) (n := 3593) (r := 1001) O (xx_dt dd_X7_init 3 rfl) cl_X6 nw_X7_9 (ob_free (by decide) (by decide) (hf 1001 (by omega) (by omega) (by omega))) (by omega) ?_
  rw [xx_blk_up]
  refine sw_dup O (xx_dt dd_X7_init 4 rfl) rfl ?_
  refine sw_callIx (k := 492) (n := 3549) (k' := 8) (n' := 44) (as := []) (st := [.ref 1001, .ref 1000]) (st2 := [.ref 1001, .ref 1000]) O (ct_X6_init hl (fun q h1 h2 h3 => cl_free h3 (by omega) (by rfl) (hf q (by omega) (by omega) (by omega))) (xx_up_eq _ _ _)) ce_X6_init ml_X7_11 ii_X6_init (xx_dt dd_X7_init 5 rfl) (by decide) rfl rfl (Nat.le_of_ble_eq_true rfl) rfl ?_
  rw [setI_call (by decide) (by decide) (by decide)]
  rw [show [(1001, 1), (1017, 1), (1016, 1), (1015, 1), (1014, 1), (1013, 1), (1012, 1), (1011, 1), (1010, 1)] ++ [] = [(1001, 1), (1017, 1), (1016, 1), (1015, 1), (1014, 1), (1013, 1), (1012, 1), (1011, 1), (1010, 1)] from rfl]
  refine sw_putF (h2 := xx_up (setI [(1001, 1), (1017, 1), (1016, 1), (1015, 1), (1014, 1), (1013, 1), (1012, 1), (1011, 1), (1010, 1)] s0C h) 1000 (13, 12, updV (fun j => defaultValue (tyX7 j)) 0 (.ref 1001))) O (xx_dt dd_X7_init 6 rfl) cl_X7 fz_X7_12 (xx_up_eq _ _ _) (by decide) (by omega) rfl rfl (fun _ => ⟨rfl, rfl⟩) xx_up_up ?_
  refine sw_aload_n O (xx_dt dd_X7_init 7 rfl) rfl ?_
  refine sw_new (k := 491) (n := 3536) (r := 2000) O (xx_dt dd_X7_init 8 rfl) cl_X1 nw_X7_16 (ob_free (by decide) (by decide) (hf 2000 (by omega) (by omega) (by omega))) (by omega) ?_
  rw [xx_blk_up]
  refine sw_dup O (xx_dt dd_X7_init 9 rfl) rfl ?_
  refine sw_callIx (k := 300) (n := 2181) (k' := 191) (n' := 1355) (as := []) (st := [.ref 2000, .ref 1000]) (st2 := [.ref 2000, .ref 1000]) O (ct_X1_init_2000 hl (fun q h1 h2 h3 => cl_free h3 (by omega) (by simp only [inI, List.any_cons, List.any_nil, Bool.or_false, Bool.or_eq_false_iff, decide_eq_false_iff_not]; omega) (hf q (by omega) (by omega) (by omega))) (xx_up_eq _ _ _)) ce_X1_init ml_X7_18 ii_X1_init (xx_dt dd_X7_init 10 rfl) (by decide) rfl rfl (Nat.le_of_ble_eq_true rfl) rfl ?_
  rw [setI_call (by decide) (by decide) (by decide)]
  rw [show [(2000, 1), (2008, 1), (2007, 1), (2300, 61), (2200, 61), (2100, 61), (2006, 1), (2005, 1), (2004, 1), (2003, 1), (2002, 1), (2001, 1)] ++ [(1001, 1), (1017, 1), (1016, 1), (1015, 1), (1014, 1), (1013, 1), (1012, 1), (1011, 1), (1010, 1)] = [(2000, 1), (2008, 1), (2007, 1), (2300, 61), (2200, 61), (2100, 61), (2006, 1), (2005, 1), (2004, 1), (2003, 1), (2002, 1), (2001, 1), (1001, 1), (1017, 1), (1016, 1), (1015, 1), (1014, 1), (1013, 1), (1012, 1), (1011, 1), (1010, 1)] from rfl]
  refine sw_putF (h2 := xx_up (setI [(2000, 1), (2008, 1), (2007, 1), (2300, 61), (2200, 61), (2100, 61), (2006, 1), (2005, 1), (2004, 1), (2003, 1), (2002, 1), (2001, 1), (1001, 1), (1017, 1), (1016, 1), (1015, 1), (1014, 1), (1013, 1), (1012, 1), (1011, 1), (1010, 1)] s0C h) 1000 (13, 12, updV (updV (fun j => defaultValue (tyX7 j)) 0 (.ref 1001)) 1 (.ref 2000))) O (xx_dt dd_X7_init 11 rfl) cl_X7 fz_X7_19 (xx_up_eq _ _ _) (by decide) (by omega) rfl rfl (fun _ => ⟨rfl, rfl⟩) xx_up_up ?_
  refine sw_aload_n O (xx_dt dd_X7_init 12 rfl) rfl ?_
  refine sw_new (k := 299) (n := 2168) (r := 3000) O (xx_dt dd_X7_init 13 rfl) cl_X1 nw_X7_16 (ob_free (by decide) (by decide) (hf 3000 (by omega) (by omega) (by omega))) (by omega) ?_
  rw [xx_blk_up]
  refine sw_dup O (xx_dt dd_X7_init 14 rfl) rfl ?_
  refine sw_callIx (k := 108) (n := 813) (k' := 191) (n' := 1355) (as := []) (st := [.ref 3000, .ref 1000]) (st2 := [.ref 3000, .ref 1000]) O (ct_X1_init_3000 hl (fun q h1 h2 h3 => cl_free h3 (by omega) (by simp only [inI, List.any_cons, List.any_nil, Bool.or_false, Bool.or_eq_false_iff, decide_eq_false_iff_not]; omega) (hf q (by omega) (by omega) (by omega))) (xx_up_eq _ _ _)) ce_X1_init ml_X7_18 ii_X1_init (xx_dt dd_X7_init 15 rfl) (by decide) rfl rfl (Nat.le_of_ble_eq_true rfl) rfl ?_
  rw [setI_call (by decide) (by decide) (by decide)]
  rw [show [(3000, 1), (3008, 1), (3007, 1), (3300, 61), (3200, 61), (3100, 61), (3006, 1), (3005, 1), (3004, 1), (3003, 1), (3002, 1), (3001, 1)] ++ [(2000, 1), (2008, 1), (2007, 1), (2300, 61), (2200, 61), (2100, 61), (2006, 1), (2005, 1), (2004, 1), (2003, 1), (2002, 1), (2001, 1), (1001, 1), (1017, 1), (1016, 1), (1015, 1), (1014, 1), (1013, 1), (1012, 1), (1011, 1), (1010, 1)] = [(3000, 1), (3008, 1), (3007, 1), (3300, 61), (3200, 61), (3100, 61), (3006, 1), (3005, 1), (3004, 1), (3003, 1), (3002, 1), (3001, 1), (2000, 1), (2008, 1), (2007, 1), (2300, 61), (2200, 61), (2100, 61), (2006, 1), (2005, 1), (2004, 1), (2003, 1), (2002, 1), (2001, 1), (1001, 1), (1017, 1), (1016, 1), (1015, 1), (1014, 1), (1013, 1), (1012, 1), (1011, 1), (1010, 1)] from rfl]
  refine sw_putF (h2 := xx_up (setI [(3000, 1), (3008, 1), (3007, 1), (3300, 61), (3200, 61), (3100, 61), (3006, 1), (3005, 1), (3004, 1), (3003, 1), (3002, 1), (3001, 1), (2000, 1), (2008, 1), (2007, 1), (2300, 61), (2200, 61), (2100, 61), (2006, 1), (2005, 1), (2004, 1), (2003, 1), (2002, 1), (2001, 1), (1001, 1), (1017, 1), (1016, 1), (1015, 1), (1014, 1), (1013, 1), (1012, 1), (1011, 1), (1010, 1)] s0C h) 1000 (13, 12, updV (updV (updV (fun j => defaultValue (tyX7 j)) 0 (.ref 1001)) 1 (.ref 2000)) 2 (.ref 3000))) O (xx_dt dd_X7_init 16 rfl) cl_X7 fz_X7_23 (xx_up_eq _ _ _) (by decide) (by omega) rfl rfl (fun _ => ⟨rfl, rfl⟩) xx_up_up ?_
  refine sw_aload_n O (xx_dt dd_X7_init 17 rfl) rfl ?_
  refine sw_new (k := 107) (n := 802) (r := 1003) O (xx_dt dd_X7_init 18 rfl) cl_X2 nw_X7_26 (ob_free (by decide) (by decide) (hf 1003 (by omega) (by omega) (by omega))) (by omega) ?_
  rw [xx_blk_up]
  refine sw_dup O (xx_dt dd_X7_init 19 rfl) rfl ?_
  refine sw_callIx (k := 17) (n := 95) (k' := 90) (n' := 707) (as := []) (st := [.ref 1003, .ref 1000]) (st2 := [.ref 1003, .ref 1000]) O (ct_X2_init hl (fun q h1 h2 h3 => cl_free h3 (by omega) (by simp only [inI, List.any_cons, List.any_nil, Bool.or_false, Bool.or_eq_false_iff, decide_eq_false_iff_not]; omega) (hf q (by omega) (by omega) (by omega))) (xx_up_eq _ _ _)) ce_X2_init ml_X7_28 ii_X2_init (xx_dt dd_X7_init 20 rfl) (by decide) rfl rfl (Nat.le_of_ble_eq_true rfl) rfl ?_
  rw [setI_call (by decide) (by decide) (by decide)]
  rw [show [(1003, 1), (1120, 5), (1044, 1), (1043, 1), (1050, 65), (1042, 1), (1041, 1), (1040, 1), (1030, 7), (1021, 7), (1020, 1)] ++ [(3000, 1), (3008, 1), (3007, 1), (3300, 61), (3200, 61), (3100, 61), (3006, 1), (3005, 1), (3004, 1), (3003, 1), (3002, 1), (3001, 1), (2000, 1), (2008, 1), (2007, 1), (2300, 61), (2200, 61), (2100, 61), (2006, 1), (2005, 1), (2004, 1), (2003, 1), (2002, 1), (2001, 1), (1001, 1), (1017, 1), (1016, 1), (1015, 1), (1014, 1), (1013, 1), (1012, 1), (1011, 1), (1010, 1)] = [(1003, 1), (1120, 5), (1044, 1), (1043, 1), (1050, 65), (1042, 1), (1041, 1), (1040, 1), (1030, 7), (1021, 7), (1020, 1), (3000, 1), (3008, 1), (3007, 1), (3300, 61), (3200, 61), (3100, 61), (3006, 1), (3005, 1), (3004, 1), (3003, 1), (3002, 1), (3001, 1), (2000, 1), (2008, 1), (2007, 1), (2300, 61), (2200, 61), (2100, 61), (2006, 1), (2005, 1), (2004, 1), (2003, 1), (2002, 1), (2001, 1), (1001, 1), (1017, 1), (1016, 1), (1015, 1), (1014, 1), (1013, 1), (1012, 1), (1011, 1), (1010, 1)] from rfl]
  refine sw_putF (h2 := xx_up (setI [(1003, 1), (1120, 5), (1044, 1), (1043, 1), (1050, 65), (1042, 1), (1041, 1), (1040, 1), (1030, 7), (1021, 7), (1020, 1), (3000, 1), (3008, 1), (3007, 1), (3300, 61), (3200, 61), (3100, 61), (3006, 1), (3005, 1), (3004, 1), (3003, 1), (3002, 1), (3001, 1), (2000, 1), (2008, 1), (2007, 1), (2300, 61), (2200, 61), (2100, 61), (2006, 1), (2005, 1), (2004, 1), (2003, 1), (2002, 1), (2001, 1), (1001, 1), (1017, 1), (1016, 1), (1015, 1), (1014, 1), (1013, 1), (1012, 1), (1011, 1), (1010, 1)] s0C h) 1000 (13, 12, updV (updV (updV (updV (fun j => defaultValue (tyX7 j)) 0 (.ref 1001)) 1 (.ref 2000)) 2 (.ref 3000)) 3 (.ref 1003))) O (xx_dt dd_X7_init 21 rfl) cl_X7 fz_X7_29 (xx_up_eq _ _ _) (by decide) (by omega) rfl rfl (fun _ => ⟨rfl, rfl⟩) xx_up_up ?_
  refine sw_aload_n O (xx_dt dd_X7_init 22 rfl) rfl ?_
  refine sw_new (k := 16) (n := 94) (r := 1004) O (xx_dt dd_X7_init 23 rfl) cl_X4 nw_X7_33 (ob_free (by decide) (by decide) (hf 1004 (by omega) (by omega) (by omega))) (by omega) ?_
  rw [xx_blk_up]
  refine sw_dup O (xx_dt dd_X7_init 24 rfl) rfl ?_
  refine sw_callIx (k := 12) (n := 73) (k' := 4) (n' := 21) (as := []) (st := [.ref 1004, .ref 1000]) (st2 := [.ref 1004, .ref 1000]) O (ct_X4_init hl (fun q h1 h2 h3 => cl_free h3 (by omega) (by simp only [inI, List.any_cons, List.any_nil, Bool.or_false, Bool.or_eq_false_iff, decide_eq_false_iff_not]; omega) (hf q (by omega) (by omega) (by omega))) (xx_up_eq _ _ _)) ce_X4_init ml_X7_35 ii_X4_init (xx_dt dd_X7_init 25 rfl) (by decide) rfl rfl (Nat.le_of_ble_eq_true rfl) rfl ?_
  rw [setI_call (by decide) (by decide) (by decide)]
  rw [show [(1004, 1), (1130, 4)] ++ [(1003, 1), (1120, 5), (1044, 1), (1043, 1), (1050, 65), (1042, 1), (1041, 1), (1040, 1), (1030, 7), (1021, 7), (1020, 1), (3000, 1), (3008, 1), (3007, 1), (3300, 61), (3200, 61), (3100, 61), (3006, 1), (3005, 1), (3004, 1), (3003, 1), (3002, 1), (3001, 1), (2000, 1), (2008, 1), (2007, 1), (2300, 61), (2200, 61), (2100, 61), (2006, 1), (2005, 1), (2004, 1), (2003, 1), (2002, 1), (2001, 1), (1001, 1), (1017, 1), (1016, 1), (1015, 1), (1014, 1), (1013, 1), (1012, 1), (1011, 1), (1010, 1)] = [(1004, 1), (1130, 4), (1003, 1), (1120, 5), (1044, 1), (1043, 1), (1050, 65), (1042, 1), (1041, 1), (1040, 1), (1030, 7), (1021, 7), (1020, 1), (3000, 1), (3008, 1), (3007, 1), (3300, 61), (3200, 61), (3100, 61), (3006, 1), (3005, 1), (3004, 1), (3003, 1), (3002, 1), (3001, 1), (2000, 1), (2008, 1), (2007, 1), (2300, 61), (2200, 61), (2100, 61), (2006, 1), (2005, 1), (2004, 1), (2003, 1), (2002, 1), (2001, 1), (1001, 1), (1017, 1), (1016, 1), (1015, 1), (1014, 1), (1013, 1), (1012, 1), (1011, 1), (1010, 1)] from rfl]
  refine sw_putF (h2 := xx_up (setI [(1004, 1), (1130, 4), (1003, 1), (1120, 5), (1044, 1), (1043, 1), (1050, 65), (1042, 1), (1041, 1), (1040, 1), (1030, 7), (1021, 7), (1020, 1), (3000, 1), (3008, 1), (3007, 1), (3300, 61), (3200, 61), (3100, 61), (3006, 1), (3005, 1), (3004, 1), (3003, 1), (3002, 1), (3001, 1), (2000, 1), (2008, 1), (2007, 1), (2300, 61), (2200, 61), (2100, 61), (2006, 1), (2005, 1), (2004, 1), (2003, 1), (2002, 1), (2001, 1), (1001, 1), (1017, 1), (1016, 1), (1015, 1), (1014, 1), (1013, 1), (1012, 1), (1011, 1), (1010, 1)] s0C h) 1000 (13, 12, updV (updV (updV (updV (updV (fun j => defaultValue (tyX7 j)) 0 (.ref 1001)) 1 (.ref 2000)) 2 (.ref 3000)) 3 (.ref 1003)) 4 (.ref 1004))) O (xx_dt dd_X7_init 26 rfl) cl_X7 fz_X7_36 (xx_up_eq _ _ _) (by decide) (by omega) rfl rfl (fun _ => ⟨rfl, rfl⟩) xx_up_up ?_
  refine sw_aload_n O (xx_dt dd_X7_init 27 rfl) rfl ?_
  refine sw_new (k := 11) (n := 71) (r := 1005) O (xx_dt dd_X7_init 28 rfl) cl_X3 nw_X7_40 (ob_free (by decide) (by decide) (hf 1005 (by omega) (by omega) (by omega))) (by omega) ?_
  rw [xx_blk_up]
  refine sw_dup O (xx_dt dd_X7_init 29 rfl) rfl ?_
  refine sw_callIx (k := 5) (n := 41) (k' := 6) (n' := 30) (as := []) (st := [.ref 1005, .ref 1000]) (st2 := [.ref 1005, .ref 1000]) O (ct_X3_init hl (fun q h1 h2 h3 => cl_free h3 (by omega) (by simp only [inI, List.any_cons, List.any_nil, Bool.or_false, Bool.or_eq_false_iff, decide_eq_false_iff_not]; omega) (hf q (by omega) (by omega) (by omega))) (xx_up_eq _ _ _)) ce_X3_init ml_X7_42 ii_X3_init (xx_dt dd_X7_init 30 rfl) (by decide) rfl rfl (Nat.le_of_ble_eq_true rfl) rfl ?_
  rw [setI_call (by decide) (by decide) (by decide)]
  rw [show [(1005, 1), (1140, 6)] ++ [(1004, 1), (1130, 4), (1003, 1), (1120, 5), (1044, 1), (1043, 1), (1050, 65), (1042, 1), (1041, 1), (1040, 1), (1030, 7), (1021, 7), (1020, 1), (3000, 1), (3008, 1), (3007, 1), (3300, 61), (3200, 61), (3100, 61), (3006, 1), (3005, 1), (3004, 1), (3003, 1), (3002, 1), (3001, 1), (2000, 1), (2008, 1), (2007, 1), (2300, 61), (2200, 61), (2100, 61), (2006, 1), (2005, 1), (2004, 1), (2003, 1), (2002, 1), (2001, 1), (1001, 1), (1017, 1), (1016, 1), (1015, 1), (1014, 1), (1013, 1), (1012, 1), (1011, 1), (1010, 1)] = [(1005, 1), (1140, 6), (1004, 1), (1130, 4), (1003, 1), (1120, 5), (1044, 1), (1043, 1), (1050, 65), (1042, 1), (1041, 1), (1040, 1), (1030, 7), (1021, 7), (1020, 1), (3000, 1), (3008, 1), (3007, 1), (3300, 61), (3200, 61), (3100, 61), (3006, 1), (3005, 1), (3004, 1), (3003, 1), (3002, 1), (3001, 1), (2000, 1), (2008, 1), (2007, 1), (2300, 61), (2200, 61), (2100, 61), (2006, 1), (2005, 1), (2004, 1), (2003, 1), (2002, 1), (2001, 1), (1001, 1), (1017, 1), (1016, 1), (1015, 1), (1014, 1), (1013, 1), (1012, 1), (1011, 1), (1010, 1)] from rfl]
  refine sw_putF (h2 := xx_up (setI [(1005, 1), (1140, 6), (1004, 1), (1130, 4), (1003, 1), (1120, 5), (1044, 1), (1043, 1), (1050, 65), (1042, 1), (1041, 1), (1040, 1), (1030, 7), (1021, 7), (1020, 1), (3000, 1), (3008, 1), (3007, 1), (3300, 61), (3200, 61), (3100, 61), (3006, 1), (3005, 1), (3004, 1), (3003, 1), (3002, 1), (3001, 1), (2000, 1), (2008, 1), (2007, 1), (2300, 61), (2200, 61), (2100, 61), (2006, 1), (2005, 1), (2004, 1), (2003, 1), (2002, 1), (2001, 1), (1001, 1), (1017, 1), (1016, 1), (1015, 1), (1014, 1), (1013, 1), (1012, 1), (1011, 1), (1010, 1)] s0C h) 1000 (13, 12, updV (updV (updV (updV (updV (updV (fun j => defaultValue (tyX7 j)) 0 (.ref 1001)) 1 (.ref 2000)) 2 (.ref 3000)) 3 (.ref 1003)) 4 (.ref 1004)) 5 (.ref 1005))) O (xx_dt dd_X7_init 31 rfl) cl_X7 fz_X7_43 (xx_up_eq _ _ _) (by decide) (by omega) rfl rfl (fun _ => ⟨rfl, rfl⟩) xx_up_up ?_
  refine sw_aload_n O (xx_dt dd_X7_init 32 rfl) rfl ?_
  refine sw_new (k := 4) (n := 36) (r := 1006) O (xx_dt dd_X7_init 33 rfl) cl_X5 nw_X7_47 (ob_free (by decide) (by decide) (hf 1006 (by omega) (by omega) (by omega))) (by omega) ?_
  rw [xx_blk_up]
  refine sw_dup O (xx_dt dd_X7_init 34 rfl) rfl ?_
  refine sw_callIx (k := 0) (n := 0) (k' := 4) (n' := 36) (as := []) (st := [.ref 1006, .ref 1000]) (st2 := [.ref 1006, .ref 1000]) O (ct_X5_init hl (fun q h1 h2 h3 => cl_free h3 (by omega) (by simp only [inI, List.any_cons, List.any_nil, Bool.or_false, Bool.or_eq_false_iff, decide_eq_false_iff_not]; omega) (hf q (by omega) (by omega) (by omega))) (xx_up_eq _ _ _)) ce_X5_init ml_X7_49 ii_X5_init (xx_dt dd_X7_init 35 rfl) (by decide) rfl rfl (Nat.le_of_ble_eq_true rfl) rfl ?_
  rw [setI_call (by decide) (by decide) (by decide)]
  rw [show [(1006, 1), (1153, 1), (1152, 1), (1151, 1), (1150, 1)] ++ [(1005, 1), (1140, 6), (1004, 1), (1130, 4), (1003, 1), (1120, 5), (1044, 1), (1043, 1), (1050, 65), (1042, 1), (1041, 1), (1040, 1), (1030, 7), (1021, 7), (1020, 1), (3000, 1), (3008, 1), (3007, 1), (3300, 61), (3200, 61), (3100, 61), (3006, 1), (3005, 1), (3004, 1), (3003, 1), (3002, 1), (3001, 1), (2000, 1), (2008, 1), (2007, 1), (2300, 61), (2200, 61), (2100, 61), (2006, 1), (2005, 1), (2004, 1), (2003, 1), (2002, 1), (2001, 1), (1001, 1), (1017, 1), (1016, 1), (1015, 1), (1014, 1), (1013, 1), (1012, 1), (1011, 1), (1010, 1)] = [(1006, 1), (1153, 1), (1152, 1), (1151, 1), (1150, 1), (1005, 1), (1140, 6), (1004, 1), (1130, 4), (1003, 1), (1120, 5), (1044, 1), (1043, 1), (1050, 65), (1042, 1), (1041, 1), (1040, 1), (1030, 7), (1021, 7), (1020, 1), (3000, 1), (3008, 1), (3007, 1), (3300, 61), (3200, 61), (3100, 61), (3006, 1), (3005, 1), (3004, 1), (3003, 1), (3002, 1), (3001, 1), (2000, 1), (2008, 1), (2007, 1), (2300, 61), (2200, 61), (2100, 61), (2006, 1), (2005, 1), (2004, 1), (2003, 1), (2002, 1), (2001, 1), (1001, 1), (1017, 1), (1016, 1), (1015, 1), (1014, 1), (1013, 1), (1012, 1), (1011, 1), (1010, 1)] from rfl]
  refine sw_putF (h2 := xx_up (setI [(1006, 1), (1153, 1), (1152, 1), (1151, 1), (1150, 1), (1005, 1), (1140, 6), (1004, 1), (1130, 4), (1003, 1), (1120, 5), (1044, 1), (1043, 1), (1050, 65), (1042, 1), (1041, 1), (1040, 1), (1030, 7), (1021, 7), (1020, 1), (3000, 1), (3008, 1), (3007, 1), (3300, 61), (3200, 61), (3100, 61), (3006, 1), (3005, 1), (3004, 1), (3003, 1), (3002, 1), (3001, 1), (2000, 1), (2008, 1), (2007, 1), (2300, 61), (2200, 61), (2100, 61), (2006, 1), (2005, 1), (2004, 1), (2003, 1), (2002, 1), (2001, 1), (1001, 1), (1017, 1), (1016, 1), (1015, 1), (1014, 1), (1013, 1), (1012, 1), (1011, 1), (1010, 1)] s0C h) 1000 (13, 12, updV (updV (updV (updV (updV (updV (updV (fun j => defaultValue (tyX7 j)) 0 (.ref 1001)) 1 (.ref 2000)) 2 (.ref 3000)) 3 (.ref 1003)) 4 (.ref 1004)) 5 (.ref 1005)) 6 (.ref 1006))) O (xx_dt dd_X7_init 36 rfl) cl_X7 fz_X7_50 (xx_up_eq _ _ _) (by decide) (by omega) rfl rfl (fun _ => ⟨rfl, rfl⟩) xx_up_up ?_
  refine sw_aload_n O (xx_dt dd_X7_init 37 rfl) rfl ?_
  refine sw_iconst (x := 0) O (xx_dt dd_X7_init 38 rfl) (by decide) ?_
  refine sw_put (h2 := xx_up (setI [(1006, 1), (1153, 1), (1152, 1), (1151, 1), (1150, 1), (1005, 1), (1140, 6), (1004, 1), (1130, 4), (1003, 1), (1120, 5), (1044, 1), (1043, 1), (1050, 65), (1042, 1), (1041, 1), (1040, 1), (1030, 7), (1021, 7), (1020, 1), (3000, 1), (3008, 1), (3007, 1), (3300, 61), (3200, 61), (3100, 61), (3006, 1), (3005, 1), (3004, 1), (3003, 1), (3002, 1), (3001, 1), (2000, 1), (2008, 1), (2007, 1), (2300, 61), (2200, 61), (2100, 61), (2006, 1), (2005, 1), (2004, 1), (2003, 1), (2002, 1), (2001, 1), (1001, 1), (1017, 1), (1016, 1), (1015, 1), (1014, 1), (1013, 1), (1012, 1), (1011, 1), (1010, 1)] s0C h) 1000 (13, 12, updV (updV (updV (updV (updV (updV (updV (updV (fun j => defaultValue (tyX7 j)) 0 (.ref 1001)) 1 (.ref 2000)) 2 (.ref 3000)) 3 (.ref 1003)) 4 (.ref 1004)) 5 (.ref 1005)) 6 (.ref 1006)) 7 (.int 0))) O (xx_dt dd_X7_init 39 rfl) cl_X7 fl_X7_54 (xx_up_eq _ _ _) (by decide) (by omega) rfl (fun _ => ⟨rfl, rfl⟩) xx_up_up ?_
  refine sw_aload_n O (xx_dt dd_X7_init 40 rfl) rfl ?_
  refine sw_bipush (x := 10) O (xx_dt dd_X7_init 41 rfl) (by decide) ?_
  refine sw_put (h2 := xx_up (setI [(1006, 1), (1153, 1), (1152, 1), (1151, 1), (1150, 1), (1005, 1), (1140, 6), (1004, 1), (1130, 4), (1003, 1), (1120, 5), (1044, 1), (1043, 1), (1050, 65), (1042, 1), (1041, 1), (1040, 1), (1030, 7), (1021, 7), (1020, 1), (3000, 1), (3008, 1), (3007, 1), (3300, 61), (3200, 61), (3100, 61), (3006, 1), (3005, 1), (3004, 1), (3003, 1), (3002, 1), (3001, 1), (2000, 1), (2008, 1), (2007, 1), (2300, 61), (2200, 61), (2100, 61), (2006, 1), (2005, 1), (2004, 1), (2003, 1), (2002, 1), (2001, 1), (1001, 1), (1017, 1), (1016, 1), (1015, 1), (1014, 1), (1013, 1), (1012, 1), (1011, 1), (1010, 1)] s0C h) 1000 (13, 12, updV (updV (updV (updV (updV (updV (updV (updV (updV (fun j => defaultValue (tyX7 j)) 0 (.ref 1001)) 1 (.ref 2000)) 2 (.ref 3000)) 3 (.ref 1003)) 4 (.ref 1004)) 5 (.ref 1005)) 6 (.ref 1006)) 7 (.int 0)) 8 (.int 10))) O (xx_dt dd_X7_init 42 rfl) cl_X7 fl_X7_58 (xx_up_eq _ _ _) (by decide) (by omega) rfl (fun _ => ⟨rfl, rfl⟩) xx_up_up ?_
  refine sw_alter (r := 1000) (t := 13) (N := 12) (F2 := fun k => match k with | 0 => .ref (1001) | 1 => .ref (2000) | 2 => .ref (3000) | 3 => .ref (1003) | 4 => .ref (1004) | 5 => .ref (1005) | 6 => .ref (1006) | 7 => .int (s0C 1000 7) | 8 => .int (s0C 1000 8) | 9 => .int (s0C 1000 9) | 10 => .int (s0C 1000 10) | 11 => .int (s0C 1000 11) | _ => .null) (xx_up_eq _ _ _) (fun j hj => ?_) ?_
  · match j, hj with
    | 0, _ => rfl
    | 1, _ => rfl
    | 2, _ => rfl
    | 3, _ => rfl
    | 4, _ => rfl
    | 5, _ => rfl
    | 6, _ => rfl
    | 7, _ => rfl
    | 8, _ => rfl
    | 9, _ => rfl
    | 10, _ => rfl
    | 11, _ => rfl
  rw [xx_up_up, ob_done (σ' := s0C) rfl (fun _ _ _ => rfl)]
  rw [show [(1000, 1), (1006, 1), (1153, 1), (1152, 1), (1151, 1), (1150, 1), (1005, 1), (1140, 6), (1004, 1), (1130, 4), (1003, 1), (1120, 5), (1044, 1), (1043, 1), (1050, 65), (1042, 1), (1041, 1), (1040, 1), (1030, 7), (1021, 7), (1020, 1), (3000, 1), (3008, 1), (3007, 1), (3300, 61), (3200, 61), (3100, 61), (3006, 1), (3005, 1), (3004, 1), (3003, 1), (3002, 1), (3001, 1), (2000, 1), (2008, 1), (2007, 1), (2300, 61), (2200, 61), (2100, 61), (2006, 1), (2005, 1), (2004, 1), (2003, 1), (2002, 1), (2001, 1), (1001, 1), (1017, 1), (1016, 1), (1015, 1), (1014, 1), (1013, 1), (1012, 1), (1011, 1), (1010, 1)] = ivC from rfl, ivC_all hf]
  exact sw_ret O (xx_dt dd_X7_init 43 rfl) rfl (by rw [hQ]; exact ⟨rfl, rfl⟩)
end
section
/-! ===== BEGIN a method of a class above, found by the receiver, that may throw (follows va_callVU, va_runU of this kit) ===== -/
section
variable {p : Program} {l : Launch} {e : Env} {R : Room} {s : State} {m : MethodId} {args : Array Value} {below : List Frame} {meth : Method} {c : Code} {H : Heap} {locs : List Loc} {cells slots : Nat}
theorem vx_callVU {T : State} {locs : List Loc} {cells slots : Nat} (X : Stand p l e R s m args below meth c T locs cells slots) (hexec : p.tables.exec = Jvm.exec) {own C owner : String} {index : Nat} {x y : MethodName} {bytes : ByteArray} {maxL : Nat} {ret : Option FieldType}
    (hown : s.vm.findClass own = some m.cls) (hlink : (Cond.methodLink own index x).before args s = true) (hsame : (Cond.sameMethod x.cls owner x.name x.desc).before args s = true)
    (hd0 : va_Decl s ⟨owner, x.name, x.desc⟩) (howner : owner ≠ "java/lang/invoke/MethodHandle" ∧ owner ≠ "java/lang/invoke/VarHandle")
    (hsel : (Cond.selects C x y).before args s = true) (hinst : (Cond.instanceMethod y).before args s = true) (hcode : (Cond.code y bytes maxL ret).before args s = true)
    {W : Nat} {Pre : Pt → Array Value → Prop} {Post : Pt → Array Value → Option Value → Pt → Prop} {PostX : Pt → Array Value → Addr → Pt → Prop} (hK : vx_Back l R p e below s args y 3 W Pre Post PostX)
    {b : Addr} {cellB : Cell} (hcell : T.heap[b]? = some cellB) (hobj : cellB.vm.isStatics = false) (hcls : s.vm.findClass C = some cellB.cls)
    {g : JFrame} (hg : g.method = m) (hsize : g.locals.size = c.maxLocals) {argsL rest : List Value} (hlen : ∀ sig, parseMethodDescriptor x.desc = some sig → argsL.length = sig.parameters.length)
    (hstack : g.stack = argsL.reverse ++ .ref b :: rest) (hW : 2 * g.monitorRoom + (rest.map fun v => v.category).sum ≤ W) (hdg : decode c.code g.pc = .ok (.invokevirtual index, 3))
    (hpre : ∀ vm₁, s.WarmedH vm₁ → Pre ⟨T.setVm vm₁, locs, cells, slots⟩ (Value.ref b :: argsL).toArray) :
    (∃ (v : Option Value) (vm₁ : Vm) (B : Pt), s.WarmedH vm₁ ∧ Stand p l e R s m args below meth c B.U B.locs B.cells B.slots ∧ Post ⟨T.setVm vm₁, locs, cells, slots⟩ (Value.ref b :: argsL).toArray v B ∧
      ∀ target, Steps p.tables e below (B.U.setTop { g with pc := g.pc + 3, stack := v.toList ++ rest }) target → Steps p.tables e below (T.setTop g) target) ∨
    (∃ (q : Addr) (vm₁ : Vm) (B : Pt), s.WarmedH vm₁ ∧ Stand p l e R s m args below meth c B.U B.locs B.cells B.slots ∧ PostX ⟨T.setVm vm₁, locs, cells, slots⟩ (Value.ref b :: argsL).toArray q B ∧
      Steps p.tables e below (T.setTop g) ((B.U.setTop { g with stack := rest }).pushFrame (.throwing q))) := by
  obtain ⟨r0, r, hn, hrm, hstR, hsigR⟩ := hd0
  obtain ⟨cn, ck, r1, hcn, hck, hni, hf, hn1⟩ := Cond.sameMethod_found hsame
  cases hn.symm.trans hn1
  obtain ⟨mk, methM, hnamed, hmethM, -, habM⟩ := Cond.instanceMethod_spec hinst
  obtain ⟨c2, r2, m2, q1, q2, q3, q4, kP, hkP, hkPi⟩ := Cond.selects_spec hsel
  cases hcls.symm.trans q1
  cases hf.symm.trans q2
  cases hnamed.symm.trans q3
  have hselP : selectMethod e.platform s.vm cellB.cls r0 = .method mk := by rw [Launch.admits_selectMethod X.admits]; exact q4
  obtain ⟨vm₁, X₁, hstep₁⟩ := X.invokevirtualUp hexec hown hlink hsame howner hn hrm hstR (a := b) (cell := cellB) hcell
    (fun z h => by rw [h] at hobj; cases hobj) hselP hmethM habM hkP hkPi (g := g) hg (argsL := argsL) (rest := rest) (hlen _ hsigR) hstack hdg
  rcases hK m meth c ⟨T.setVm vm₁, locs, cells, slots⟩ { g with stack := rest } (.invokevirtual index) mk (Value.ref b :: argsL).toArray X₁ hg hsize hdg hW (X₁.named hnamed) (hpre vm₁ X₁.warmed) with ⟨v, B, X', hpost, hsteps⟩ | ⟨q, B, X', hpost, hsteps⟩
  · exact Or.inl ⟨v, vm₁, B, X₁.warmed, X', hpost, fun target h => hstep₁ _ fun acts => by rw [doInvoke_state]; exact hsteps.trans h⟩
  · exact Or.inr ⟨q, vm₁, B, X₁.warmed, X', hpost, hstep₁ _ fun acts => by rw [doInvoke_state]; exact hsteps⟩
theorem vx_runU {x y : MethodName} {bytes cc : ByteArray} {maxL nL mc ms n index : Nat} {ret : Option FieldType} {ws : List Cond} {rm : Room} {Pc : Array Value → State → Prop} {Qc : Array Value → State → Outcome → State → Prop} {XC : String → State → State → Prop} {free : Addr → Prop} {Ts : List Cond} {own C owner : String} {b : Addr} {As rest : List Value} {g : JFrame}
    (S : CallFix p m c cc nL s args Ts own) (hM : vx_Met l y ws rm Pc Qc XC mc ms free) (cw : va_CU R s args own C owner index x y bytes maxL ret ws rm mc ms n) (hp : PreV s H C b Pc As)
    (hg : g.method = m) (hn : As.length = n) (hsize : g.locals.size = nL) (hstack : g.stack = As.reverse ++ .ref b :: rest) (hW : 2 * g.monitorRoom + (rest.map fun v => v.category).sum ≤ 8) (hdg : decode cc g.pc = .ok (.invokevirtual index, 3)) (hf : cells + mc ≤ R.cells ∧ slots + ms ≤ R.slots) :
    vx_Run p l e R s m args below meth c H locs cells slots mc ms g rest (Qc (Value.ref b :: As).toArray) XC free := by
  obtain ⟨hrc, hrs, hfr, hlo, hws, hcw⟩ := cw.back
  have hini := cw.init
  have hK : vx_Back l R p e below s args y 3 8 (PreOf R mc ms Pc) (PostOf Qc mc ms free) (vx_Post XC mc ms free) := vx_back (bytes := bytes) (maxL := maxL) (ret := ret) hM hp.1 hrc hrs hfr hlo hws hcw (fun a' U hW => word_at hW (Or.inl (by first | rfl | simp [Cond.onTables, Cond.keeps, Cond.steady])) hini)
  obtain ⟨hx, hb, hml, ho, -⟩ := S
  obtain ⟨-, ⟨cellB, hcB, hoB, hclB⟩, hPc⟩ := hp
  intro T hT X
  rcases vx_callVU X hx (C := C) (owner := owner) (bytes := bytes) (maxL := maxL) (ret := ret) ho cw.link cw.same cw.decl cw.notMH cw.sel cw.inst cw.code hK (by rw [hT]; exact hcB) hoB hclB hg (hsize.trans hml.symm) (argsL := As) (rest := rest) (fun sig h => hn.trans (cw.len sig h)) hstack hW (by rw [hb]; exact hdg)
    (fun vm₁ hW₁ => ⟨hf.1, hf.2, hPc (T.setVm vm₁) hT hW₁⟩) with ⟨v, vm₁, ⟨U', l2, c2, s2⟩, hW₁, X', ⟨g', mk, t, L, e1, e2, hq, h1, hL, h2, h3⟩, st⟩ | ⟨q, vm₁, ⟨U', l2, c2, s2⟩, hW₁, X', ⟨g', mk, t, L, E, ce, e1, e2, hq, hce, hcv, hcl, h1, hL, h2, h3⟩, st⟩
  · dsimp only [Pt.U, Pt.locs, Pt.cells, Pt.slots] at X' e1 e2 h1 h2 h3 st
    subst h1; subst h2; subst h3
    exact Or.inl ⟨v, (T.setVm vm₁).calling g' mk (Value.ref b :: As).toArray, t, U', L, hT, X', hL, e1, e2, hq, st⟩
  · dsimp only [Pt.U, Pt.locs, Pt.cells, Pt.slots] at X' e1 e2 h1 h2 h3 st hcl
    subst h1; subst h2; subst h3
    exact Or.inr ⟨q, (T.setVm vm₁).calling g' mk (Value.ref b :: As).toArray, t, U', L, E, ce, hT, X', hL, e1, e2, hq, hce, hcv, vx_cls hW₁ hcl, st⟩
end
/-! ===== END ===== -/
/-! ===== BEGIN super.m(..) that may throw (follows va_callSU, va_runSU) ===== -/
section
variable {p : Program} {l : Launch} {e : Env} {R : Room} {s : State} {m : MethodId} {args : Array Value} {below : List Frame} {meth : Method} {c : Code} {H : Heap} {locs : List Loc} {cells slots : Nat}
theorem vx_callSU {T : State} {locs : List Loc} {cells slots : Nat} (X : Stand p l e R s m args below meth c T locs cells slots) (hexec : p.tables.exec = Jvm.exec) {own : String} {index : Nat} {y : MethodName} {bytes : ByteArray} {maxL : Nat} {ret : Option FieldType}
    (hown : s.vm.findClass own = some m.cls) (hlink : (Cond.methodLink own index y).before args s = true) (hsame : (Cond.sameMethod y.cls y.cls y.name y.desc).before args s = true) (hsup : (Cond.superclass own y.cls).before args s = true)
    (hinst : (Cond.instanceMethod y).before args s = true) (hcode : (Cond.code y bytes maxL ret).before args s = true) (hno : y.name ≠ "<init>")
    {W : Nat} {Pre : Pt → Array Value → Prop} {Post : Pt → Array Value → Option Value → Pt → Prop} {PostX : Pt → Array Value → Addr → Pt → Prop} (hK : vx_Back l R p e below s args y 3 W Pre Post PostX)
    {b : Addr} {cellB : Cell} {kB : Class} (hcell : T.heap[b]? = some cellB) (hobj : cellB.vm.isStatics = false) (hkB : s.vm.classes[cellB.cls]? = some kB)
    {g : JFrame} (hg : g.method = m) (hsize : g.locals.size = c.maxLocals) {argsL rest : List Value} (hlen : ∀ sig, parseMethodDescriptor y.desc = some sig → argsL.length = sig.parameters.length)
    (hstack : g.stack = argsL.reverse ++ .ref b :: rest) (hW : 2 * g.monitorRoom + (rest.map fun v => v.category).sum ≤ W) (hdg : decode c.code g.pc = .ok (.invokespecial index, 3))
    (hpre : ∀ vm₁, s.WarmedH vm₁ → Pre ⟨T.setVm vm₁, locs, cells, slots⟩ (Value.ref b :: argsL).toArray) :
    (∃ (v : Option Value) (vm₁ : Vm) (B : Pt), s.WarmedH vm₁ ∧ Stand p l e R s m args below meth c B.U B.locs B.cells B.slots ∧ Post ⟨T.setVm vm₁, locs, cells, slots⟩ (Value.ref b :: argsL).toArray v B ∧
      ∀ target, Steps p.tables e below (B.U.setTop { g with pc := g.pc + 3, stack := v.toList ++ rest }) target → Steps p.tables e below (T.setTop g) target) ∨
    (∃ (q : Addr) (vm₁ : Vm) (B : Pt), s.WarmedH vm₁ ∧ Stand p l e R s m args below meth c B.U B.locs B.cells B.slots ∧ PostX ⟨T.setVm vm₁, locs, cells, slots⟩ (Value.ref b :: argsL).toArray q B ∧
      Steps p.tables e below (T.setTop g) ((B.U.setTop { g with stack := rest }).pushFrame (.throwing q))) := by
  obtain ⟨mk, methM, hnamed, hmethM, hstM, habM⟩ := Cond.instanceMethod_spec hinst
  obtain ⟨methM', cM, hmethM', -, -, -, -, -, -, hsigM⟩ := Cond.code_spec hnamed hcode
  cases hmethM.symm.trans hmethM'
  obtain ⟨ps, dk, kp, hps, hdk, hkp, hsuper, -, -, hnid⟩ := Cond.superclass_spec hown hsup
  have hn : s.methodNamed? ⟨y.cls, y.name, y.desc⟩ = some mk := hnamed
  have hpm : ps = mk.cls := Option.some.inj (hps.symm.trans (findClass_of_methodNamed hnamed))
  have hsub : s.vm.isSubclass ps mk.cls = true := by rw [hpm]; simp [Vm.isSubclass, Vm.isSubclassAux]
  obtain ⟨vm₁, X₁, hstep₁⟩ := X.invokespecialUp hexec hown hlink hsame hn hmethM hstM habM hno hdk hnid hps hsuper hsub (a := b) (cell := cellB) hcell
    (fun z h => by rw [h] at hobj; cases hobj) hkB (g := g) hg (argsL := argsL) (rest := rest) (hlen _ hsigM) hstack hdg
  rcases hK m meth c ⟨T.setVm vm₁, locs, cells, slots⟩ { g with stack := rest } (.invokespecial index) mk (Value.ref b :: argsL).toArray X₁ hg hsize hdg hW (X₁.named hnamed) (hpre vm₁ X₁.warmed) with ⟨v, B, X', hpost, hsteps⟩ | ⟨q, B, X', hpost, hsteps⟩
  · exact Or.inl ⟨v, vm₁, B, X₁.warmed, X', hpost, fun target h => hstep₁ _ (by rw [doInvoke_state]; exact hsteps.trans h)⟩
  · exact Or.inr ⟨q, vm₁, B, X₁.warmed, X', hpost, hstep₁ _ (by rw [doInvoke_state]; exact hsteps)⟩
theorem vx_runSU {y : MethodName} {bytes cc : ByteArray} {maxL nL mc ms n index : Nat} {ret : Option FieldType} {ws : List Cond} {rm : Room} {Pc : Array Value → State → Prop} {Qc : Array Value → State → Outcome → State → Prop} {XC : String → State → State → Prop} {free : Addr → Prop} {Ts : List Cond} {own C : String} {cC : ClassId} {b : Addr} {As rest : List Value} {g : JFrame}
    (hat : ClassAt s C cC) (S : CallFix p m c cc nL s args Ts own) (hM : vx_Met l y ws rm Pc Qc XC mc ms free) (cw : va_CS R s args own index y bytes maxL ret ws rm mc ms n) (hp : PreV s H C b Pc As)
    (hg : g.method = m) (hn : As.length = n) (hsize : g.locals.size = nL) (hstack : g.stack = As.reverse ++ .ref b :: rest) (hW : 2 * g.monitorRoom + (rest.map fun v => v.category).sum ≤ 8) (hdg : decode cc g.pc = .ok (.invokespecial index, 3)) (hf : cells + mc ≤ R.cells ∧ slots + ms ≤ R.slots) :
    vx_Run p l e R s m args below meth c H locs cells slots mc ms g rest (Qc (Value.ref b :: As).toArray) XC free := by
  obtain ⟨⟨hrc, hrs, hfr, hlo, hws, hcw⟩, hl1, hl2, hl3, hl4, hini, hcode, hno, hlen⟩ := cw
  have hK : vx_Back l R p e below s args y 3 8 (PreOf R mc ms Pc) (PostOf Qc mc ms free) (vx_Post XC mc ms free) := vx_back (bytes := bytes) (maxL := maxL) (ret := ret) hM hp.1 hrc hrs hfr hlo hws hcw (fun a' U hW => word_at hW (Or.inl (by first | rfl | simp [Cond.onTables, Cond.keeps, Cond.steady])) hini)
  obtain ⟨hx, hb, hml, ho, -⟩ := S
  obtain ⟨-, ⟨cellB, hcB, hoB, hclB⟩, hPc⟩ := hp
  obtain ⟨hfc, kB, hkB, -⟩ := hat
  cases hfc.symm.trans hclB
  intro T hT X
  rcases vx_callSU X hx (bytes := bytes) (maxL := maxL) (ret := ret) ho hl1 hl2 hl3 hl4 hcode hno hK (by rw [hT]; exact hcB) hoB hkB hg (hsize.trans hml.symm) (argsL := As) (rest := rest) (fun sig h => hn.trans (hlen sig h)) hstack hW (by rw [hb]; exact hdg)
    (fun vm₁ hW₁ => ⟨hf.1, hf.2, hPc (T.setVm vm₁) hT hW₁⟩) with ⟨v, vm₁, ⟨U', l2, c2, s2⟩, hW₁, X', ⟨g', mk, t, L, e1, e2, hq, h1, hL, h2, h3⟩, st⟩ | ⟨q, vm₁, ⟨U', l2, c2, s2⟩, hW₁, X', ⟨g', mk, t, L, E, ce, e1, e2, hq, hce, hcv, hcl, h1, hL, h2, h3⟩, st⟩
  · dsimp only [Pt.U, Pt.locs, Pt.cells, Pt.slots] at X' e1 e2 h1 h2 h3 st
    subst h1; subst h2; subst h3
    exact Or.inl ⟨v, (T.setVm vm₁).calling g' mk (Value.ref b :: As).toArray, t, U', L, hT, X', hL, e1, e2, hq, st⟩
  · dsimp only [Pt.U, Pt.locs, Pt.cells, Pt.slots] at X' e1 e2 h1 h2 h3 st hcl
    subst h1; subst h2; subst h3
    exact Or.inr ⟨q, (T.setVm vm₁).calling g' mk (Value.ref b :: As).toArray, t, U', L, E, ce, hT, X', hL, e1, e2, hq, hce, hcv, vx_cls hW₁ hcl, st⟩
end
/-! ===== END ===== -/
/-! ===== calls of what a class above declares; copies of bytes ===== -/
theorem xx_selP {C : String} {n : Nat} {y : MethodName} {args : Array Value} {s : State} (hins : (Cond.instantiable C n).before args s = true) (hsame : (Cond.sameMethod y.cls y.cls y.name y.desc).before args s = true) (hpriv : (Cond.privateMethod y).before args s = true) (hinst : (Cond.instanceMethod y).before args s = true) :
    (Cond.selects C y y).before args s = true := by
  obtain ⟨c, k, hc, hk, -, -, -, -⟩ := Cond.instantiable_spec hins
  obtain ⟨cn, ck, r, hcn, hck, hni, hfound, hn1⟩ := Cond.sameMethod_found hsame
  obtain ⟨mk, methM, hnamed, hmethM, -, -⟩ := Cond.instanceMethod_spec hinst
  have e9 : mk = r := Option.some.inj (hnamed.symm.trans (show s.methodNamed? y = some r from hn1))
  subst e9
  have hcls : mk.cls = cn := Option.some.inj ((findClass_of_methodNamed hnamed).symm.trans hcn)
  have hsel : selectMethod {} s.vm c mk = .method mk := selectMethod_private hmethM (Cond.privateMethod_at hpriv mk methM hnamed hmethM)
  simp only [Cond.before, Cond.holds, Cond.value, hc, hfound, hnamed, hsel, hcls, hck]
  simp; exact hni
section
variable {Y : XY} {M : XM} {l : Launch} {d k n : Nat} {h : XH} {pc : Nat} {ls st : List Value} {ρ : Nat → Nat} {ow : Nat → Option Nat} {H : Heap} {locs : List Loc} {cells slots : Nat} {lsA : Array Slot}
/-- how a method is found from an object's class -/
def xx_slc (C : String) (y : MethodName) : Prop := Cond.instanceMethod y ∈ xx_gws ∧ (Cond.selects C y y ∈ xx_gws ∨ ∃ n, Cond.instantiable C n ∈ xx_gws ∧ Cond.sameMethod y.cls y.cls y.name y.desc ∈ xx_gws ∧ Cond.privateMethod y ∈ xx_nws)
/-- a method that a class above declares (and the object's class doesn't) -/
theorem sw_callWx {M' : XM} {d' k' n' idx ci N b : Nat} {f : Nat → Value} {C : String} {T : u_T} {ty : Nat → FieldType} {as stk : List Value} {v : Option Value} {h2 : XH} (O : xx_O Y M l d) (hM : XEx l M' d' k' n' (.ref b :: as) h v h2) (E : xx_ce M') (hl : Cond.methodLink M.2.2.2.2.1 idx M'.1 ∈ xx_gws) (hsel : xx_slc C M'.1)
    (K : xx_cl ci C T N ty) (hb : h b = some (ci, N, f)) (hd : decode M.2.1 pc = .ok (.invokevirtual idx, 3)) (hdd : d' + 1 ≤ d) (hn : as.length = M'.2.2.2.2.2) (hs : stk = as.reverse ++ .ref b :: st) (hc : (st.map fun v => v.category).sum ≤ 8)
    {st2 : List Value} (h2s : v.toList ++ st = st2) (kk : SW Y k n h2 (pc + 3) ls st2) : SW Y (k + k') (n + n') h pc ls stk := by
  subst hs
  intro ρ ow H locs cells slots lsA r9
  obtain ⟨⟨cell, q1, q2, q3, q4⟩, hS, hfc, -⟩ := r9.obj O K hb
  have hst : ∀ v ∈ st, xx_in h v := fun v hv => r9.stk v (List.mem_append_right _ (List.mem_cons_of_mem _ hv))
  have has : ∀ v ∈ (Value.ref b :: as), xx_in h v := fun v hv => by
    rcases List.mem_cons.mp hv with rfl | hv
    · exact r9.stk _ (List.mem_append_right _ List.mem_cons_self)
    · exact r9.stk v (List.mem_append_left _ (List.mem_reverse.mpr hv))
  have S : CallFix (xt_p Y.1) (xt_m Y.1) (xt_c Y.1) M.2.1 (xt_c Y.1).maxLocals (xt_s Y.1) (xt_a Y.1) xx_gws M.2.2.2.2.1 := ⟨O.1, O.2.1, rfl, O.2.2.2.2.2.2.1, O.2.2.2.2.2.1⟩
  have hM' := hM (xy_D Y) ρ ow
  rw [← O.2.2.2.2.2.2.2.2.2.2.2.1] at hM'
  have hp : PreV (xt_s Y.1) H C (ρ b) (xx_Pc (xy_D Y) ρ ow h (.ref b :: as)) (as.map (xx_v ρ)) := ⟨xx_blind, ⟨cell, q1, q3.1, by rw [q2]; exact hfc⟩, fun U hU hW => ⟨rfl, xx_K.moved hW.alike O.2.2.2.2.2.2.2.1, xx_N.warm hW O.2.2.2.2.2.2.2.2.1, by rw [hU]; exact r9.1, has⟩⟩
  have hw := O.2.2.2.2.2.1
  have hse : (Cond.selects C M'.1 M'.1).before (xt_a Y.1) (xt_s Y.1) = true := by
    rcases hsel.2 with w | ⟨n9, w1, w2, w3⟩
    · exact hw _ w
    · exact xx_selP (hw _ w1) (hw _ w2) (va_Nw.use rfl (O.2.2.2.2.2.2.2.2.1.1 _ w3)) (hw _ hsel.1)
  refine xx_run (Q' := fun o g => o = .inl v ∧ g = h2) O r9 hst (a := (Value.ref (ρ b) :: as.map (xx_v ρ)).toArray) ?_ (fun v' h' q _ => by obtain ⟨e1, rfl⟩ := q; cases e1; rw [h2s]; exact kk) (fun E h' q => by obtain ⟨e1, -⟩ := q; cases e1)
  exact vx_runV S hM' ⟨xx_callB O E hdd hl, hw _ hsel.1, hse⟩ hp rfl (by rw [List.length_map]; exact hn) r9.L.1 xx_stk (lv_room (by rw [xx_cats]; exact hc)) hd (by have := r9.2.2.2.1; have := r9.2.2.2.2.1; omega)
/-- super.m(..) -/
def xx_su (own : String) (idx : Nat) (y : MethodName) : Prop := Cond.methodLink own idx y ∈ xx_gws ∧ Cond.sameMethod y.cls y.cls y.name y.desc ∈ xx_gws ∧ Cond.superclass own y.cls ∈ xx_gws ∧ Cond.instanceMethod y ∈ xx_gws ∧ y.name ≠ "<init>"
theorem sw_callSUx {M' : XM} {d' k' n' idx ci N b : Nat} {f : Nat → Value} {C : String} {T : u_T} {ty : Nat → FieldType} {as stk : List Value} {v : Option Value} {h2 : XH} (O : xx_O Y M l d) (hM : XEx l M' d' k' n' (.ref b :: as) h v h2) (E : xx_ce M') (hl : xx_su M.2.2.2.2.1 idx M'.1)
    (K : xx_cl ci C T N ty) (hb : h b = some (ci, N, f)) (hd : decode M.2.1 pc = .ok (.invokespecial idx, 3)) (hdd : d' + 1 ≤ d) (hn : as.length = M'.2.2.2.2.2) (hs : stk = as.reverse ++ .ref b :: st) (hc : (st.map fun v => v.category).sum ≤ 8)
    {st2 : List Value} (h2s : v.toList ++ st = st2) (kk : SW Y k n h2 (pc + 3) ls st2) : SW Y (k + k') (n + n') h pc ls stk := by
  subst hs
  intro ρ ow H locs cells slots lsA r9
  obtain ⟨⟨cell, q1, q2, q3, q4⟩, hS, hfc, kC, hkC, hkind⟩ := r9.obj O K hb
  have hst : ∀ v ∈ st, xx_in h v := fun v hv => r9.stk v (List.mem_append_right _ (List.mem_cons_of_mem _ hv))
  have has : ∀ v ∈ (Value.ref b :: as), xx_in h v := fun v hv => by
    rcases List.mem_cons.mp hv with rfl | hv
    · exact r9.stk _ (List.mem_append_right _ List.mem_cons_self)
    · exact r9.stk v (List.mem_append_left _ (List.mem_reverse.mpr hv))
  have S : CallFix (xt_p Y.1) (xt_m Y.1) (xt_c Y.1) M.2.1 (xt_c Y.1).maxLocals (xt_s Y.1) (xt_a Y.1) xx_gws M.2.2.2.2.1 := ⟨O.1, O.2.1, rfl, O.2.2.2.2.2.2.1, O.2.2.2.2.2.1⟩
  have hM' := hM (xy_D Y) ρ ow
  rw [← O.2.2.2.2.2.2.2.2.2.2.2.1] at hM'
  have hp : PreV (xt_s Y.1) H C (ρ b) (xx_Pc (xy_D Y) ρ ow h (.ref b :: as)) (as.map (xx_v ρ)) := ⟨xx_blind, ⟨cell, q1, q3.1, by rw [q2]; exact hfc⟩, fun U hU hW => ⟨rfl, xx_K.moved hW.alike O.2.2.2.2.2.2.2.1, xx_N.warm hW O.2.2.2.2.2.2.2.2.1, by rw [hU]; exact r9.1, has⟩⟩
  have hw := O.2.2.2.2.2.1
  have B := xx_callB (k' := k') (n' := n') O E hdd hl.1
  refine xx_run (Q' := fun o g => o = .inl v ∧ g = h2) O r9 hst (a := (Value.ref (ρ b) :: as.map (xx_v ρ)).toArray) ?_ (fun v' h' q _ => by obtain ⟨e1, rfl⟩ := q; cases e1; rw [h2s]; exact kk) (fun E h' q => by obtain ⟨e1, -⟩ := q; cases e1)
  obtain ⟨b1, b2, b3, b4, b5, b6, b7, b8, -, b9, b10⟩ := B
  exact vx_runSU ⟨hfc, kC, hkC, hkind⟩ S hM' ⟨⟨b1, b2, b3, b4, b5, b6⟩, b10, hw _ hl.2.1, hw _ hl.2.2.1, hw _ hl.2.2.2.1, b8, b7, hl.2.2.2.2, b9⟩ hp rfl (by rw [List.length_map]; exact hn) r9.L.1 xx_stk (lv_room (by rw [xx_cats]; exact hc)) hd (by have := r9.2.2.2.1; have := r9.2.2.2.2.1; omega)
/-- a method of a class above that the object's class overrides -/
def xx_ov (own C : String) (idx : Nat) (x y : MethodName) (b0 : ByteArray) (m0 : Nat) (r0 : Option FieldType) : Prop := Cond.methodLink own idx x ∈ xx_gws ∧ Cond.sameMethod x.cls x.cls x.name x.desc ∈ xx_gws ∧ Cond.instanceMethod x ∈ xx_gws ∧ Cond.code x b0 m0 r0 ∈ xx_gws ∧ Cond.selects C x y ∈ xx_gws ∧ Cond.instanceMethod y ∈ xx_gws ∧ (x.cls ≠ "java/lang/invoke/MethodHandle" ∧ x.cls ≠ "java/lang/invoke/VarHandle") ∧ x.desc = y.desc
theorem sw_callUx {x : MethodName} {b0 : ByteArray} {m0 : Nat} {r0 : Option FieldType} {M' : XM} {d' k' n' idx ci N b : Nat} {f : Nat → Value} {C : String} {T : u_T} {ty : Nat → FieldType} {as stk : List Value} {v : Option Value} {h2 : XH} (O : xx_O Y M l d) (hM : XEx l M' d' k' n' (.ref b :: as) h v h2) (E : xx_ce M') (hl : xx_ov M.2.2.2.2.1 C idx x M'.1 b0 m0 r0)
    (K : xx_cl ci C T N ty) (hb : h b = some (ci, N, f)) (hd : decode M.2.1 pc = .ok (.invokevirtual idx, 3)) (hdd : d' + 1 ≤ d) (hn : as.length = M'.2.2.2.2.2) (hs : stk = as.reverse ++ .ref b :: st) (hc : (st.map fun v => v.category).sum ≤ 8)
    {st2 : List Value} (h2s : v.toList ++ st = st2) (kk : SW Y k n h2 (pc + 3) ls st2) : SW Y (k + k') (n + n') h pc ls stk := by
  subst hs
  intro ρ ow H locs cells slots lsA r9
  obtain ⟨⟨cell, q1, q2, q3, q4⟩, hS, hfc, -⟩ := r9.obj O K hb
  have hst : ∀ v ∈ st, xx_in h v := fun v hv => r9.stk v (List.mem_append_right _ (List.mem_cons_of_mem _ hv))
  have has : ∀ v ∈ (Value.ref b :: as), xx_in h v := fun v hv => by
    rcases List.mem_cons.mp hv with rfl | hv
    · exact r9.stk _ (List.mem_append_right _ List.mem_cons_self)
    · exact r9.stk v (List.mem_append_left _ (List.mem_reverse.mpr hv))
  have S : CallFix (xt_p Y.1) (xt_m Y.1) (xt_c Y.1) M.2.1 (xt_c Y.1).maxLocals (xt_s Y.1) (xt_a Y.1) xx_gws M.2.2.2.2.1 := ⟨O.1, O.2.1, rfl, O.2.2.2.2.2.2.1, O.2.2.2.2.2.1⟩
  have hM' := hM (xy_D Y) ρ ow
  rw [← O.2.2.2.2.2.2.2.2.2.2.2.1] at hM'
  have hp : PreV (xt_s Y.1) H C (ρ b) (xx_Pc (xy_D Y) ρ ow h (.ref b :: as)) (as.map (xx_v ρ)) := ⟨xx_blind, ⟨cell, q1, q3.1, by rw [q2]; exact hfc⟩, fun U hU hW => ⟨rfl, xx_K.moved hW.alike O.2.2.2.2.2.2.2.1, xx_N.warm hW O.2.2.2.2.2.2.2.2.1, by rw [hU]; exact r9.1, has⟩⟩
  have hw := O.2.2.2.2.2.1
  have hR := O.2.2.2.2.2.2.2.2.2.2.2.2
  obtain ⟨l1, l2, l3, l4, l5, l6, l7, l8⟩ := hl
  have hlo := E.2.2.2.2
  refine xx_run (Q' := fun o g => o = .inl v ∧ g = h2) O r9 hst (a := (Value.ref (ρ b) :: as.map (xx_v ρ)).toArray) ?_ (fun v' h' q _ => by obtain ⟨e1, rfl⟩ := q; cases e1; rw [h2s]; exact kk) (fun E h' q => by obtain ⟨e1, -⟩ := q; cases e1)
  refine vx_runU (C := C) (owner := x.cls) (x := x) S hM' ⟨⟨rfl, rfl, ?_, ?_, xx_ws_at O E.1, List.mem_cons_self⟩, hw _ E.1, hw _ E.2.1, l7, fun sig q => E.par sig (by rw [← l8]; exact q), hw _ l1, hw _ l2, va_Decl.of (hw _ l3) (hw _ l4), hw _ l5, hw _ l6⟩ hp rfl (by rw [List.length_map]; exact hn) r9.L.1 xx_stk (lv_room (by rw [xx_cats]; exact hc)) hd (by have := r9.2.2.2.1; have := r9.2.2.2.2.1; omega)
  · exact Nat.le_trans hdd hR.1
  · refine Nat.le_trans ?_ hR.2.1
    show 8 + (M'.2.2.1 + 11) + 40 * d' ≤ 40 * d
    omega
theorem sw_copyB {idx N0 N1 r0 r1 : Nat} {f g : Nat → Value} {n9 : Int32} (O : xx_O Y M l d) (K : xx_ac M.2.2.2.2.1 idx) (hd : decode M.2.1 pc = .ok (.invokestatic idx, 3)) (hc0 : h r0 = some (102, N0, f)) (hc1 : h r1 = some (102, N1, g)) (h9 : 1000 ≤ r1) (h3 : ¬ n9 < 0) (h4 : n9.toNatClampNeg ≤ N0) (h5 : n9.toNatClampNeg ≤ N1)
    (hel : ∀ j, j < n9.toNatClampNeg → ∃ z : Int32, f j = .int z ∧ fits .byte (.int z) = true)
    (hdd : 1 ≤ d) (hw : (st.map fun v => v.category).sum + (nativeFrameWords "java/lang/System" "arraycopy" 5 + 11) ≤ 40) {h2' : XH} (he : xx_up h r1 (102, N1, fun j => if j < n9.toNatClampNeg then f j else g j) = h2') (kk : SW Y k n h2' (pc + 3) ls st) : SW Y k n h pc ls (.int n9 :: .int 0 :: .ref r1 :: .int 0 :: .ref r0 :: st) := by
  subst he
  intro ρ ow H locs cells slots lsA r9
  have nn : ∀ z : Int32, ¬ z < 0 → z.toInt = (z.toNatClampNeg : Int) := by
    intro z hz
    have hz0 : (0 : Int) ≤ z.toInt := by
      have := Int32.not_lt.mp hz
      simpa using Int32.le_iff_toInt_le.mp this
    show z.toInt = ((z.toInt.toNat : Nat) : Int)
    omega
  have hcat : ((st.map (xx_v ρ)).map fun v => v.category).sum = (st.map fun v => v.category).sum := by
    rw [List.map_map]
    exact congrArg List.sum (List.map_congr_left fun v _ => xx_v_cat ρ v)
  obtain ⟨hK0, -⟩ := O.2.2.2.2.2.2.2.1.2.2 102 (by omega) (by omega)
  obtain ⟨cs, q0, a0, a1, a2, -, a4⟩ := r9.arrW O (by omega) (by omega) hc0
  obtain ⟨q1, -⟩ := r9.arr O (by omega) (by omega) hc1 h9
  generalize hcA : xd_A (xy_D Y) 102 = cA at hK0 q1
  obtain ⟨hns, k0, hk0, cm0, hkk0⟩ := a0
  obtain ⟨-, k1, hk1, cm1, hkk1⟩ := hK0 N1 (fun j => xx_v ρ (g j))
  have hgw := O.2.2.2.2.2.1
  intro T hT X
  obtain ⟨vm', X', step⟩ := X.arraycopy O.1 O.2.2.2.2.2.2.1 (hgw _ K.1) (hgw _ K.2.1) (hgw _ K.2.2.1) (hgw _ K.2.2.2) (src := ρ r0) (dst := ρ r1) (cs := cs) (cd := arrV cA N1 (fun j => xx_v ρ (g j))) (srcPos := 0) (destPos := 0) (n := n9) (by rw [hT]; exact q0) (by rw [hT]; exact q1)
    hns (fun _ h => by cases h) a1 (fun h => by cases h) hk0 hk1 hkk0 hkk1 (by simp [xx_aty, refKind]) (by decide) (by decide) h3
    (by rw [nn n9 h3, show (0 : Int32).toInt = 0 from rfl]; omega)
    (by rw [nn n9 h3, show (0 : Int32).toInt = 0 from rfl]; rw [arrV_size]; omega)
    (fun vm₁ hal i hi => by
      have e : cs.slots.getD ((0 : Int32).toNatClampNeg + i) .null = xx_v ρ (f i) := by
        rw [show (0 : Int32).toNatClampNeg + i = i from Nat.zero_add i, Array.getD_eq_getD_getElem?, a4 _ (by omega)]
        rfl
      rw [e]
      obtain ⟨z, e2, e3⟩ := hel i hi
      rw [e2]
      exact ⟨e3, trivial⟩)
    (g := F0 (xt_m Y.1) pc lsA (.int n9 :: .int 0 :: .ref (ρ r1) :: .int 0 :: .ref (ρ r0) :: st.map (xx_v ρ))) rfl (by show lsA.size = _; exact r9.L.1) (rest := st.map (xx_v ρ)) rfl (by rw [O.2.1]; exact hd) (by exact Nat.le_trans hdd O.2.2.2.2.2.2.2.2.2.2.2.2.1) (by show 2 * 0 + _ + _ ≤ _; rw [hcat]; have h9 := O.2.2.2.2.2.2.2.2.2.2.2.2.2.1; omega)
  have e1 : copied cs (arrV cA N1 (fun j => xx_v ρ (g j))) 0 0 n9 = arrV cA N1 (fun j => xx_v ρ (if j < n9.toNatClampNeg then f j else g j)) := by
    have h6 := va_copiedX (fun z => xx_v ρ z) cs cA f g a4 (sp := (0 : Int32).toNatClampNeg) (dp := (0 : Int32).toNatClampNeg) (n := n9.toNatClampNeg) (n0 := N0) (n1 := N1) (by show 0 + _ ≤ _; omega)
    refine h6.trans (xx_arr_eq fun j hj => ?_)
    show xx_v ρ (va_cpy f g 0 0 n9.toNatClampNeg j) = _
    unfold va_cpy
    congr 1
    by_cases q : j < n9.toNatClampNeg
    · rw [if_pos (by omega), if_pos q, Nat.zero_add, Nat.sub_zero]
    · rw [if_neg (by omega), if_neg q]
  rw [e1] at X' step
  have hl : ρ r1 < H.size := (Array.getElem?_eq_some_iff.mp q1).1
  generalize hnew : arrV cA N1 (fun j => xx_v ρ (if j < n9.toNatClampNeg then f j else g j)) = cnew at X' step
  have hheap : ((T.setVm vm').setCell (ρ r1) cnew).heap = H.setIfInBounds (ρ r1) cnew := by rw [← hT]; rfl
  have oq : ∀ q : Nat, q ≠ ρ r1 → (H.setIfInBounds (ρ r1) cnew)[q]? = H[q]? := fun q hq => by simp [Array.getElem?_setIfInBounds, Ne.symm hq]
  have oe : (H.setIfInBounds (ρ r1) cnew)[ρ r1]? = some cnew := by simp [Array.getElem?_setIfInBounds, hl]
  obtain ⟨t, a1, b1⟩ := kk ρ ow _ _ cells slots lsA (r9.putL hc1 h9 (by simp) oq (fun q hq => by
      rcases List.mem_append.mp hq with h | h
      · exact .inl h
      · obtain ⟨z, -, hz⟩ := List.mem_map.mp h
        exact .inr (by rw [← hz])) (by
      refine xx_cell.mk h9 ?_
      unfold xx_newc
      rw [if_neg (by show ¬ 102 < 100; omega), if_pos (by show 102 < 200; omega), oe, ← hnew, ← hcA]) (fun j hj => by
      show xx_in h (if j < n9.toNatClampNeg then f j else g j)
      split
      · rename_i q
        exact r9.1.2.2.2.2 r0 _ j hc0 (show j < N0 by omega)
      · exact r9.1.2.2.2.2 r1 _ j hc1 hj) (xx_ht (xx_ht (xx_ht (xx_ht (xx_ht r9.stk)))))) _ hheap X'
  exact ⟨t, step t a1, b1⟩
end
end
section
/-! ===== words of calls up the classes ===== -/
def gwl_S2 : List Cond := [(Jvm.Cond.instantiable "java/lang/StringBuilder" (4 : Nat)), (Jvm.Cond.superclass "java/lang/StringBuilder" "java/lang/AbstractStringBuilder"), (Jvm.Cond.methodLink "java/lang/StringBuilder" (333 : Nat) ({ cls := "java/lang/AbstractStringBuilder", name := "setLength", desc := "(I)V" } : Jvm.MethodName)), (Jvm.Cond.instanceMethod ({ cls := "java/lang/AbstractStringBuilder", name := "setLength", desc := "(I)V" } : Jvm.MethodName)), (Jvm.Cond.methodLink "java/lang/StringBuilder" (29 : Nat) ({ cls := "java/lang/AbstractStringBuilder", name := "append", desc := "(Ljava/lang/String;)Ljava/lang/AbstractStringBuilder;" } : Jvm.MethodName)), (Jvm.Cond.instanceMethod ({ cls := "java/lang/AbstractStringBuilder", name := "append", desc := "(Ljava/lang/String;)Ljava/lang/AbstractStringBuilder;" } : Jvm.MethodName)), (Jvm.Cond.methodLink "java/lang/AbstractStringBuilder" (100 : Nat) ({ cls := "java/lang/AbstractStringBuilder", name := "ensureCapacityInternal", desc := "(I)V" } : Jvm.MethodName)), (Jvm.Cond.instanceMethod ({ cls := "java/lang/AbstractStringBuilder", name := "ensureCapacityInternal", desc := "(I)V" } : Jvm.MethodName)), (Jvm.Cond.methodLink "java/lang/AbstractStringBuilder" (83 : Nat) ({ cls := "java/lang/AbstractStringBuilder", name := "isLatin1", desc := "()Z" } : Jvm.MethodName)), (Jvm.Cond.instanceMethod ({ cls := "java/lang/AbstractStringBuilder", name := "isLatin1", desc := "()Z" } : Jvm.MethodName)), (Jvm.Cond.selects "java/lang/StringBuilder" ({ cls := "java/lang/AbstractStringBuilder", name := "isLatin1", desc := "()Z" } : Jvm.MethodName) ({ cls := "java/lang/AbstractStringBuilder", name := "isLatin1", desc := "()Z" } : Jvm.MethodName)), (Jvm.Cond.methodLink "java/lang/AbstractStringBuilder" (208 : Nat) ({ cls := "java/lang/AbstractStringBuilder", name := "putStringAt", desc := "(ILjava/lang/String;)V" } : Jvm.MethodName)), (Jvm.Cond.instanceMethod ({ cls := "java/lang/AbstractStringBuilder", name := "putStringAt", desc := "(ILjava/lang/String;)V" } : Jvm.MethodName)), (Jvm.Cond.methodLink "java/lang/AbstractStringBuilder" (397 : Nat) ({ cls := "java/lang/AbstractStringBuilder", name := "inflateIfNeededFor", desc := "(Ljava/lang/String;)V" } : Jvm.MethodName)), (Jvm.Cond.instanceMethod ({ cls := "java/lang/AbstractStringBuilder", name := "inflateIfNeededFor", desc := "(Ljava/lang/String;)V" } : Jvm.MethodName)), (Jvm.Cond.methodLink "java/lang/StringBuilder" (53 : Nat) ({ cls := "java/lang/AbstractStringBuilder", name := "append", desc := "(I)Ljava/lang/AbstractStringBuilder;" } : Jvm.MethodName)), (Jvm.Cond.instanceMethod ({ cls := "java/lang/AbstractStringBuilder", name := "append", desc := "(I)Ljava/lang/AbstractStringBuilder;" } : Jvm.MethodName)), (Jvm.Cond.methodLink "java/lang/String" (552 : Nat) ({ cls := "java/lang/AbstractStringBuilder", name := "getValue", desc := "()[B" } : Jvm.MethodName)), (Jvm.Cond.instanceMethod ({ cls := "java/lang/AbstractStringBuilder", name := "getValue", desc := "()[B" } : Jvm.MethodName)), (Jvm.Cond.selects "java/lang/StringBuilder" ({ cls := "java/lang/AbstractStringBuilder", name := "getValue", desc := "()[B" } : Jvm.MethodName) ({ cls := "java/lang/AbstractStringBuilder", name := "getValue", desc := "()[B" } : Jvm.MethodName)), (Jvm.Cond.methodLink "java/lang/String" (549 : Nat) ({ cls := "java/lang/AbstractStringBuilder", name := "length", desc := "()I" } : Jvm.MethodName)), (Jvm.Cond.instanceMethod ({ cls := "java/lang/AbstractStringBuilder", name := "length", desc := "()I" } : Jvm.MethodName)), (Jvm.Cond.sameMethod "java/lang/AbstractStringBuilder" "java/lang/AbstractStringBuilder" "length" "()I"), (Jvm.Cond.selects "java/lang/StringBuilder" ({ cls := "java/lang/AbstractStringBuilder", name := "length", desc := "()I" } : Jvm.MethodName) ({ cls := "java/lang/StringBuilder", name := "length", desc := "()I" } : Jvm.MethodName)), (Jvm.Cond.instanceMethod ({ cls := "java/lang/StringBuilder", name := "length", desc := "()I" } : Jvm.MethodName)), (Jvm.Cond.methodLink "java/lang/StringBuilder" (343 : Nat) ({ cls := "java/lang/AbstractStringBuilder", name := "length", desc := "()I" } : Jvm.MethodName)), (Jvm.Cond.methodLink "java/lang/String" (1047 : Nat) ({ cls := "java/lang/AbstractStringBuilder", name := "isLatin1", desc := "()Z" } : Jvm.MethodName)), (Jvm.Cond.methodLink "java/lang/StringBuilder" (50 : Nat) ({ cls := "java/lang/AbstractStringBuilder", name := "append", desc := "(C)Ljava/lang/AbstractStringBuilder;" } : Jvm.MethodName)), (Jvm.Cond.instanceMethod ({ cls := "java/lang/AbstractStringBuilder", name := "append", desc := "(C)Ljava/lang/AbstractStringBuilder;" } : Jvm.MethodName)), (Jvm.Cond.sameMethod "java/lang/AbstractStringBuilder" "java/lang/AbstractStringBuilder" "setLength" "(I)V"), (Jvm.Cond.sameMethod "java/lang/AbstractStringBuilder" "java/lang/AbstractStringBuilder" "append" "(Ljava/lang/String;)Ljava/lang/AbstractStringBuilder;"), (Jvm.Cond.sameMethod "java/lang/AbstractStringBuilder" "java/lang/AbstractStringBuilder" "ensureCapacityInternal" "(I)V"), (Jvm.Cond.sameMethod "java/lang/AbstractStringBuilder" "java/lang/AbstractStringBuilder" "putStringAt" "(ILjava/lang/String;)V"), (Jvm.Cond.sameMethod "java/lang/AbstractStringBuilder" "java/lang/AbstractStringBuilder" "inflateIfNeededFor" "(Ljava/lang/String;)V"), (Jvm.Cond.sameMethod "java/lang/AbstractStringBuilder" "java/lang/AbstractStringBuilder" "append" "(I)Ljava/lang/AbstractStringBuilder;"), (Jvm.Cond.sameMethod "java/lang/AbstractStringBuilder" "java/lang/AbstractStringBuilder" "append" "(C)Ljava/lang/AbstractStringBuilder;")]
set_option maxRecDepth 100000 in
theorem gv_S : ∀ w ∈ gwl_S2, w ∈ xx_gws := xx_inT [564, 29, 18, 0, 13, 0, 5, 1, 26, 0, 1, 36, 1, 1, 1, 31, 0, 32, 0, 1, 1, 0, 0, 0, 0, 1, 1, 165, 0, 1407, 0, 1, 1, 0, 1, 1] rfl (by decide +kernel)
def xx_prv : List Cond := [(Jvm.Cond.privateMethod ({ cls := "java/lang/AbstractStringBuilder", name := "ensureCapacityInternal", desc := "(I)V" } : Jvm.MethodName)), (Jvm.Cond.privateMethod ({ cls := "java/lang/AbstractStringBuilder", name := "inflateIfNeededFor", desc := "(Ljava/lang/String;)V" } : Jvm.MethodName)), (Jvm.Cond.privateMethod ({ cls := "java/lang/AbstractStringBuilder", name := "putStringAt", desc := "(ILjava/lang/String;)V" } : Jvm.MethodName))]
theorem xx_prv_ok : ∀ w ∈ xx_prv, w ∈ xx_nws := by decide +kernel
theorem slc_J5_isLatin1_aae02 : xx_slc RJ4 yJ5_isLatin1_aae02 := ⟨(gv_S _ (List.mem_of_getElem? (i := 9) rfl)), .inl (gv_S _ (List.mem_of_getElem? (i := 10) rfl))⟩
theorem slc_J5_getValue_6d5f1 : xx_slc RJ4 yJ5_getValue_6d5f1 := ⟨(gv_S _ (List.mem_of_getElem? (i := 18) rfl)), .inl (gv_S _ (List.mem_of_getElem? (i := 19) rfl))⟩
theorem slc_J5_ensureCapacityInternal_d00df : xx_slc RJ4 yJ5_ensureCapacityInternal_d00df := ⟨(gv_S _ (List.mem_of_getElem? (i := 7) rfl)), .inr ⟨4, (gv_S _ (List.mem_of_getElem? (i := 0) rfl)), (gv_S _ (List.mem_of_getElem? (i := 31) rfl)), (xx_prv_ok _ (List.mem_of_getElem? (i := 0) rfl))⟩⟩
theorem slc_J5_inflateIfNeededFor_a7421 : xx_slc RJ4 yJ5_inflateIfNeededFor_a7421 := ⟨(gv_S _ (List.mem_of_getElem? (i := 14) rfl)), .inr ⟨4, (gv_S _ (List.mem_of_getElem? (i := 0) rfl)), (gv_S _ (List.mem_of_getElem? (i := 33) rfl)), (xx_prv_ok _ (List.mem_of_getElem? (i := 1) rfl))⟩⟩
theorem slc_J5_putStringAt_47b60 : xx_slc RJ4 yJ5_putStringAt_47b60 := ⟨(gv_S _ (List.mem_of_getElem? (i := 12) rfl)), .inr ⟨4, (gv_S _ (List.mem_of_getElem? (i := 0) rfl)), (gv_S _ (List.mem_of_getElem? (i := 32) rfl)), (xx_prv_ok _ (List.mem_of_getElem? (i := 2) rfl))⟩⟩
theorem su_J4_333 : xx_su RJ4 333 yJ5_setLength_d00df := ⟨(gv_S _ (List.mem_of_getElem? (i := 2) rfl)), (gv_S _ (List.mem_of_getElem? (i := 29) rfl)), (gv_S _ (List.mem_of_getElem? (i := 1) rfl)), (gv_S _ (List.mem_of_getElem? (i := 3) rfl)), by decide⟩
theorem su_J4_29 : xx_su RJ4 29 yJ5_append_cf1ce := ⟨(gv_S _ (List.mem_of_getElem? (i := 4) rfl)), (gv_S _ (List.mem_of_getElem? (i := 30) rfl)), (gv_S _ (List.mem_of_getElem? (i := 1) rfl)), (gv_S _ (List.mem_of_getElem? (i := 5) rfl)), by decide⟩
theorem su_J4_53 : xx_su RJ4 53 yJ5_append_c97b9 := ⟨(gv_S _ (List.mem_of_getElem? (i := 15) rfl)), (gv_S _ (List.mem_of_getElem? (i := 34) rfl)), (gv_S _ (List.mem_of_getElem? (i := 1) rfl)), (gv_S _ (List.mem_of_getElem? (i := 16) rfl)), by decide⟩
theorem su_J4_343 : xx_su RJ4 343 yJ5_length_8abf5 := ⟨(gv_S _ (List.mem_of_getElem? (i := 25) rfl)), (gv_S _ (List.mem_of_getElem? (i := 22) rfl)), (gv_S _ (List.mem_of_getElem? (i := 1) rfl)), (gv_S _ (List.mem_of_getElem? (i := 21) rfl)), by decide⟩
theorem su_J4_50 : xx_su RJ4 50 yJ5_append_3fe6f := ⟨(gv_S _ (List.mem_of_getElem? (i := 27) rfl)), (gv_S _ (List.mem_of_getElem? (i := 35) rfl)), (gv_S _ (List.mem_of_getElem? (i := 1) rfl)), (gv_S _ (List.mem_of_getElem? (i := 28) rfl)), by decide⟩
theorem ov_J0_549 : xx_ov RJ0 RJ4 549 yJ5_length_8abf5 yJ4_length_8abf5 m_J5_length_8abf5.2.1 m_J5_length_8abf5.2.2.1 m_J5_length_8abf5.2.2.2.1 := ⟨(gv_S _ (List.mem_of_getElem? (i := 20) rfl)), (gv_S _ (List.mem_of_getElem? (i := 22) rfl)), (gv_S _ (List.mem_of_getElem? (i := 21) rfl)), ce_J5_length_8abf5.1, (gv_S _ (List.mem_of_getElem? (i := 23) rfl)), (gv_S _ (List.mem_of_getElem? (i := 24) rfl)), ⟨by decide, by decide⟩, rfl⟩
theorem mk_J0_1047 : Cond.methodLink RJ0 1047 yJ5_isLatin1_aae02 ∈ xx_gws := (gv_S _ (List.mem_of_getElem? (i := 26) rfl))
theorem mk_J0_552 : Cond.methodLink RJ0 552 yJ5_getValue_6d5f1 ∈ xx_gws := (gv_S _ (List.mem_of_getElem? (i := 17) rfl))
theorem mk_J5_100 : Cond.methodLink RJ5 100 yJ5_ensureCapacityInternal_d00df ∈ xx_gws := (gv_S _ (List.mem_of_getElem? (i := 6) rfl))
theorem mk_J5_83 : Cond.methodLink RJ5 83 yJ5_isLatin1_aae02 ∈ xx_gws := (gv_S _ (List.mem_of_getElem? (i := 8) rfl))
theorem mk_J5_397 : Cond.methodLink RJ5 397 yJ5_inflateIfNeededFor_a7421 ∈ xx_gws := (gv_S _ (List.mem_of_getElem? (i := 13) rfl))
theorem mk_J5_208 : Cond.methodLink RJ5 208 yJ5_putStringAt_47b60 ∈ xx_gws := (gv_S _ (List.mem_of_getElem? (i := 11) rfl))
end
