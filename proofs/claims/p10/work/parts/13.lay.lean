/-! ===== the cells of the class, by their names ===== -/
abbrev XS9 : Type := Nat → Nat → Int32
def lyK (b i : Nat) (s : Nat → Int32) : Option XC := if 100 ≤ i then (if i = 100 then some (103, 60, fun k => .ref (b + 101 + k)) else if i ≤ 160 then some (100, 5, fun k => .int (s k)) else if i = 200 then some (103, 60, fun k => .ref (b + 201 + k)) else if 200 < i ∧ i ≤ 260 then some (100, 6, fun k => .int (s k)) else if i = 300 then some (103, 60, fun k => .ref (b + 301 + k)) else if 300 < i ∧ i ≤ 360 then some (100, 6, fun k => .int (s k)) else none) else match i with
  | 0 => some (7, 13, fun k => match k with | 0 => .ref (b + 1) | 1 => .ref (b + 2) | 2 => .ref (b + 3) | 3 => .ref (b + 4) | 4 => .ref (b + 5) | 5 => .ref (b + 6) | 6 => .ref (b + 100) | 7 => .ref (b + 200) | 8 => .ref (b + 300) | 9 => .int (s 9) | 10 => .ref (b + 7) | 11 => .ref (b + 8) | 12 => .int (s 12) | _ => .null)
  | 1 => some (100, 5, fun k => .int (s k))
  | 2 => some (100, 6, fun k => .int (s k))
  | 3 => some (100, 6, fun k => .int (s k))
  | 4 => some (100, 6, fun k => .int (s k))
  | 5 => some (100, 6, fun k => .int (s k))
  | 6 => some (100, 6, fun k => .int (s k))
  | 7 => some (100, 60, fun k => .int (s k))
  | 8 => some (100, 60, fun k => .int (s k))
  | _ => none
def lyC (r : Nat) (s : Nat → Int32) : Option XC := if 3000 ≤ r then lyK 3000 (r - 3000) s else if 2000 ≤ r then lyK 2000 (r - 2000) s else
  if 1021 < r ∧ r ≤ 1027 then some (100, 6, fun k => .int (s k)) else
  if 1030 < r ∧ r ≤ 1036 then some (100, 6, fun k => .int (s k)) else
  if 1050 < r ∧ r ≤ 1114 then some (100, 6, fun k => .int (s k)) else
  if 1120 < r ∧ r ≤ 1124 then some (100, 5, fun k => .int (s k)) else
  if 1130 < r ∧ r ≤ 1133 then some (100, 6, fun k => .int (s k)) else
  if 1140 < r ∧ r ≤ 1145 then some (100, 5, fun k => .int (s k)) else
  match r with
  | 1000 => some (13, 12, fun k => match k with | 0 => .ref 1001 | 1 => .ref 2000 | 2 => .ref 3000 | 3 => .ref 1003 | 4 => .ref 1004 | 5 => .ref 1005 | 6 => .ref 1006 | 7 => .int (s 7) | 8 => .int (s 8) | 9 => .int (s 9) | 10 => .int (s 10) | 11 => .int (s 11) | _ => .null)
  | 1001 => some (12, 12, fun k => match k with | 0 => .ref 1010 | 1 => .ref 1011 | 2 => .ref 1012 | 3 => .ref 1013 | 4 => .int (s 4) | 5 => .ref 1014 | 6 => .ref 1015 | 7 => .ref 1016 | 8 => .ref 1017 | 9 => .int (s 9) | 10 => .int (s 10) | 11 => .int (s 11) | _ => .null)
  | 1003 => some (8, 11, fun k => match k with | 0 => .ref 1020 | 1 => .ref 1021 | 2 => .ref 1030 | 3 => .ref 1040 | 4 => .ref 1041 | 5 => .int (s 5) | 6 => .ref 1042 | 7 => .ref 1050 | 8 => .ref 1043 | 9 => .ref 1044 | 10 => .ref 1120 | _ => .null)
  | 1004 => some (10, 1, fun k => match k with | 0 => .ref 1130 | _ => .null)
  | 1005 => some (9, 2, fun k => match k with | 0 => .ref 1140 | 1 => .int (s 1) | _ => .null)
  | 1006 => some (11, 5, fun k => match k with | 0 => .ref 1150 | 1 => .int (s 1) | 2 => .ref 1151 | 3 => .ref 1152 | 4 => .ref 1153 | _ => .null)
  | 1010 => some (100, 5, fun k => .int (s k))
  | 1011 => some (100, 5, fun k => .int (s k))
  | 1012 => some (100, 5, fun k => .int (s k))
  | 1013 => some (100, 5, fun k => .int (s k))
  | 1014 => some (100, 6, fun k => .int (s k))
  | 1015 => some (100, 6, fun k => .int (s k))
  | 1016 => some (100, 6, fun k => .int (s k))
  | 1017 => some (100, 6, fun k => .int (s k))
  | 1020 => some (100, 6, fun k => .int (s k))
  | 1040 => some (100, 6, fun k => .int (s k))
  | 1041 => some (100, 64, fun k => .int (s k))
  | 1042 => some (100, 64, fun k => .int (s k))
  | 1043 => some (100, 6, fun k => .int (s k))
  | 1044 => some (100, 5, fun k => .int (s k))
  | 1150 => some (100, 10, fun k => .int (s k))
  | 1151 => some (100, 10, fun k => .int (s k))
  | 1152 => some (100, 10, fun k => .int (s k))
  | 1153 => some (100, 6, fun k => .int (s k))
  | 1021 => some (103, 6, fun k => .ref (1022 + k))
  | 1030 => some (103, 6, fun k => .ref (1031 + k))
  | 1050 => some (103, 64, fun k => .ref (1051 + k))
  | 1120 => some (103, 4, fun k => .ref (1121 + k))
  | 1130 => some (103, 3, fun k => .ref (1131 + k))
  | 1140 => some (103, 5, fun k => .ref (1141 + k))
  | _ => none
def setC (σ : XS9) (h : XH) : XH := fun r => if 1000 ≤ r ∧ r < 4000 then lyC r (σ r) else h r
def u2 (σ : XS9) (r i : Nat) (x : Int32) : XS9 := fun q => if q = r then (fun j => if j = i then x else σ r j) else σ q
section
variable (σ : XS9) (h : XH)
theorem ly_1000 : setC σ h 1000 = some (13, 12, fun k => match k with | 0 => .ref 1001 | 1 => .ref 2000 | 2 => .ref 3000 | 3 => .ref 1003 | 4 => .ref 1004 | 5 => .ref 1005 | 6 => .ref 1006 | 7 => .int (σ 1000 7) | 8 => .int (σ 1000 8) | 9 => .int (σ 1000 9) | 10 => .int (σ 1000 10) | 11 => .int (σ 1000 11) | _ => .null) := rfl
theorem ly_1001 : setC σ h 1001 = some (12, 12, fun k => match k with | 0 => .ref 1010 | 1 => .ref 1011 | 2 => .ref 1012 | 3 => .ref 1013 | 4 => .int (σ 1001 4) | 5 => .ref 1014 | 6 => .ref 1015 | 7 => .ref 1016 | 8 => .ref 1017 | 9 => .int (σ 1001 9) | 10 => .int (σ 1001 10) | 11 => .int (σ 1001 11) | _ => .null) := rfl
theorem ly_1003 : setC σ h 1003 = some (8, 11, fun k => match k with | 0 => .ref 1020 | 1 => .ref 1021 | 2 => .ref 1030 | 3 => .ref 1040 | 4 => .ref 1041 | 5 => .int (σ 1003 5) | 6 => .ref 1042 | 7 => .ref 1050 | 8 => .ref 1043 | 9 => .ref 1044 | 10 => .ref 1120 | _ => .null) := rfl
theorem ly_1004 : setC σ h 1004 = some (10, 1, fun k => match k with | 0 => .ref 1130 | _ => .null) := rfl
theorem ly_1005 : setC σ h 1005 = some (9, 2, fun k => match k with | 0 => .ref 1140 | 1 => .int (σ 1005 1) | _ => .null) := rfl
theorem ly_1006 : setC σ h 1006 = some (11, 5, fun k => match k with | 0 => .ref 1150 | 1 => .int (σ 1006 1) | 2 => .ref 1151 | 3 => .ref 1152 | 4 => .ref 1153 | _ => .null) := rfl
theorem ly_1010 : setC σ h 1010 = some (100, 5, fun k => .int (σ 1010 k)) := rfl
theorem ly_1011 : setC σ h 1011 = some (100, 5, fun k => .int (σ 1011 k)) := rfl
theorem ly_1012 : setC σ h 1012 = some (100, 5, fun k => .int (σ 1012 k)) := rfl
theorem ly_1013 : setC σ h 1013 = some (100, 5, fun k => .int (σ 1013 k)) := rfl
theorem ly_1014 : setC σ h 1014 = some (100, 6, fun k => .int (σ 1014 k)) := rfl
theorem ly_1015 : setC σ h 1015 = some (100, 6, fun k => .int (σ 1015 k)) := rfl
theorem ly_1016 : setC σ h 1016 = some (100, 6, fun k => .int (σ 1016 k)) := rfl
theorem ly_1017 : setC σ h 1017 = some (100, 6, fun k => .int (σ 1017 k)) := rfl
theorem ly_1020 : setC σ h 1020 = some (100, 6, fun k => .int (σ 1020 k)) := rfl
theorem ly_1040 : setC σ h 1040 = some (100, 6, fun k => .int (σ 1040 k)) := rfl
theorem ly_1041 : setC σ h 1041 = some (100, 64, fun k => .int (σ 1041 k)) := rfl
theorem ly_1042 : setC σ h 1042 = some (100, 64, fun k => .int (σ 1042 k)) := rfl
theorem ly_1043 : setC σ h 1043 = some (100, 6, fun k => .int (σ 1043 k)) := rfl
theorem ly_1044 : setC σ h 1044 = some (100, 5, fun k => .int (σ 1044 k)) := rfl
theorem ly_1150 : setC σ h 1150 = some (100, 10, fun k => .int (σ 1150 k)) := rfl
theorem ly_1151 : setC σ h 1151 = some (100, 10, fun k => .int (σ 1151 k)) := rfl
theorem ly_1152 : setC σ h 1152 = some (100, 10, fun k => .int (σ 1152 k)) := rfl
theorem ly_1153 : setC σ h 1153 = some (100, 6, fun k => .int (σ 1153 k)) := rfl
theorem ly_1021 : setC σ h 1021 = some (103, 6, fun k => .ref (1022 + k)) := rfl
theorem lr_1021 {k : Nat} (hk : k < 6) : setC σ h (1022 + k) = some (100, 6, fun j => .int (σ (1022 + k) j)) := by
  unfold setC lyC
  rw [if_pos (by omega), if_neg (by omega), if_neg (by omega)]
  rw [if_pos (by omega)]
theorem ly_1030 : setC σ h 1030 = some (103, 6, fun k => .ref (1031 + k)) := rfl
theorem lr_1030 {k : Nat} (hk : k < 6) : setC σ h (1031 + k) = some (100, 6, fun j => .int (σ (1031 + k) j)) := by
  unfold setC lyC
  rw [if_pos (by omega), if_neg (by omega), if_neg (by omega)]
  rw [if_neg (by omega)]
  rw [if_pos (by omega)]
theorem ly_1050 : setC σ h 1050 = some (103, 64, fun k => .ref (1051 + k)) := rfl
theorem lr_1050 {k : Nat} (hk : k < 64) : setC σ h (1051 + k) = some (100, 6, fun j => .int (σ (1051 + k) j)) := by
  unfold setC lyC
  rw [if_pos (by omega), if_neg (by omega), if_neg (by omega)]
  rw [if_neg (by omega)]
  rw [if_neg (by omega)]
  rw [if_pos (by omega)]
theorem ly_1120 : setC σ h 1120 = some (103, 4, fun k => .ref (1121 + k)) := rfl
theorem lr_1120 {k : Nat} (hk : k < 4) : setC σ h (1121 + k) = some (100, 5, fun j => .int (σ (1121 + k) j)) := by
  unfold setC lyC
  rw [if_pos (by omega), if_neg (by omega), if_neg (by omega)]
  rw [if_neg (by omega)]
  rw [if_neg (by omega)]
  rw [if_neg (by omega)]
  rw [if_pos (by omega)]
theorem ly_1130 : setC σ h 1130 = some (103, 3, fun k => .ref (1131 + k)) := rfl
theorem lr_1130 {k : Nat} (hk : k < 3) : setC σ h (1131 + k) = some (100, 6, fun j => .int (σ (1131 + k) j)) := by
  unfold setC lyC
  rw [if_pos (by omega), if_neg (by omega), if_neg (by omega)]
  rw [if_neg (by omega)]
  rw [if_neg (by omega)]
  rw [if_neg (by omega)]
  rw [if_neg (by omega)]
  rw [if_pos (by omega)]
theorem ly_1140 : setC σ h 1140 = some (103, 5, fun k => .ref (1141 + k)) := rfl
theorem lr_1140 {k : Nat} (hk : k < 5) : setC σ h (1141 + k) = some (100, 5, fun j => .int (σ (1141 + k) j)) := by
  unfold setC lyC
  rw [if_pos (by omega), if_neg (by omega), if_neg (by omega)]
  rw [if_neg (by omega)]
  rw [if_neg (by omega)]
  rw [if_neg (by omega)]
  rw [if_neg (by omega)]
  rw [if_neg (by omega)]
  rw [if_pos (by omega)]
variable {b : Nat} (hb : b = 2000 ∨ b = 3000)
theorem lk_g (hb : b = 2000 ∨ b = 3000) {i : Nat} (hi : i < 1000) : setC σ h (b + i) = lyK b i (σ (b + i)) := by
  unfold setC lyC
  rw [if_pos (by omega)]
  rcases hb with rfl | rfl
  · rw [if_neg (by omega), if_pos (by omega), Nat.add_sub_cancel_left]
  · rw [if_pos (by omega), Nat.add_sub_cancel_left]
theorem lk_0 (hb : b = 2000 ∨ b = 3000) : setC σ h b = some (7, 13, fun k => match k with | 0 => .ref (b + 1) | 1 => .ref (b + 2) | 2 => .ref (b + 3) | 3 => .ref (b + 4) | 4 => .ref (b + 5) | 5 => .ref (b + 6) | 6 => .ref (b + 100) | 7 => .ref (b + 200) | 8 => .ref (b + 300) | 9 => .int (σ b 9) | 10 => .ref (b + 7) | 11 => .ref (b + 8) | 12 => .int (σ b 12) | _ => .null) := lk_g σ h hb (i := 0) (by omega)
theorem lk_1 (hb : b = 2000 ∨ b = 3000) : setC σ h (b + 1) = some (100, 5, fun k => .int (σ (b + 1) k)) := lk_g σ h hb (i := 1) (by omega)
theorem lk_2 (hb : b = 2000 ∨ b = 3000) : setC σ h (b + 2) = some (100, 6, fun k => .int (σ (b + 2) k)) := lk_g σ h hb (i := 2) (by omega)
theorem lk_3 (hb : b = 2000 ∨ b = 3000) : setC σ h (b + 3) = some (100, 6, fun k => .int (σ (b + 3) k)) := lk_g σ h hb (i := 3) (by omega)
theorem lk_4 (hb : b = 2000 ∨ b = 3000) : setC σ h (b + 4) = some (100, 6, fun k => .int (σ (b + 4) k)) := lk_g σ h hb (i := 4) (by omega)
theorem lk_5 (hb : b = 2000 ∨ b = 3000) : setC σ h (b + 5) = some (100, 6, fun k => .int (σ (b + 5) k)) := lk_g σ h hb (i := 5) (by omega)
theorem lk_6 (hb : b = 2000 ∨ b = 3000) : setC σ h (b + 6) = some (100, 6, fun k => .int (σ (b + 6) k)) := lk_g σ h hb (i := 6) (by omega)
theorem lk_7 (hb : b = 2000 ∨ b = 3000) : setC σ h (b + 7) = some (100, 60, fun k => .int (σ (b + 7) k)) := lk_g σ h hb (i := 7) (by omega)
theorem lk_8 (hb : b = 2000 ∨ b = 3000) : setC σ h (b + 8) = some (100, 60, fun k => .int (σ (b + 8) k)) := lk_g σ h hb (i := 8) (by omega)
theorem lk_100 (hb : b = 2000 ∨ b = 3000) : setC σ h (b + 100) = some (103, 60, fun k => .ref (b + 101 + k)) := lk_g σ h hb (i := 100) (by omega)
theorem lkr_100 (hb : b = 2000 ∨ b = 3000) {k : Nat} (hk : k < 60) : setC σ h (b + 101 + k) = some (100, 5, fun j => .int (σ (b + 101 + k) j)) := by
  rw [Nat.add_assoc, lk_g σ h hb (i := 101 + k) (by omega)]
  unfold lyK
  rw [if_pos (by omega), if_neg (by omega), if_pos (by omega)]
theorem lk_200 (hb : b = 2000 ∨ b = 3000) : setC σ h (b + 200) = some (103, 60, fun k => .ref (b + 201 + k)) := lk_g σ h hb (i := 200) (by omega)
theorem lkr_200 (hb : b = 2000 ∨ b = 3000) {k : Nat} (hk : k < 60) : setC σ h (b + 201 + k) = some (100, 6, fun j => .int (σ (b + 201 + k) j)) := by
  rw [Nat.add_assoc, lk_g σ h hb (i := 201 + k) (by omega)]
  unfold lyK
  rw [if_pos (by omega), if_neg (by omega), if_neg (by omega), if_neg (by omega), if_pos (by omega)]
theorem lk_300 (hb : b = 2000 ∨ b = 3000) : setC σ h (b + 300) = some (103, 60, fun k => .ref (b + 301 + k)) := lk_g σ h hb (i := 300) (by omega)
theorem lkr_300 (hb : b = 2000 ∨ b = 3000) {k : Nat} (hk : k < 60) : setC σ h (b + 301 + k) = some (100, 6, fun j => .int (σ (b + 301 + k) j)) := by
  rw [Nat.add_assoc, lk_g σ h hb (i := 301 + k) (by omega)]
  unfold lyK
  rw [if_pos (by omega), if_neg (by omega), if_neg (by omega), if_neg (by omega), if_neg (by omega), if_neg (by omega), if_pos (by omega)]
end
theorem u2_eq (σ : XS9) (r i : Nat) (x : Int32) : u2 σ r i x r = fun j => if j = i then x else σ r j := if_pos rfl
theorem u2_ne {σ : XS9} {r q i : Nat} {x : Int32} (e : q ≠ r) : u2 σ r i x q = σ q := if_neg e
/-- a write of an int into a cell whose contents are F of its ints -/
theorem put_g {σ : XS9} {h : XH} {r t n i : Nat} {x : Int32} {F : (Nat → Int32) → Nat → Value} (h1 : 1000 ≤ r ∧ r < 4000) (hl : ∀ s, lyC r s = some (t, n, F s)) (hF : ∀ s, updV (F s) i (.int x) = F (fun j => if j = i then x else s j)) : xx_up (setC σ h) r (t, n, updV (F (σ r)) i (.int x)) = setC (u2 σ r i x) h := by
  funext q
  unfold xx_up setC
  by_cases e : q = r
  · subst e
    rw [if_pos rfl, if_pos h1, u2_eq, hl, hF]
  · rw [if_neg e, u2_ne e]
theorem put_a {σ : XS9} {h : XH} {r n i : Nat} {x : Int32} (h1 : 1000 ≤ r ∧ r < 4000) (hl : ∀ s, lyC r s = some (100, n, fun k => .int (s k))) : xx_up (setC σ h) r (100, n, updV (fun k => .int (σ r k)) i (.int x)) = setC (u2 σ r i x) h :=
  put_g (F := fun s k => .int (s k)) h1 hl (fun s => by funext j; unfold updV; split <;> simp_all)
theorem pu_1000_7 {σ : XS9} {h : XH} {x : Int32} : xx_up (setC σ h) 1000 (13, 12, updV (fun k => match k with | 0 => .ref 1001 | 1 => .ref 2000 | 2 => .ref 3000 | 3 => .ref 1003 | 4 => .ref 1004 | 5 => .ref 1005 | 6 => .ref 1006 | 7 => .int (σ 1000 7) | 8 => .int (σ 1000 8) | 9 => .int (σ 1000 9) | 10 => .int (σ 1000 10) | 11 => .int (σ 1000 11) | _ => .null) 7 (.int x)) = setC (u2 σ 1000 7 x) h := by
  refine put_g (F := fun s => fun k => match k with | 0 => .ref 1001 | 1 => .ref 2000 | 2 => .ref 3000 | 3 => .ref 1003 | 4 => .ref 1004 | 5 => .ref 1005 | 6 => .ref 1006 | 7 => .int (s 7) | 8 => .int (s 8) | 9 => .int (s 9) | 10 => .int (s 10) | 11 => .int (s 11) | _ => .null) (by omega) (fun _ => rfl) (fun s => ?_)
  funext j
  unfold updV
  by_cases e : j = 7
  · subst e; rfl
  · rw [if_neg e]; split <;> simp_all
theorem pu_1000_8 {σ : XS9} {h : XH} {x : Int32} : xx_up (setC σ h) 1000 (13, 12, updV (fun k => match k with | 0 => .ref 1001 | 1 => .ref 2000 | 2 => .ref 3000 | 3 => .ref 1003 | 4 => .ref 1004 | 5 => .ref 1005 | 6 => .ref 1006 | 7 => .int (σ 1000 7) | 8 => .int (σ 1000 8) | 9 => .int (σ 1000 9) | 10 => .int (σ 1000 10) | 11 => .int (σ 1000 11) | _ => .null) 8 (.int x)) = setC (u2 σ 1000 8 x) h := by
  refine put_g (F := fun s => fun k => match k with | 0 => .ref 1001 | 1 => .ref 2000 | 2 => .ref 3000 | 3 => .ref 1003 | 4 => .ref 1004 | 5 => .ref 1005 | 6 => .ref 1006 | 7 => .int (s 7) | 8 => .int (s 8) | 9 => .int (s 9) | 10 => .int (s 10) | 11 => .int (s 11) | _ => .null) (by omega) (fun _ => rfl) (fun s => ?_)
  funext j
  unfold updV
  by_cases e : j = 8
  · subst e; rfl
  · rw [if_neg e]; split <;> simp_all
theorem pu_1000_9 {σ : XS9} {h : XH} {x : Int32} : xx_up (setC σ h) 1000 (13, 12, updV (fun k => match k with | 0 => .ref 1001 | 1 => .ref 2000 | 2 => .ref 3000 | 3 => .ref 1003 | 4 => .ref 1004 | 5 => .ref 1005 | 6 => .ref 1006 | 7 => .int (σ 1000 7) | 8 => .int (σ 1000 8) | 9 => .int (σ 1000 9) | 10 => .int (σ 1000 10) | 11 => .int (σ 1000 11) | _ => .null) 9 (.int x)) = setC (u2 σ 1000 9 x) h := by
  refine put_g (F := fun s => fun k => match k with | 0 => .ref 1001 | 1 => .ref 2000 | 2 => .ref 3000 | 3 => .ref 1003 | 4 => .ref 1004 | 5 => .ref 1005 | 6 => .ref 1006 | 7 => .int (s 7) | 8 => .int (s 8) | 9 => .int (s 9) | 10 => .int (s 10) | 11 => .int (s 11) | _ => .null) (by omega) (fun _ => rfl) (fun s => ?_)
  funext j
  unfold updV
  by_cases e : j = 9
  · subst e; rfl
  · rw [if_neg e]; split <;> simp_all
theorem pu_1000_10 {σ : XS9} {h : XH} {x : Int32} : xx_up (setC σ h) 1000 (13, 12, updV (fun k => match k with | 0 => .ref 1001 | 1 => .ref 2000 | 2 => .ref 3000 | 3 => .ref 1003 | 4 => .ref 1004 | 5 => .ref 1005 | 6 => .ref 1006 | 7 => .int (σ 1000 7) | 8 => .int (σ 1000 8) | 9 => .int (σ 1000 9) | 10 => .int (σ 1000 10) | 11 => .int (σ 1000 11) | _ => .null) 10 (.int x)) = setC (u2 σ 1000 10 x) h := by
  refine put_g (F := fun s => fun k => match k with | 0 => .ref 1001 | 1 => .ref 2000 | 2 => .ref 3000 | 3 => .ref 1003 | 4 => .ref 1004 | 5 => .ref 1005 | 6 => .ref 1006 | 7 => .int (s 7) | 8 => .int (s 8) | 9 => .int (s 9) | 10 => .int (s 10) | 11 => .int (s 11) | _ => .null) (by omega) (fun _ => rfl) (fun s => ?_)
  funext j
  unfold updV
  by_cases e : j = 10
  · subst e; rfl
  · rw [if_neg e]; split <;> simp_all
theorem pu_1000_11 {σ : XS9} {h : XH} {x : Int32} : xx_up (setC σ h) 1000 (13, 12, updV (fun k => match k with | 0 => .ref 1001 | 1 => .ref 2000 | 2 => .ref 3000 | 3 => .ref 1003 | 4 => .ref 1004 | 5 => .ref 1005 | 6 => .ref 1006 | 7 => .int (σ 1000 7) | 8 => .int (σ 1000 8) | 9 => .int (σ 1000 9) | 10 => .int (σ 1000 10) | 11 => .int (σ 1000 11) | _ => .null) 11 (.int x)) = setC (u2 σ 1000 11 x) h := by
  refine put_g (F := fun s => fun k => match k with | 0 => .ref 1001 | 1 => .ref 2000 | 2 => .ref 3000 | 3 => .ref 1003 | 4 => .ref 1004 | 5 => .ref 1005 | 6 => .ref 1006 | 7 => .int (s 7) | 8 => .int (s 8) | 9 => .int (s 9) | 10 => .int (s 10) | 11 => .int (s 11) | _ => .null) (by omega) (fun _ => rfl) (fun s => ?_)
  funext j
  unfold updV
  by_cases e : j = 11
  · subst e; rfl
  · rw [if_neg e]; split <;> simp_all
theorem pu_1001_4 {σ : XS9} {h : XH} {x : Int32} : xx_up (setC σ h) 1001 (12, 12, updV (fun k => match k with | 0 => .ref 1010 | 1 => .ref 1011 | 2 => .ref 1012 | 3 => .ref 1013 | 4 => .int (σ 1001 4) | 5 => .ref 1014 | 6 => .ref 1015 | 7 => .ref 1016 | 8 => .ref 1017 | 9 => .int (σ 1001 9) | 10 => .int (σ 1001 10) | 11 => .int (σ 1001 11) | _ => .null) 4 (.int x)) = setC (u2 σ 1001 4 x) h := by
  refine put_g (F := fun s => fun k => match k with | 0 => .ref 1010 | 1 => .ref 1011 | 2 => .ref 1012 | 3 => .ref 1013 | 4 => .int (s 4) | 5 => .ref 1014 | 6 => .ref 1015 | 7 => .ref 1016 | 8 => .ref 1017 | 9 => .int (s 9) | 10 => .int (s 10) | 11 => .int (s 11) | _ => .null) (by omega) (fun _ => rfl) (fun s => ?_)
  funext j
  unfold updV
  by_cases e : j = 4
  · subst e; rfl
  · rw [if_neg e]; split <;> simp_all
theorem pu_1001_9 {σ : XS9} {h : XH} {x : Int32} : xx_up (setC σ h) 1001 (12, 12, updV (fun k => match k with | 0 => .ref 1010 | 1 => .ref 1011 | 2 => .ref 1012 | 3 => .ref 1013 | 4 => .int (σ 1001 4) | 5 => .ref 1014 | 6 => .ref 1015 | 7 => .ref 1016 | 8 => .ref 1017 | 9 => .int (σ 1001 9) | 10 => .int (σ 1001 10) | 11 => .int (σ 1001 11) | _ => .null) 9 (.int x)) = setC (u2 σ 1001 9 x) h := by
  refine put_g (F := fun s => fun k => match k with | 0 => .ref 1010 | 1 => .ref 1011 | 2 => .ref 1012 | 3 => .ref 1013 | 4 => .int (s 4) | 5 => .ref 1014 | 6 => .ref 1015 | 7 => .ref 1016 | 8 => .ref 1017 | 9 => .int (s 9) | 10 => .int (s 10) | 11 => .int (s 11) | _ => .null) (by omega) (fun _ => rfl) (fun s => ?_)
  funext j
  unfold updV
  by_cases e : j = 9
  · subst e; rfl
  · rw [if_neg e]; split <;> simp_all
theorem pu_1001_10 {σ : XS9} {h : XH} {x : Int32} : xx_up (setC σ h) 1001 (12, 12, updV (fun k => match k with | 0 => .ref 1010 | 1 => .ref 1011 | 2 => .ref 1012 | 3 => .ref 1013 | 4 => .int (σ 1001 4) | 5 => .ref 1014 | 6 => .ref 1015 | 7 => .ref 1016 | 8 => .ref 1017 | 9 => .int (σ 1001 9) | 10 => .int (σ 1001 10) | 11 => .int (σ 1001 11) | _ => .null) 10 (.int x)) = setC (u2 σ 1001 10 x) h := by
  refine put_g (F := fun s => fun k => match k with | 0 => .ref 1010 | 1 => .ref 1011 | 2 => .ref 1012 | 3 => .ref 1013 | 4 => .int (s 4) | 5 => .ref 1014 | 6 => .ref 1015 | 7 => .ref 1016 | 8 => .ref 1017 | 9 => .int (s 9) | 10 => .int (s 10) | 11 => .int (s 11) | _ => .null) (by omega) (fun _ => rfl) (fun s => ?_)
  funext j
  unfold updV
  by_cases e : j = 10
  · subst e; rfl
  · rw [if_neg e]; split <;> simp_all
theorem pu_1001_11 {σ : XS9} {h : XH} {x : Int32} : xx_up (setC σ h) 1001 (12, 12, updV (fun k => match k with | 0 => .ref 1010 | 1 => .ref 1011 | 2 => .ref 1012 | 3 => .ref 1013 | 4 => .int (σ 1001 4) | 5 => .ref 1014 | 6 => .ref 1015 | 7 => .ref 1016 | 8 => .ref 1017 | 9 => .int (σ 1001 9) | 10 => .int (σ 1001 10) | 11 => .int (σ 1001 11) | _ => .null) 11 (.int x)) = setC (u2 σ 1001 11 x) h := by
  refine put_g (F := fun s => fun k => match k with | 0 => .ref 1010 | 1 => .ref 1011 | 2 => .ref 1012 | 3 => .ref 1013 | 4 => .int (s 4) | 5 => .ref 1014 | 6 => .ref 1015 | 7 => .ref 1016 | 8 => .ref 1017 | 9 => .int (s 9) | 10 => .int (s 10) | 11 => .int (s 11) | _ => .null) (by omega) (fun _ => rfl) (fun s => ?_)
  funext j
  unfold updV
  by_cases e : j = 11
  · subst e; rfl
  · rw [if_neg e]; split <;> simp_all
theorem pu_1003_5 {σ : XS9} {h : XH} {x : Int32} : xx_up (setC σ h) 1003 (8, 11, updV (fun k => match k with | 0 => .ref 1020 | 1 => .ref 1021 | 2 => .ref 1030 | 3 => .ref 1040 | 4 => .ref 1041 | 5 => .int (σ 1003 5) | 6 => .ref 1042 | 7 => .ref 1050 | 8 => .ref 1043 | 9 => .ref 1044 | 10 => .ref 1120 | _ => .null) 5 (.int x)) = setC (u2 σ 1003 5 x) h := by
  refine put_g (F := fun s => fun k => match k with | 0 => .ref 1020 | 1 => .ref 1021 | 2 => .ref 1030 | 3 => .ref 1040 | 4 => .ref 1041 | 5 => .int (s 5) | 6 => .ref 1042 | 7 => .ref 1050 | 8 => .ref 1043 | 9 => .ref 1044 | 10 => .ref 1120 | _ => .null) (by omega) (fun _ => rfl) (fun s => ?_)
  funext j
  unfold updV
  by_cases e : j = 5
  · subst e; rfl
  · rw [if_neg e]; split <;> simp_all
theorem pu_1005_1 {σ : XS9} {h : XH} {x : Int32} : xx_up (setC σ h) 1005 (9, 2, updV (fun k => match k with | 0 => .ref 1140 | 1 => .int (σ 1005 1) | _ => .null) 1 (.int x)) = setC (u2 σ 1005 1 x) h := by
  refine put_g (F := fun s => fun k => match k with | 0 => .ref 1140 | 1 => .int (s 1) | _ => .null) (by omega) (fun _ => rfl) (fun s => ?_)
  funext j
  unfold updV
  by_cases e : j = 1
  · subst e; rfl
  · rw [if_neg e]; split <;> simp_all
theorem pu_1006_1 {σ : XS9} {h : XH} {x : Int32} : xx_up (setC σ h) 1006 (11, 5, updV (fun k => match k with | 0 => .ref 1150 | 1 => .int (σ 1006 1) | 2 => .ref 1151 | 3 => .ref 1152 | 4 => .ref 1153 | _ => .null) 1 (.int x)) = setC (u2 σ 1006 1 x) h := by
  refine put_g (F := fun s => fun k => match k with | 0 => .ref 1150 | 1 => .int (s 1) | 2 => .ref 1151 | 3 => .ref 1152 | 4 => .ref 1153 | _ => .null) (by omega) (fun _ => rfl) (fun s => ?_)
  funext j
  unfold updV
  by_cases e : j = 1
  · subst e; rfl
  · rw [if_neg e]; split <;> simp_all
theorem pa_1010 {σ : XS9} {h : XH} {i : Nat} {x : Int32} : xx_up (setC σ h) 1010 (100, 5, updV (fun k => .int (σ 1010 k)) i (.int x)) = setC (u2 σ 1010 i x) h := put_a (by omega) (fun _ => rfl)
theorem pa_1011 {σ : XS9} {h : XH} {i : Nat} {x : Int32} : xx_up (setC σ h) 1011 (100, 5, updV (fun k => .int (σ 1011 k)) i (.int x)) = setC (u2 σ 1011 i x) h := put_a (by omega) (fun _ => rfl)
theorem pa_1012 {σ : XS9} {h : XH} {i : Nat} {x : Int32} : xx_up (setC σ h) 1012 (100, 5, updV (fun k => .int (σ 1012 k)) i (.int x)) = setC (u2 σ 1012 i x) h := put_a (by omega) (fun _ => rfl)
theorem pa_1013 {σ : XS9} {h : XH} {i : Nat} {x : Int32} : xx_up (setC σ h) 1013 (100, 5, updV (fun k => .int (σ 1013 k)) i (.int x)) = setC (u2 σ 1013 i x) h := put_a (by omega) (fun _ => rfl)
theorem pa_1014 {σ : XS9} {h : XH} {i : Nat} {x : Int32} : xx_up (setC σ h) 1014 (100, 6, updV (fun k => .int (σ 1014 k)) i (.int x)) = setC (u2 σ 1014 i x) h := put_a (by omega) (fun _ => rfl)
theorem pa_1015 {σ : XS9} {h : XH} {i : Nat} {x : Int32} : xx_up (setC σ h) 1015 (100, 6, updV (fun k => .int (σ 1015 k)) i (.int x)) = setC (u2 σ 1015 i x) h := put_a (by omega) (fun _ => rfl)
theorem pa_1016 {σ : XS9} {h : XH} {i : Nat} {x : Int32} : xx_up (setC σ h) 1016 (100, 6, updV (fun k => .int (σ 1016 k)) i (.int x)) = setC (u2 σ 1016 i x) h := put_a (by omega) (fun _ => rfl)
theorem pa_1017 {σ : XS9} {h : XH} {i : Nat} {x : Int32} : xx_up (setC σ h) 1017 (100, 6, updV (fun k => .int (σ 1017 k)) i (.int x)) = setC (u2 σ 1017 i x) h := put_a (by omega) (fun _ => rfl)
theorem pa_1020 {σ : XS9} {h : XH} {i : Nat} {x : Int32} : xx_up (setC σ h) 1020 (100, 6, updV (fun k => .int (σ 1020 k)) i (.int x)) = setC (u2 σ 1020 i x) h := put_a (by omega) (fun _ => rfl)
theorem pa_1040 {σ : XS9} {h : XH} {i : Nat} {x : Int32} : xx_up (setC σ h) 1040 (100, 6, updV (fun k => .int (σ 1040 k)) i (.int x)) = setC (u2 σ 1040 i x) h := put_a (by omega) (fun _ => rfl)
theorem pa_1041 {σ : XS9} {h : XH} {i : Nat} {x : Int32} : xx_up (setC σ h) 1041 (100, 64, updV (fun k => .int (σ 1041 k)) i (.int x)) = setC (u2 σ 1041 i x) h := put_a (by omega) (fun _ => rfl)
theorem pa_1042 {σ : XS9} {h : XH} {i : Nat} {x : Int32} : xx_up (setC σ h) 1042 (100, 64, updV (fun k => .int (σ 1042 k)) i (.int x)) = setC (u2 σ 1042 i x) h := put_a (by omega) (fun _ => rfl)
theorem pa_1043 {σ : XS9} {h : XH} {i : Nat} {x : Int32} : xx_up (setC σ h) 1043 (100, 6, updV (fun k => .int (σ 1043 k)) i (.int x)) = setC (u2 σ 1043 i x) h := put_a (by omega) (fun _ => rfl)
theorem pa_1044 {σ : XS9} {h : XH} {i : Nat} {x : Int32} : xx_up (setC σ h) 1044 (100, 5, updV (fun k => .int (σ 1044 k)) i (.int x)) = setC (u2 σ 1044 i x) h := put_a (by omega) (fun _ => rfl)
theorem pa_1150 {σ : XS9} {h : XH} {i : Nat} {x : Int32} : xx_up (setC σ h) 1150 (100, 10, updV (fun k => .int (σ 1150 k)) i (.int x)) = setC (u2 σ 1150 i x) h := put_a (by omega) (fun _ => rfl)
theorem pa_1151 {σ : XS9} {h : XH} {i : Nat} {x : Int32} : xx_up (setC σ h) 1151 (100, 10, updV (fun k => .int (σ 1151 k)) i (.int x)) = setC (u2 σ 1151 i x) h := put_a (by omega) (fun _ => rfl)
theorem pa_1152 {σ : XS9} {h : XH} {i : Nat} {x : Int32} : xx_up (setC σ h) 1152 (100, 10, updV (fun k => .int (σ 1152 k)) i (.int x)) = setC (u2 σ 1152 i x) h := put_a (by omega) (fun _ => rfl)
theorem pa_1153 {σ : XS9} {h : XH} {i : Nat} {x : Int32} : xx_up (setC σ h) 1153 (100, 6, updV (fun k => .int (σ 1153 k)) i (.int x)) = setC (u2 σ 1153 i x) h := put_a (by omega) (fun _ => rfl)
theorem pr_1021 {σ : XS9} {h : XH} {k i : Nat} {x : Int32} (hk : k < 6) : xx_up (setC σ h) (1022 + k) (100, 6, updV (fun j => .int (σ (1022 + k) j)) i (.int x)) = setC (u2 σ (1022 + k) i x) h := put_a (by omega) (fun s => by
  have := lr_1021 (fun _ => s) (fun _ => none) hk
  unfold setC at this
  rw [if_pos (by omega)] at this
  exact this)
theorem pr_1030 {σ : XS9} {h : XH} {k i : Nat} {x : Int32} (hk : k < 6) : xx_up (setC σ h) (1031 + k) (100, 6, updV (fun j => .int (σ (1031 + k) j)) i (.int x)) = setC (u2 σ (1031 + k) i x) h := put_a (by omega) (fun s => by
  have := lr_1030 (fun _ => s) (fun _ => none) hk
  unfold setC at this
  rw [if_pos (by omega)] at this
  exact this)
theorem pr_1050 {σ : XS9} {h : XH} {k i : Nat} {x : Int32} (hk : k < 64) : xx_up (setC σ h) (1051 + k) (100, 6, updV (fun j => .int (σ (1051 + k) j)) i (.int x)) = setC (u2 σ (1051 + k) i x) h := put_a (by omega) (fun s => by
  have := lr_1050 (fun _ => s) (fun _ => none) hk
  unfold setC at this
  rw [if_pos (by omega)] at this
  exact this)
theorem pr_1120 {σ : XS9} {h : XH} {k i : Nat} {x : Int32} (hk : k < 4) : xx_up (setC σ h) (1121 + k) (100, 5, updV (fun j => .int (σ (1121 + k) j)) i (.int x)) = setC (u2 σ (1121 + k) i x) h := put_a (by omega) (fun s => by
  have := lr_1120 (fun _ => s) (fun _ => none) hk
  unfold setC at this
  rw [if_pos (by omega)] at this
  exact this)
theorem pr_1130 {σ : XS9} {h : XH} {k i : Nat} {x : Int32} (hk : k < 3) : xx_up (setC σ h) (1131 + k) (100, 6, updV (fun j => .int (σ (1131 + k) j)) i (.int x)) = setC (u2 σ (1131 + k) i x) h := put_a (by omega) (fun s => by
  have := lr_1130 (fun _ => s) (fun _ => none) hk
  unfold setC at this
  rw [if_pos (by omega)] at this
  exact this)
theorem pr_1140 {σ : XS9} {h : XH} {k i : Nat} {x : Int32} (hk : k < 5) : xx_up (setC σ h) (1141 + k) (100, 5, updV (fun j => .int (σ (1141 + k) j)) i (.int x)) = setC (u2 σ (1141 + k) i x) h := put_a (by omega) (fun s => by
  have := lr_1140 (fun _ => s) (fun _ => none) hk
  unfold setC at this
  rw [if_pos (by omega)] at this
  exact this)
theorem pk_a1 {σ : XS9} {h : XH} {b i : Nat} {x : Int32} (hb : b = 2000 ∨ b = 3000) : xx_up (setC σ h) (b + 1) (100, 5, updV (fun k => .int (σ (b + 1) k)) i (.int x)) = setC (u2 σ (b + 1) i x) h := put_a (by omega) (fun s => by rcases hb with rfl | rfl <;> rfl)
theorem pk_a2 {σ : XS9} {h : XH} {b i : Nat} {x : Int32} (hb : b = 2000 ∨ b = 3000) : xx_up (setC σ h) (b + 2) (100, 6, updV (fun k => .int (σ (b + 2) k)) i (.int x)) = setC (u2 σ (b + 2) i x) h := put_a (by omega) (fun s => by rcases hb with rfl | rfl <;> rfl)
theorem pk_a3 {σ : XS9} {h : XH} {b i : Nat} {x : Int32} (hb : b = 2000 ∨ b = 3000) : xx_up (setC σ h) (b + 3) (100, 6, updV (fun k => .int (σ (b + 3) k)) i (.int x)) = setC (u2 σ (b + 3) i x) h := put_a (by omega) (fun s => by rcases hb with rfl | rfl <;> rfl)
theorem pk_a4 {σ : XS9} {h : XH} {b i : Nat} {x : Int32} (hb : b = 2000 ∨ b = 3000) : xx_up (setC σ h) (b + 4) (100, 6, updV (fun k => .int (σ (b + 4) k)) i (.int x)) = setC (u2 σ (b + 4) i x) h := put_a (by omega) (fun s => by rcases hb with rfl | rfl <;> rfl)
theorem pk_a5 {σ : XS9} {h : XH} {b i : Nat} {x : Int32} (hb : b = 2000 ∨ b = 3000) : xx_up (setC σ h) (b + 5) (100, 6, updV (fun k => .int (σ (b + 5) k)) i (.int x)) = setC (u2 σ (b + 5) i x) h := put_a (by omega) (fun s => by rcases hb with rfl | rfl <;> rfl)
theorem pk_a6 {σ : XS9} {h : XH} {b i : Nat} {x : Int32} (hb : b = 2000 ∨ b = 3000) : xx_up (setC σ h) (b + 6) (100, 6, updV (fun k => .int (σ (b + 6) k)) i (.int x)) = setC (u2 σ (b + 6) i x) h := put_a (by omega) (fun s => by rcases hb with rfl | rfl <;> rfl)
theorem pk_a7 {σ : XS9} {h : XH} {b i : Nat} {x : Int32} (hb : b = 2000 ∨ b = 3000) : xx_up (setC σ h) (b + 7) (100, 60, updV (fun k => .int (σ (b + 7) k)) i (.int x)) = setC (u2 σ (b + 7) i x) h := put_a (by omega) (fun s => by rcases hb with rfl | rfl <;> rfl)
theorem pk_a8 {σ : XS9} {h : XH} {b i : Nat} {x : Int32} (hb : b = 2000 ∨ b = 3000) : xx_up (setC σ h) (b + 8) (100, 60, updV (fun k => .int (σ (b + 8) k)) i (.int x)) = setC (u2 σ (b + 8) i x) h := put_a (by omega) (fun s => by rcases hb with rfl | rfl <;> rfl)
theorem pk_r100 {σ : XS9} {h : XH} {b k i : Nat} {x : Int32} (hb : b = 2000 ∨ b = 3000) (hk : k < 60) : xx_up (setC σ h) (b + 101 + k) (100, 5, updV (fun j => .int (σ (b + 101 + k) j)) i (.int x)) = setC (u2 σ (b + 101 + k) i x) h := put_a (by omega) (fun s => by
  have := lkr_100 (fun _ => s) (fun _ => none) hb hk
  unfold setC at this
  rw [if_pos (by omega)] at this
  exact this)
theorem pk_r200 {σ : XS9} {h : XH} {b k i : Nat} {x : Int32} (hb : b = 2000 ∨ b = 3000) (hk : k < 60) : xx_up (setC σ h) (b + 201 + k) (100, 6, updV (fun j => .int (σ (b + 201 + k) j)) i (.int x)) = setC (u2 σ (b + 201 + k) i x) h := put_a (by omega) (fun s => by
  have := lkr_200 (fun _ => s) (fun _ => none) hb hk
  unfold setC at this
  rw [if_pos (by omega)] at this
  exact this)
theorem pk_r300 {σ : XS9} {h : XH} {b k i : Nat} {x : Int32} (hb : b = 2000 ∨ b = 3000) (hk : k < 60) : xx_up (setC σ h) (b + 301 + k) (100, 6, updV (fun j => .int (σ (b + 301 + k) j)) i (.int x)) = setC (u2 σ (b + 301 + k) i x) h := put_a (by omega) (fun s => by
  have := lkr_300 (fun _ => s) (fun _ => none) hb hk
  unfold setC at this
  rw [if_pos (by omega)] at this
  exact this)
theorem pk_f9 {σ : XS9} {h : XH} {b : Nat} {x : Int32} (hb : b = 2000 ∨ b = 3000) : xx_up (setC σ h) b (7, 13, updV (fun k => match k with | 0 => .ref (b + 1) | 1 => .ref (b + 2) | 2 => .ref (b + 3) | 3 => .ref (b + 4) | 4 => .ref (b + 5) | 5 => .ref (b + 6) | 6 => .ref (b + 100) | 7 => .ref (b + 200) | 8 => .ref (b + 300) | 9 => .int (σ b 9) | 10 => .ref (b + 7) | 11 => .ref (b + 8) | 12 => .int (σ b 12) | _ => .null) 9 (.int x)) = setC (u2 σ b 9 x) h := by
  refine put_g (F := fun s => fun k => match k with | 0 => .ref (b + 1) | 1 => .ref (b + 2) | 2 => .ref (b + 3) | 3 => .ref (b + 4) | 4 => .ref (b + 5) | 5 => .ref (b + 6) | 6 => .ref (b + 100) | 7 => .ref (b + 200) | 8 => .ref (b + 300) | 9 => .int (s 9) | 10 => .ref (b + 7) | 11 => .ref (b + 8) | 12 => .int (s 12) | _ => .null) (by omega) (fun s => by rcases hb with rfl | rfl <;> rfl) (fun s => ?_)
  funext j
  unfold updV
  by_cases e : j = 9
  · subst e; rfl
  · rw [if_neg e]; split <;> simp_all
theorem pk_f12 {σ : XS9} {h : XH} {b : Nat} {x : Int32} (hb : b = 2000 ∨ b = 3000) : xx_up (setC σ h) b (7, 13, updV (fun k => match k with | 0 => .ref (b + 1) | 1 => .ref (b + 2) | 2 => .ref (b + 3) | 3 => .ref (b + 4) | 4 => .ref (b + 5) | 5 => .ref (b + 6) | 6 => .ref (b + 100) | 7 => .ref (b + 200) | 8 => .ref (b + 300) | 9 => .int (σ b 9) | 10 => .ref (b + 7) | 11 => .ref (b + 8) | 12 => .int (σ b 12) | _ => .null) 12 (.int x)) = setC (u2 σ b 12 x) h := by
  refine put_g (F := fun s => fun k => match k with | 0 => .ref (b + 1) | 1 => .ref (b + 2) | 2 => .ref (b + 3) | 3 => .ref (b + 4) | 4 => .ref (b + 5) | 5 => .ref (b + 6) | 6 => .ref (b + 100) | 7 => .ref (b + 200) | 8 => .ref (b + 300) | 9 => .int (s 9) | 10 => .ref (b + 7) | 11 => .ref (b + 8) | 12 => .int (s 12) | _ => .null) (by omega) (fun s => by rcases hb with rfl | rfl <;> rfl) (fun s => ?_)
  funext j
  unfold updV
  by_cases e : j = 12
  · subst e; rfl
  · rw [if_neg e]; split <;> simp_all
