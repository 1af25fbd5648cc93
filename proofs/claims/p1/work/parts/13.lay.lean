section
/-! ===== the cells of the class, by their names ===== -/
abbrev XS9 : Type := Nat → Nat → Int32
def lyK (b i : Nat) (s : Nat → Int32) : Option XC := if 100 ≤ i then (if i = 100 then some (103, 60, fun k => .ref (b + 101 + k)) else if i ≤ 160 then some (100, 5, fun k => .int (s k)) else if i = 200 then some (103, 60, fun k => .ref (b + 201 + k)) else if 200 < i ∧ i ≤ 260 then some (100, 6, fun k => .int (s k)) else if i = 300 then some (103, 60, fun k => .ref (b + 301 + k)) else if 300 < i ∧ i ≤ 360 then some (100, 6, fun k => .int (s k)) else none) else match i with
  | 0 => some (7, 13, fun k => match k with | 0 => .ref (b + 1) | 1 => .ref (b + 2) | 2 => .ref (b + 3) | 3 => .ref (b + 4) | 4 => .ref (b + 5) | 5 => .ref (b + 6) | 6 => .ref (b + 100) | 7 => .ref (b + 200) | 8 => .ref (b + 300) | 9 => .int (s 9) | 10 => .ref (b + 7) | 11 => .ref (b + 8) | 12 => .int (s 12) | _ => .null)
  | 1 => some (100, 5, fun k => .int (s k))
  | 2 => some (100, 6, fun k => .int (s k))
  | 3 => some (100, 6, fun k => .int (s k))
  | 4 => some (100, 6, fun k => .int (s k))
  | 5 => some (100, 6, fun k => .int (s k))
  | 6 => some (100, 6, fun k => .int (s k))
  | 7 => some (100, 60, fun k => .int (s k))
  | 8 => some (100, 60, fun k => .int (s k))
  | _ => none
def lyC (r : Nat) (s : Nat → Int32) : Option XC := if 3000 ≤ r then lyK 3000 (r - 3000) s else if 2000 ≤ r then lyK 2000 (r - 2000) s else
  if 1021 < r ∧ r ≤ 1027 then some (100, 6, fun k => .int (s k)) else
  if 1030 < r ∧ r ≤ 1036 then some (100, 6, fun k => .int (s k)) else
  if 1050 < r ∧ r ≤ 1114 then some (100, 6, fun k => .int (s k)) else
  if 1120 < r ∧ r ≤ 1124 then some (100, 5, fun k => .int (s k)) else
  if 1130 < r ∧ r ≤ 1133 then some (100, 6, fun k => .int (s k)) else
  if 1140 < r ∧ r ≤ 1145 then some (100, 5, fun k => .int (s k)) else
  match r with
  | 1000 => some (13, 12, fun k => match k with | 0 => .ref 1001 | 1 => .ref 2000 | 2 => .ref 3000 | 3 => .ref 1003 | 4 => .ref 1004 | 5 => .ref 1005 | 6 => .ref 1006 | 7 => .int (s 7) | 8 => .int (s 8) | 9 => .int (s 9) | 10 => .int (s 10) | 11 => .int (s 11) | _ => .null)
  | 1001 => some (12, 12, fun k => match k with | 0 => .ref 1010 | 1 => .ref 1011 | 2 => .ref 1012 | 3 => .ref 1013 | 4 => .int (s 4) | 5 => .ref 1014 | 6 => .ref 1015 | 7 => .ref 1016 | 8 => .ref 1017 | 9 => .int (s 9) | 10 => .int (s 10) | 11 => .int (s 11) | _ => .null)
  | 1003 => some (8, 11, fun k => match k with | 0 => .ref 1020 | 1 => .ref 1021 | 2 => .ref 1030 | 3 => .ref 1040 | 4 => .ref 1041 | 5 => .int (s 5) | 6 => .ref 1042 | 7 => .ref 1050 | 8 => .ref 1043 | 9 => .ref 1044 | 10 => .ref 1120 | _ => .null)
  | 1004 => some (10, 1, fun k => match k with | 0 => .ref 1130 | _ => .null)
  | 1005 => some (9, 2, fun k => match k with | 0 => .ref 1140 | 1 => .int (s 1) | _ => .null)
  | 1006 => some (11, 5, fun k => match k with | 0 => .ref 1150 | 1 => .int (s 1) | 2 => .ref 1151 | 3 => .ref 1152 | 4 => .ref 1153 | _ => .null)
  | 1010 => some (100, 5, fun k => .int (s k))
  | 1011 => some (100, 5, fun k => .int (s k))
  | 1012 => some (100, 5, fun k => .int (s k))
  | 1013 => some (100, 5, fun k => .int (s k))
  | 1014 => some (100, 6, fun k => .int (s k))
  | 1015 => some (100, 6, fun k => .int (s k))
  | 1016 => some (100, 6, fun k => .int (s k))
  | 1017 => some (100, 6, fun k => .int (s k))
  | 1020 => some (100, 6, fun k => .int (s k))
  | 1040 => some (100, 6, fun k => .int (s k))
  | 1041 => some (100, 64, fun k => .int (s k))
  | 1042 => some (100, 64, fun k => .int (s k))
  | 1043 => some (100, 6, fun k => .int (s k))
  | 1044 => some (100, 5, fun k => .int (s k))
  | 1150 => some (100, 10, fun k => .int (s k))
  | 1151 => some (100, 10, fun k => .int (s k))
  | 1152 => some (100, 10, fun k => .int (s k))
  | 1153 => some (100, 6, fun k => .int (s k))
  | 1021 => some (103, 6, fun k => .ref (1022 + k))
  | 1030 => some (103, 6, fun k => .ref (1031 + k))
  | 1050 => some (103, 64, fun k => .ref (1051 + k))
  | 1120 => some (103, 4, fun k => .ref (1121 + k))
  | 1130 => some (103, 3, fun k => .ref (1131 + k))
  | 1140 => some (103, 5, fun k => .ref (1141 + k))
  | _ => none
def setC (σ : XS9) (h : XH) : XH := fun r => if 1000 ≤ r ∧ r < 4000 then lyC r (σ r) else h r
def u2 (σ : XS9) (r i : Nat) (x : Int32) : XS9 := fun q => if q = r then (fun j => if j = i then x else σ r j) else σ q
section
variable (σ : XS9) (h : XH)
theorem ly_1000 : setC σ h 1000 = some (13, 12, fun k => match k with | 0 => .ref 1001 | 1 => .ref 2000 | 2 => .ref 3000 | 3 => .ref 1003 | 4 => .ref 1004 | 5 => .ref 1005 | 6 => .ref 1006 | 7 => .int (σ 1000 7) | 8 => .int (σ 1000 8) | 9 => .int (σ 1000 9) | 10 => .int (σ 1000 10) | 11 => .int (σ 1000 11) | _ => .null) := rfl
theorem ly_1001 : setC σ h 1001 = some (12, 12, fun k => match k with | 0 => .ref 1010 | 1 => .ref 1011 | 2 => .ref 1012 | 3 => .ref 1013 | 4 => .int (σ 1001 4) | 5 => .ref 1014 | 6 => .ref 1015 | 7 => .ref 1016 | 8 => .ref 1017 | 9 => .int (σ 1001 9) | 10 => .int (σ 1001 10) | 11 => .int (σ 1001 11) | _ => .null) := rfl
theorem ly_1003 : setC σ h 1003 = some (8, 11, fun k => match k with | 0 => .ref 1020 | 1 => .ref 1021 | 2 => .ref 1030 | 3 => .ref 1040 | 4 => .ref 1041 | 5 => .int (σ 1003 5) | 6 => .ref 1042 | 7 => .ref 1050 | 8 => .ref 1043 | 9 => .ref 1044 | 10 => .ref 1120 | _ => .null) := rfl
theorem ly_1004 : setC σ h 1004 = some (10, 1, fun k => match k with | 0 => .ref 1130 | _ => .null) := rfl
theorem ly_1005 : setC σ h 1005 = some (9, 2, fun k => match k with | 0 => .ref 1140 | 1 => .int (σ 1005 1) | _ => .null) := rfl
theorem ly_1006 : setC σ h 1006 = some (11, 5, fun k => match k with | 0 => .ref 1150 | 1 => .int (σ 1006 1) | 2 => .ref 1151 | 3 => .ref 1152 | 4 => .ref 1153 | _ => .null) := rfl
theorem ly_1010 : setC σ h 1010 = some (100, 5, fun k => .int (σ 1010 k)) := rfl
theorem ly_1011 : setC σ h 1011 = some (100, 5, fun k => .int (σ 1011 k)) := rfl
theorem ly_1012 : setC σ h 1012 = some (100, 5, fun k => .int (σ 1012 k)) := rfl
theorem ly_1013 : setC σ h 1013 = some (100, 5, fun k => .int (σ 1013 k)) := rfl
theorem ly_1014 : setC σ h 1014 = some (100, 6, fun k => .int (σ 1014 k)) := rfl
theorem ly_1015 : setC σ h 1015 = some (100, 6, fun k => .int (σ 1015 k)) := rfl
theorem ly_1016 : setC σ h 1016 = some (100, 6, fun k => .int (σ 1016 k)) := rfl
theorem ly_1017 : setC σ h 1017 = some (100, 6, fun k => .int (σ 1017 k)) := rfl
theorem ly_1020 : setC σ h 1020 = some (100, 6, fun k => .int (σ 1020 k)) := rfl
theorem ly_1040 : setC σ h 1040 = some (100, 6, fun k => .int (σ 1040 k)) := rfl
theorem ly_1041 : setC σ h 1041 = some (100, 64, fun k => .int (σ 1041 k)) := rfl
theorem ly_1042 : setC σ h 1042 = some (100, 64, fun k => .int (σ 1042 k)) := rfl
theorem ly_1043 : setC σ h 1043 = some (100, 6, fun k => .int (σ 1043 k)) := rfl
theorem ly_1044 : setC σ h 1044 = some (100, 5, fun k => .int (σ 1044 k)) := rfl
theorem ly_1150 : setC σ h 1150 = some (100, 10, fun k => .int (σ 1150 k)) := rfl
theorem ly_1151 : setC σ h 1151 = some (100, 10, fun k => .int (σ 1151 k)) := rfl
theorem ly_1152 : setC σ h 1152 = some (100, 10, fun k => .int (σ 1152 k)) := rfl
theorem ly_1153 : setC σ h 1153 = some (100, 6, fun k => .int (σ 1153 k)) := rfl
theorem ly_1021 : setC σ h 1021 = some (103, 6, fun k => .ref (1022 + k)) := rfl
theorem lr_1021 {k : Nat} (hk : k < 6) : setC σ h (1022 + k) = some (100, 6, fun j => .int (σ (1022 + k) j)) := by
  unfold setC lyC
  rw [if_pos (by omega), if_neg (by omega), if_neg (by omega)]
  rw [if_pos (by omega)]
theorem ly_1030 : setC σ h 1030 = some (103, 6, fun k => .ref (1031 + k)) := rfl
theorem lr_1030 {k : Nat} (hk : k < 6) : setC σ h (1031 + k) = some (100, 6, fun j => .int (σ (1031 + k) j)) := by
  unfold setC lyC
  rw [if_pos (by omega), if_neg (by omega), if_neg (by omega)]
  rw [if_neg (by omega)]
  rw [if_pos (by omega)]
theorem ly_1050 : setC σ h 1050 = some (103, 64, fun k => .ref (1051 + k)) := rfl
theorem lr_1050 {k : Nat} (hk : k < 64) : setC σ h (1051 + k) = some (100, 6, fun j => .int (σ (1051 + k) j)) := by
  unfold setC lyC
  rw [if_pos (by omega), if_neg (by omega), if_neg (by omega)]
  rw [if_neg (by omega)]
  rw [if_neg (by omega)]
  rw [if_pos (by omega)]
theorem ly_1120 : setC σ h 1120 = some (103, 4, fun k => .ref (1121 + k)) := rfl
theorem lr_1120 {k : Nat} (hk : k < 4) : setC σ h (1121 + k) = some (100, 5, fun j => .int (σ (1121 + k) j)) := by
  unfold setC lyC
  rw [if_pos (by omega), if_neg (by omega), if_neg (by omega)]
  rw [if_neg (by omega)]
  rw [if_neg (by omega)]
  rw [if_neg (by omega)]
  rw [if_pos (by omega)]
theorem ly_1130 : setC σ h 1130 = some (103, 3, fun k => .ref (1131 + k)) := rfl
theorem lr_1130 {k : Nat} (hk : k < 3) : setC σ h (1131 + k) = some (100, 6, fun j => .int (σ (1131 + k) j)) := by
  unfold setC lyC
  rw [if_pos (by omega), if_neg (by omega), if_neg (by omega)]
  rw [if_neg (by omega)]
  rw [if_neg (by omega)]
  rw [if_neg (by omega)]
  rw [if_neg (by omega)]
  rw [if_pos (by omega)]
theorem ly_1140 : setC σ h 1140 = some (103, 5, fun k => .ref (1141 + k)) := rfl
theorem lr_1140 {k : Nat} (hk : k < 5) : setC σ h (1141 + k) = some (100, 5, fun j => .int (σ (1141 + k) j)) := by
  unfold setC lyC
  rw [if_pos (by omega), if_neg (by omega), if_neg (by omega)]
  rw [if_neg (by omega)]
  rw [if_neg (by omega)]
  rw [if_neg (by omega)]
  rw [if_neg (by omega)]
  rw [if_neg (by omega)]
  rw [if_pos (by omega)]
variable {b : Nat} (hb : b = 2000 ∨ b = 3000)
theorem lk_g (hb : b = 2000 ∨ b = 3000) {i : Nat} (hi : i < 1000) : setC σ h (b + i) = lyK b i (σ (b + i)) := by
  unfold setC lyC
  rw [if_pos (by omega)]
  rcases hb with rfl | rfl
  · rw [if_neg (by omega), if_pos (by omega), Nat.add_sub_cancel_left]
  · rw [if_pos (by omega), Nat.add_sub_cancel_left]
theorem lk_0 (hb : b = 2000 ∨ b = 3000) : setC σ h b = some (7, 13, fun k => match k with | 0 => .ref (b + 1) | 1 => .ref (b + 2) | 2 => .ref (b + 3) | 3 => .ref (b + 4) | 4 => .ref (b + 5) | 5 => .ref (b + 6) | 6 => .ref (b + 100) | 7 => .ref (b + 200) | 8 => .ref (b + 300) | 9 => .int (σ b 9) | 10 => .ref (b + 7) | 11 => .ref (b + 8) | 12 => .int (σ b 12) | _ => .null) := lk_g σ h hb (i := 0) (by omega)
theorem lk_1 (hb : b = 2000 ∨ b = 3000) : setC σ h (b + 1) = some (100, 5, fun k => .int (σ (b + 1) k)) := lk_g σ h hb (i := 1) (by omega)
theorem lk_2 (hb : b = 2000 ∨ b = 3000) : setC σ h (b + 2) = some (100, 6, fun k => .int (σ (b + 2) k)) := lk_g σ h hb (i := 2) (by omega)
theorem lk_3 (hb : b = 2000 ∨ b = 3000) : setC σ h (b + 3) = some (100, 6, fun k => .int (σ (b + 3) k)) := lk_g σ h hb (i := 3) (by omega)
theorem lk_4 (hb : b = 2000 ∨ b = 3000) : setC σ h (b + 4) = some (100, 6, fun k => .int (σ (b + 4) k)) := lk_g σ h hb (i := 4) (by omega)
theorem lk_5 (hb : b = 2000 ∨ b = 3000) : setC σ h (b + 5) = some (100, 6, fun k => .int (σ (b + 5) k)) := lk_g σ h hb (i := 5) (by omega)
theorem lk_6 (hb : b = 2000 ∨ b = 3000) : setC σ h (b + 6) = some (100, 6, fun k => .int (σ (b + 6) k)) := lk_g σ h hb (i := 6) (by omega)
theorem lk_7 (hb : b = 2000 ∨ b = 3000) : setC σ h (b + 7) = some (100, 60, fun k => .int (σ (b + 7) k)) := lk_g σ h hb (i := 7) (by omega)
theorem lk_8 (hb : b = 2000 ∨ b = 3000) : setC σ h (b + 8) = some (100, 60, fun k => .int (σ (b + 8) k)) := lk_g σ h hb (i := 8) (by omega)
theorem lk_100 (hb : b = 2000 ∨ b = 3000) : setC σ h (b + 100) = some (103, 60, fun k => .ref (b + 101 + k)) := lk_g σ h hb (i := 100) (by omega)
theorem lkr_100 (hb : b = 2000 ∨ b = 3000) {k : Nat} (hk : k < 60) : setC σ h (b + 101 + k) = some (100, 5, fun j => .int (σ (b + 101 + k) j)) := by
  rw [Nat.add_assoc, lk_g σ h hb (i := 101 + k) (by omega)]
  unfold lyK
  rw [if_pos (by omega), if_neg (by omega), if_pos (by omega)]
theorem lk_200 (hb : b = 2000 ∨ b = 3000) : setC σ h (b + 200) = some (103, 60, fun k => .ref (b + 201 + k)) := lk_g σ h hb (i := 200) (by omega)
theorem lkr_200 (hb : b = 2000 ∨ b = 3000) {k : Nat} (hk : k < 60) : setC σ h (b + 201 + k) = some (100, 6, fun j => .int (σ (b + 201 + k) j)) := by
  rw [Nat.add_assoc, lk_g σ h hb (i := 201 + k) (by omega)]
  unfold lyK
  rw [if_pos (by omega), if_neg (by omega), if_neg (by omega), if_neg (by omega), if_pos (by omega)]
theorem lk_300 (hb : b = 2000 ∨ b = 3000) : setC σ h (b + 300) = some (103, 60, fun k => .ref (b + 301 + k)) := lk_g σ h hb (i := 300) (by omega)
theorem lkr_300 (hb : b = 2000 ∨ b = 3000) {k : Nat} (hk : k < 60) : setC σ h (b + 301 + k) = some (100, 6, fun j => .int (σ (b + 301 + k) j)) := by
  rw [Nat.add_assoc, lk_g σ h hb (i := 301 + k) (by omega)]
  unfold lyK
  rw [if_pos (by omega), if_neg (by omega), if_neg (by omega), if_neg (by omega), if_neg (by omega), if_neg (by omega), if_pos (by omega)]
end
theorem u2_eq (σ : XS9) (r i : Nat) (x : Int32) : u2 σ r i x r = fun j => if j = i then x else σ r j := if_pos rfl
theorem u2_ne {σ : XS9} {r q i : Nat} {x : Int32} (e : q ≠ r) : u2 σ r i x q = σ q := if_neg e
/-- a write of an int into a cell whose contents are F of its ints -/
theorem put_g {σ : XS9} {h : XH} {r t n i : Nat} {x : Int32} {F : (Nat → Int32) → Nat → Value} (h1 : 1000 ≤ r ∧ r < 4000) (hl : ∀ s, lyC r s = some (t, n, F s)) (hF : ∀ s, updV (F s) i (.int x) = F (fun j => if j = i then x else s j)) : xx_up (setC σ h) r (t, n, updV (F (σ r)) i (.int x)) = setC (u2 σ r i x) h := by
  funext q
  unfold xx_up setC
  by_cases e : q = r
  · subst e
    rw [if_pos rfl, if_pos h1, u2_eq, hl, hF]
  · rw [if_neg e, u2_ne e]
theorem put_a {σ : XS9} {h : XH} {r n i : Nat} {x : Int32} (h1 : 1000 ≤ r ∧ r < 4000) (hl : ∀ s, lyC r s = some (100, n, fun k => .int (s k))) : xx_up (setC σ h) r (100, n, updV (fun k => .int (σ r k)) i (.int x)) = setC (u2 σ r i x) h :=
  put_g (F := fun s k => .int (s k)) h1 hl (fun s => by funext j; unfold updV; split <;> simp_all)
theorem pu_1000_7 {σ : XS9} {h : XH} {x : Int32} : xx_up (setC σ h) 1000 (13, 12, updV (fun k => match k with | 0 => .ref 1001 | 1 => .ref 2000 | 2 => .ref 3000 | 3 => .ref 1003 | 4 => .ref 1004 | 5 => .ref 1005 | 6 => .ref 1006 | 7 => .int (σ 1000 7) | 8 => .int (σ 1000 8) | 9 => .int (σ 1000 9) | 10 => .int (σ 1000 10) | 11 => .int (σ 1000 11) | _ => .null) 7 (.int x)) = setC (u2 σ 1000 7 x) h := by
  refine put_g (F := fun s => fun k => match k with | 0 => .ref 1001 | 1 => .ref 2000 | 2 => .ref 3000 | 3 => .ref 1003 | 4 => .ref 1004 | 5 => .ref 1005 | 6 => .ref 1006 | 7 => .int (s 7) | 8 => .int (s 8) | 9 => .int (s 9) | 10 => .int (s 10) | 11 => .int (s 11) | _ => .null) (by omega) (fun _ => rfl) (fun s => ?_)
  funext j
  unfold updV
  by_cases e : j = 7
  · subst e; rfl
  · rw [if_neg e]; split <;> simp_all
theorem pu_1000_8 {σ : XS9} {h : XH} {x : Int32} : xx_up (setC σ h) 1000 (13, 12, updV (fun k => match k with | 0 => .ref 1001 | 1 => .ref 2000 | 2 => .ref 3000 | 3 => .ref 1003 | 4 => .ref 1004 | 5 => .ref 1005 | 6 => .ref 1006 | 7 => .int (σ 1000 7) | 8 => .int (σ 1000 8) | 9 => .int (σ 1000 9) | 10 => .int (σ 1000 10) | 11 => .int (σ 1000 11) | _ => .null) 8 (.int x)) = setC (u2 σ 1000 8 x) h := by
  refine put_g (F := fun s => fun k => match k with | 0 => .ref 1001 | 1 => .ref 2000 | 2 => .ref 3000 | 3 => .ref 1003 | 4 => .ref 1004 | 5 => .ref 1005 | 6 => .ref 1006 | 7 => .int (s 7) | 8 => .int (s 8) | 9 => .int (s 9) | 10 => .int (s 10) | 11 => .int (s 11) | _ => .null) (by omega) (fun _ => rfl) (fun s => ?_)
  funext j
  unfold updV
  by_cases e : j = 8
  · subst e; rfl
  · rw [if_neg e]; split <;> simp_all
theorem pu_1000_9 {σ : XS9} {h : XH} {x : Int32} : xx_up (setC σ h) 1000 (13, 12, updV (fun k => match k with | 0 => .ref 1001 | 1 => .ref 2000 | 2 => .ref 3000 | 3 => .ref 1003 | 4 => .ref 1004 | 5 => .ref 1005 | 6 => .ref 1006 | 7 => .int (σ 1000 7) | 8 => .int (σ 1000 8) | 9 => .int (σ 1000 9) | 10 => .int (σ 1000 10) | 11 => .int (σ 1000 11) | _ => .null) 9 (.int x)) = setC (u2 σ 1000 9 x) h := by
  refine put_g (F := fun s => fun k => match k with | 0 => .ref 1001 | 1 => .ref 2000 | 2 => .ref 3000 | 3 => .ref 1003 | 4 => .ref 1004 | 5 => .ref 1005 | 6 => .ref 1006 | 7 => .int (s 7) | 8 => .int (s 8) | 9 => .int (s 9) | 10 => .int (s 10) | 11 => .int (s 11) | _ => .null) (by omega) (fun _ => rfl) (fun s => ?_)
  funext j
  unfold updV
  by_cases e : j = 9
  · subst e; rfl
  · rw [if_neg e]; split <;> simp_all
theorem pu_1000_10 {σ : XS9} {h : XH} {x : Int32} : xx_up (setC σ h) 1000 (13, 12, updV (fun k => match k with | 0 => .ref 1001 | 1 => .ref 2000 | 2 => .ref 3000 | 3 => .ref 1003 | 4 => .ref 1004 | 5 => .ref 1005 | 6 => .ref 1006 | 7 => .int (σ 1000 7) | 8 => .int (σ 1000 8) | 9 => .int (σ 1000 9) | 10 => .int (σ 1000 10) | 11 => .int (σ 1000 11) | _ => .null) 10 (.int x)) = setC (u2 σ 1000 10 x) h := by
  refine put_g (F := fun s => fun k => match k with | 0 => .ref 1001 | 1 => .ref 2000 | 2 => .ref 3000 | 3 => .ref 1003 | 4 => .ref 1004 | 5 => .ref 1005 | 6 => .ref 1006 | 7 => .int (s 7) | 8 => .int (s 8) | 9 => .int (s 9) | 10 => .int (s 10) | 11 => .int (s 11) | _ => .null) (by omega) (fun _ => rfl) (fun s => ?_)
  funext j
  unfold updV
  by_cases e : j = 10
  · subst e; rfl
  · rw [if_neg e]; split <;> simp_all
theorem pu_1000_11 {σ : XS9} {h : XH} {x : Int32} : xx_up (setC σ h) 1000 (13, 12, updV (fun k => match k with | 0 => .ref 1001 | 1 => .ref 2000 | 2 => .ref 3000 | 3 => .ref 1003 | 4 => .ref 1004 | 5 => .ref 1005 | 6 => .ref 1006 | 7 => .int (σ 1000 7) | 8 => .int (σ 1000 8) | 9 => .int (σ 1000 9) | 10 => .int (σ 1000 10) | 11 => .int (σ 1000 11) | _ => .null) 11 (.int x)) = setC (u2 σ 1000 11 x) h := by
  refine put_g (F := fun s => fun k => match k with | 0 => .ref 1001 | 1 => .ref 2000 | 2 => .ref 3000 | 3 => .ref 1003 | 4 => .ref 1004 | 5 => .ref 1005 | 6 => .ref 1006 | 7 => .int (s 7) | 8 => .int (s 8) | 9 => .int (s 9) | 10 => .int (s 10) | 11 => .int (s 11) | _ => .null) (by omega) (fun _ => rfl) (fun s => ?_)
  funext j
  unfold updV
  by_cases e : j = 11
  · subst e; rfl
  · rw [if_neg e]; split <;> simp_all
theorem pu_1001_4 {σ : XS9} {h : XH} {x : Int32} : xx_up (setC σ h) 1001 (12, 12, updV (fun k => match k with | 0 => .ref 1010 | 1 => .ref 1011 | 2 => .ref 1012 | 3 => .ref 1013 | 4 => .int (σ 1001 4) | 5 => .ref 1014 | 6 => .ref 1015 | 7 => .ref 1016 | 8 => .ref 1017 | 9 => .int (σ 1001 9) | 10 => .int (σ 1001 10) | 11 => .int (σ 1001 11) | _ => .null) 4 (.int x)) = setC (u2 σ 1001 4 x) h := by
  refine put_g (F := fun s => fun k => match k with | 0 => .ref 1010 | 1 => .ref 1011 | 2 => .ref 1012 | 3 => .ref 1013 | 4 => .int (s 4) | 5 => .ref 1014 | 6 => .ref 1015 | 7 => .ref 1016 | 8 => .ref 1017 | 9 => .int (s 9) | 10 => .int (s 10) | 11 => .int (s 11) | _ => .null) (by omega) (fun _ => rfl) (fun s => ?_)
  funext j
  unfold updV
  by_cases e : j = 4
  · subst e; rfl
  · rw [if_neg e]; split <;> simp_all
theorem pu_1001_9 {σ : XS9} {h : XH} {x : Int32} : xx_up (setC σ h) 1001 (12, 12, updV (fun k => match k with | 0 => .ref 1010 | 1 => .ref 1011 | 2 => .ref 1012 | 3 => .ref 1013 | 4 => .int (σ 1001 4) | 5 => .ref 1014 | 6 => .ref 1015 | 7 => .ref 1016 | 8 => .ref 1017 | 9 => .int (σ 1001 9) | 10 => .int (σ 1001 10) | 11 => .int (σ 1001 11) | _ => .null) 9 (.int x)) = setC (u2 σ 1001 9 x) h := by
  refine put_g (F := fun s => fun k => match k with | 0 => .ref 1010 | 1 => .ref 1011 | 2 => .ref 1012 | 3 => .ref 1013 | 4 => .int (s 4) | 5 => .ref 1014 | 6 => .ref 1015 | 7 => .ref 1016 | 8 => .ref 1017 | 9 => .int (s 9) | 10 => .int (s 10) | 11 => .int (s 11) | _ => .null) (by omega) (fun _ => rfl) (fun s => ?_)
  funext j
  unfold updV
  by_cases e : j = 9
  · subst e; rfl
  · rw [if_neg e]; split <;> simp_all
theorem pu_1001_10 {σ : XS9} {h : XH} {x : Int32} : xx_up (setC σ h) 1001 (12, 12, updV (fun k => match k with | 0 => .ref 1010 | 1 => .ref 1011 | 2 => .ref 1012 | 3 => .ref 1013 | 4 => .int (σ 1001 4) | 5 => .ref 1014 | 6 => .ref 1015 | 7 => .ref 1016 | 8 => .ref 1017 | 9 => .int (σ 1001 9) | 10 => .int (σ 1001 10) | 11 => .int (σ 1001 11) | _ => .null) 10 (.int x)) = setC (u2 σ 1001 10 x) h := by
  refine put_g (F := fun s => fun k => match k with | 0 => .ref 1010 | 1 => .ref 1011 | 2 => .ref 1012 | 3 => .ref 1013 | 4 => .int (s 4) | 5 => .ref 1014 | 6 => .ref 1015 | 7 => .ref 1016 | 8 => .ref 1017 | 9 => .int (s 9) | 10 => .int (s 10) | 11 => .int (s 11) | _ => .null) (by omega) (fun _ => rfl) (fun s => ?_)
  funext j
  unfold updV
  by_cases e : j = 10
  · subst e; rfl
  · rw [if_neg e]; split <;> simp_all
theorem pu_1001_11 {σ : XS9} {h : XH} {x : Int32} : xx_up (setC σ h) 1001 (12, 12, updV (fun k => match k with | 0 => .ref 1010 | 1 => .ref 1011 | 2 => .ref 1012 | 3 => .ref 1013 | 4 => .int (σ 1001 4) | 5 => .ref 1014 | 6 => .ref 1015 | 7 => .ref 1016 | 8 => .ref 1017 | 9 => .int (σ 1001 9) | 10 => .int (σ 1001 10) | 11 => .int (σ 1001 11) | _ => .null) 11 (.int x)) = setC (u2 σ 1001 11 x) h := by
  refine put_g (F := fun s => fun k => match k with | 0 => .ref 1010 | 1 => .ref 1011 | 2 => .ref 1012 | 3 => .ref 1013 | 4 => .int (s 4) | 5 => .ref 1014 | 6 => .ref 1015 | 7 => .ref 1016 | 8 => .ref 1017 | 9 => .int (s 9) | 10 => .int (s 10) | 11 => .int (s 11) | _ => .null) (by omega) (fun _ => rfl) (fun s => ?_)
  funext j
  unfold updV
  by_cases e : j = 11
  · subst e; rfl
  · rw [if_neg e]; split <;> simp_all
theorem pu_1003_5 {σ : XS9} {h : XH} {x : Int32} : xx_up (setC σ h) 1003 (8, 11, updV (fun k => match k with | 0 => .ref 1020 | 1 => .ref 1021 | 2 => .ref 1030 | 3 => .ref 1040 | 4 => .ref 1041 | 5 => .int (σ 1003 5) | 6 => .ref 1042 | 7 => .ref 1050 | 8 => .ref 1043 | 9 => .ref 1044 | 10 => .ref 1120 | _ => .null) 5 (.int x)) = setC (u2 σ 1003 5 x) h := by
  refine put_g (F := fun s => fun k => match k with | 0 => .ref 1020 | 1 => .ref 1021 | 2 => .ref 1030 | 3 => .ref 1040 | 4 => .ref 1041 | 5 => .int (s 5) | 6 => .ref 1042 | 7 => .ref 1050 | 8 => .ref 1043 | 9 => .ref 1044 | 10 => .ref 1120 | _ => .null) (by omega) (fun _ => rfl) (fun s => ?_)
  funext j
  unfold updV
  by_cases e : j = 5
  · subst e; rfl
  · rw [if_neg e]; split <;> simp_all
theorem pu_1005_1 {σ : XS9} {h : XH} {x : Int32} : xx_up (setC σ h) 1005 (9, 2, updV (fun k => match k with | 0 => .ref 1140 | 1 => .int (σ 1005 1) | _ => .null) 1 (.int x)) = setC (u2 σ 1005 1 x) h := by
  refine put_g (F := fun s => fun k => match k with | 0 => .ref 1140 | 1 => .int (s 1) | _ => .null) (by omega) (fun _ => rfl) (fun s => ?_)
  funext j
  unfold updV
  by_cases e : j = 1
  · subst e; rfl
  · rw [if_neg e]; split <;> simp_all
theorem pu_1006_1 {σ : XS9} {h : XH} {x : Int32} : xx_up (setC σ h) 1006 (11, 5, updV (fun k => match k with | 0 => .ref 1150 | 1 => .int (σ 1006 1) | 2 => .ref 1151 | 3 => .ref 1152 | 4 => .ref 1153 | _ => .null) 1 (.int x)) = setC (u2 σ 1006 1 x) h := by
  refine put_g (F := fun s => fun k => match k with | 0 => .ref 1150 | 1 => .int (s 1) | 2 => .ref 1151 | 3 => .ref 1152 | 4 => .ref 1153 | _ => .null) (by omega) (fun _ => rfl) (fun s => ?_)
  funext j
  unfold updV
  by_cases e : j = 1
  · subst e; rfl
  · rw [if_neg e]; split <;> simp_all
theorem pa_1010 {σ : XS9} {h : XH} {i : Nat} {x : Int32} : xx_up (setC σ h) 1010 (100, 5, updV (fun k => .int (σ 1010 k)) i (.int x)) = setC (u2 σ 1010 i x) h := put_a (by omega) (fun _ => rfl)
theorem pa_1011 {σ : XS9} {h : XH} {i : Nat} {x : Int32} : xx_up (setC σ h) 1011 (100, 5, updV (fun k => .int (σ 1011 k)) i (.int x)) = setC (u2 σ 1011 i x) h := put_a (by omega) (fun _ => rfl)
theorem pa_1012 {σ : XS9} {h : XH} {i : Nat} {x : Int32} : xx_up (setC σ h) 1012 (100, 5, updV (fun k => .int (σ 1012 k)) i (.int x)) = setC (u2 σ 1012 i x) h := put_a (by omega) (fun _ => rfl)
theorem pa_1013 {σ : XS9} {h : XH} {i : Nat} {x : Int32} : xx_up (setC σ h) 1013 (100, 5, updV (fun k => .int (σ 1013 k)) i (.int x)) = setC (u2 σ 1013 i x) h := put_a (by omega) (fun _ => rfl)
theorem pa_1014 {σ : XS9} {h : XH} {i : Nat} {x : Int32} : xx_up (setC σ h) 1014 (100, 6, updV (fun k => .int (σ 1014 k)) i (.int x)) = setC (u2 σ 1014 i x) h := put_a (by omega) (fun _ => rfl)
theorem pa_1015 {σ : XS9} {h : XH} {i : Nat} {x : Int32} : xx_up (setC σ h) 1015 (100, 6, updV (fun k => .int (σ 1015 k)) i (.int x)) = setC (u2 σ 1015 i x) h := put_a (by omega) (fun _ => rfl)
theorem pa_1016 {σ : XS9} {h : XH} {i : Nat} {x : Int32} : xx_up (setC σ h) 1016 (100, 6, updV (fun k => .int (σ 1016 k)) i (.int x)) = setC (u2 σ 1016 i x) h := put_a (by omega) (fun _ => rfl)
theorem pa_1017 {σ : XS9} {h : XH} {i : Nat} {x : Int32} : xx_up (setC σ h) 1017 (100, 6, updV (fun k => .int (σ 1017 k)) i (.int x)) = setC (u2 σ 1017 i x) h := put_a (by omega) (fun _ => rfl)
theorem pa_1020 {σ : XS9} {h : XH} {i : Nat} {x : Int32} : xx_up (setC σ h) 1020 (100, 6, updV (fun k => .int (σ 1020 k)) i (.int x)) = setC (u2 σ 1020 i x) h := put_a (by omega) (fun _ => rfl)
theorem pa_1040 {σ : XS9} {h : XH} {i : Nat} {x : Int32} : xx_up (setC σ h) 1040 (100, 6, updV (fun k => .int (σ 1040 k)) i (.int x)) = setC (u2 σ 1040 i x) h := put_a (by omega) (fun _ => rfl)
theorem pa_1041 {σ : XS9} {h : XH} {i : Nat} {x : Int32} : xx_up (setC σ h) 1041 (100, 64, updV (fun k => .int (σ 1041 k)) i (.int x)) = setC (u2 σ 1041 i x) h := put_a (by omega) (fun _ => rfl)
theorem pa_1042 {σ : XS9} {h : XH} {i : Nat} {x : Int32} : xx_up (setC σ h) 1042 (100, 64, updV (fun k => .int (σ 1042 k)) i (.int x)) = setC (u2 σ 1042 i x) h := put_a (by omega) (fun _ => rfl)
theorem pa_1043 {σ : XS9} {h : XH} {i : Nat} {x : Int32} : xx_up (setC σ h) 1043 (100, 6, updV (fun k => .int (σ 1043 k)) i (.int x)) = setC (u2 σ 1043 i x) h := put_a (by omega) (fun _ => rfl)
theorem pa_1044 {σ : XS9} {h : XH} {i : Nat} {x : Int32} : xx_up (setC σ h) 1044 (100, 5, updV (fun k => .int (σ 1044 k)) i (.int x)) = setC (u2 σ 1044 i x) h := put_a (by omega) (fun _ => rfl)
theorem pa_1150 {σ : XS9} {h : XH} {i : Nat} {x : Int32} : xx_up (setC σ h) 1150 (100, 10, updV (fun k => .int (σ 1150 k)) i (.int x)) = setC (u2 σ 1150 i x) h := put_a (by omega) (fun _ => rfl)
theorem pa_1151 {σ : XS9} {h : XH} {i : Nat} {x : Int32} : xx_up (setC σ h) 1151 (100, 10, updV (fun k => .int (σ 1151 k)) i (.int x)) = setC (u2 σ 1151 i x) h := put_a (by omega) (fun _ => rfl)
theorem pa_1152 {σ : XS9} {h : XH} {i : Nat} {x : Int32} : xx_up (setC σ h) 1152 (100, 10, updV (fun k => .int (σ 1152 k)) i (.int x)) = setC (u2 σ 1152 i x) h := put_a (by omega) (fun _ => rfl)
theorem pa_1153 {σ : XS9} {h : XH} {i : Nat} {x : Int32} : xx_up (setC σ h) 1153 (100, 6, updV (fun k => .int (σ 1153 k)) i (.int x)) = setC (u2 σ 1153 i x) h := put_a (by omega) (fun _ => rfl)
theorem pr_1021 {σ : XS9} {h : XH} {k i : Nat} {x : Int32} (hk : k < 6) : xx_up (setC σ h) (1022 + k) (100, 6, updV (fun j => .int (σ (1022 + k) j)) i (.int x)) = setC (u2 σ (1022 + k) i x) h := put_a (by omega) (fun s => by
  have := lr_1021 (fun _ => s) (fun _ => none) hk
  unfold setC at this
  rw [if_pos (by omega)] at this
  exact this)
theorem pr_1030 {σ : XS9} {h : XH} {k i : Nat} {x : Int32} (hk : k < 6) : xx_up (setC σ h) (1031 + k) (100, 6, updV (fun j => .int (σ (1031 + k) j)) i (.int x)) = setC (u2 σ (1031 + k) i x) h := put_a (by omega) (fun s => by
  have := lr_1030 (fun _ => s) (fun _ => none) hk
  unfold setC at this
  rw [if_pos (by omega)] at this
  exact this)
theorem pr_1050 {σ : XS9} {h : XH} {k i : Nat} {x : Int32} (hk : k < 64) : xx_up (setC σ h) (1051 + k) (100, 6, updV (fun j => .int (σ (1051 + k) j)) i (.int x)) = setC (u2 σ (1051 + k) i x) h := put_a (by omega) (fun s => by
  have := lr_1050 (fun _ => s) (fun _ => none) hk
  unfold setC at this
  rw [if_pos (by omega)] at this
  exact this)
theorem pr_1120 {σ : XS9} {h : XH} {k i : Nat} {x : Int32} (hk : k < 4) : xx_up (setC σ h) (1121 + k) (100, 5, updV (fun j => .int (σ (1121 + k) j)) i (.int x)) = setC (u2 σ (1121 + k) i x) h := put_a (by omega) (fun s => by
  have := lr_1120 (fun _ => s) (fun _ => none) hk
  unfold setC at this
  rw [if_pos (by omega)] at this
  exact this)
theorem pr_1130 {σ : XS9} {h : XH} {k i : Nat} {x : Int32} (hk : k < 3) : xx_up (setC σ h) (1131 + k) (100, 6, updV (fun j => .int (σ (1131 + k) j)) i (.int x)) = setC (u2 σ (1131 + k) i x) h := put_a (by omega) (fun s => by
  have := lr_1130 (fun _ => s) (fun _ => none) hk
  unfold setC at this
  rw [if_pos (by omega)] at this
  exact this)
theorem pr_1140 {σ : XS9} {h : XH} {k i : Nat} {x : Int32} (hk : k < 5) : xx_up (setC σ h) (1141 + k) (100, 5, updV (fun j => .int (σ (1141 + k) j)) i (.int x)) = setC (u2 σ (1141 + k) i x) h := put_a (by omega) (fun s => by
  have := lr_1140 (fun _ => s) (fun _ => none) hk
  unfold setC at this
  rw [if_pos (by omega)] at this
  exact this)
theorem pk_a1 {σ : XS9} {h : XH} {b i : Nat} {x : Int32} (hb : b = 2000 ∨ b = 3000) : xx_up (setC σ h) (b + 1) (100, 5, updV (fun k => .int (σ (b + 1) k)) i (.int x)) = setC (u2 σ (b + 1) i x) h := put_a (by omega) (fun s => by rcases hb with rfl | rfl <;> rfl)
theorem pk_a2 {σ : XS9} {h : XH} {b i : Nat} {x : Int32} (hb : b = 2000 ∨ b = 3000) : xx_up (setC σ h) (b + 2) (100, 6, updV (fun k => .int (σ (b + 2) k)) i (.int x)) = setC (u2 σ (b + 2) i x) h := put_a (by omega) (fun s => by rcases hb with rfl | rfl <;> rfl)
theorem pk_a3 {σ : XS9} {h : XH} {b i : Nat} {x : Int32} (hb : b = 2000 ∨ b = 3000) : xx_up (setC σ h) (b + 3) (100, 6, updV (fun k => .int (σ (b + 3) k)) i (.int x)) = setC (u2 σ (b + 3) i x) h := put_a (by omega) (fun s => by rcases hb with rfl | rfl <;> rfl)
theorem pk_a4 {σ : XS9} {h : XH} {b i : Nat} {x : Int32} (hb : b = 2000 ∨ b = 3000) : xx_up (setC σ h) (b + 4) (100, 6, updV (fun k => .int (σ (b + 4) k)) i (.int x)) = setC (u2 σ (b + 4) i x) h := put_a (by omega) (fun s => by rcases hb with rfl | rfl <;> rfl)
theorem pk_a5 {σ : XS9} {h : XH} {b i : Nat} {x : Int32} (hb : b = 2000 ∨ b = 3000) : xx_up (setC σ h) (b + 5) (100, 6, updV (fun k => .int (σ (b + 5) k)) i (.int x)) = setC (u2 σ (b + 5) i x) h := put_a (by omega) (fun s => by rcases hb with rfl | rfl <;> rfl)
theorem pk_a6 {σ : XS9} {h : XH} {b i : Nat} {x : Int32} (hb : b = 2000 ∨ b = 3000) : xx_up (setC σ h) (b + 6) (100, 6, updV (fun k => .int (σ (b + 6) k)) i (.int x)) = setC (u2 σ (b + 6) i x) h := put_a (by omega) (fun s => by rcases hb with rfl | rfl <;> rfl)
theorem pk_a7 {σ : XS9} {h : XH} {b i : Nat} {x : Int32} (hb : b = 2000 ∨ b = 3000) : xx_up (setC σ h) (b + 7) (100, 60, updV (fun k => .int (σ (b + 7) k)) i (.int x)) = setC (u2 σ (b + 7) i x) h := put_a (by omega) (fun s => by rcases hb with rfl | rfl <;> rfl)
theorem pk_a8 {σ : XS9} {h : XH} {b i : Nat} {x : Int32} (hb : b = 2000 ∨ b = 3000) : xx_up (setC σ h) (b + 8) (100, 60, updV (fun k => .int (σ (b + 8) k)) i (.int x)) = setC (u2 σ (b + 8) i x) h := put_a (by omega) (fun s => by rcases hb with rfl | rfl <;> rfl)
theorem pk_r100 {σ : XS9} {h : XH} {b k i : Nat} {x : Int32} (hb : b = 2000 ∨ b = 3000) (hk : k < 60) : xx_up (setC σ h) (b + 101 + k) (100, 5, updV (fun j => .int (σ (b + 101 + k) j)) i (.int x)) = setC (u2 σ (b + 101 + k) i x) h := put_a (by omega) (fun s => by
  have := lkr_100 (fun _ => s) (fun _ => none) hb hk
  unfold setC at this
  rw [if_pos (by omega)] at this
  exact this)
theorem pk_r200 {σ : XS9} {h : XH} {b k i : Nat} {x : Int32} (hb : b = 2000 ∨ b = 3000) (hk : k < 60) : xx_up (setC σ h) (b + 201 + k) (100, 6, updV (fun j => .int (σ (b + 201 + k) j)) i (.int x)) = setC (u2 σ (b + 201 + k) i x) h := put_a (by omega) (fun s => by
  have := lkr_200 (fun _ => s) (fun _ => none) hb hk
  unfold setC at this
  rw [if_pos (by omega)] at this
  exact this)
theorem pk_r300 {σ : XS9} {h : XH} {b k i : Nat} {x : Int32} (hb : b = 2000 ∨ b = 3000) (hk : k < 60) : xx_up (setC σ h) (b + 301 + k) (100, 6, updV (fun j => .int (σ (b + 301 + k) j)) i (.int x)) = setC (u2 σ (b + 301 + k) i x) h := put_a (by omega) (fun s => by
  have := lkr_300 (fun _ => s) (fun _ => none) hb hk
  unfold setC at this
  rw [if_pos (by omega)] at this
  exact this)
theorem pk_f9 {σ : XS9} {h : XH} {b : Nat} {x : Int32} (hb : b = 2000 ∨ b = 3000) : xx_up (setC σ h) b (7, 13, updV (fun k => match k with | 0 => .ref (b + 1) | 1 => .ref (b + 2) | 2 => .ref (b + 3) | 3 => .ref (b + 4) | 4 => .ref (b + 5) | 5 => .ref (b + 6) | 6 => .ref (b + 100) | 7 => .ref (b + 200) | 8 => .ref (b + 300) | 9 => .int (σ b 9) | 10 => .ref (b + 7) | 11 => .ref (b + 8) | 12 => .int (σ b 12) | _ => .null) 9 (.int x)) = setC (u2 σ b 9 x) h := by
  refine put_g (F := fun s => fun k => match k with | 0 => .ref (b + 1) | 1 => .ref (b + 2) | 2 => .ref (b + 3) | 3 => .ref (b + 4) | 4 => .ref (b + 5) | 5 => .ref (b + 6) | 6 => .ref (b + 100) | 7 => .ref (b + 200) | 8 => .ref (b + 300) | 9 => .int (s 9) | 10 => .ref (b + 7) | 11 => .ref (b + 8) | 12 => .int (s 12) | _ => .null) (by omega) (fun s => by rcases hb with rfl | rfl <;> rfl) (fun s => ?_)
  funext j
  unfold updV
  by_cases e : j = 9
  · subst e; rfl
  · rw [if_neg e]; split <;> simp_all
theorem pk_f12 {σ : XS9} {h : XH} {b : Nat} {x : Int32} (hb : b = 2000 ∨ b = 3000) : xx_up (setC σ h) b (7, 13, updV (fun k => match k with | 0 => .ref (b + 1) | 1 => .ref (b + 2) | 2 => .ref (b + 3) | 3 => .ref (b + 4) | 4 => .ref (b + 5) | 5 => .ref (b + 6) | 6 => .ref (b + 100) | 7 => .ref (b + 200) | 8 => .ref (b + 300) | 9 => .int (σ b 9) | 10 => .ref (b + 7) | 11 => .ref (b + 8) | 12 => .int (σ b 12) | _ => .null) 12 (.int x)) = setC (u2 σ b 12 x) h := by
  refine put_g (F := fun s => fun k => match k with | 0 => .ref (b + 1) | 1 => .ref (b + 2) | 2 => .ref (b + 3) | 3 => .ref (b + 4) | 4 => .ref (b + 5) | 5 => .ref (b + 6) | 6 => .ref (b + 100) | 7 => .ref (b + 200) | 8 => .ref (b + 300) | 9 => .int (s 9) | 10 => .ref (b + 7) | 11 => .ref (b + 8) | 12 => .int (s 12) | _ => .null) (by omega) (fun s => by rcases hb with rfl | rfl <;> rfl) (fun s => ?_)
  funext j
  unfold updV
  by_cases e : j = 12
  · subst e; rfl
  · rw [if_neg e]; split <;> simp_all
end
section
/-! ===== int arrays of the class as rows ===== -/
def xx_wk : List Value → List Value → Prop
  | [], [] => True
  | v :: t, w :: u => (w = xx_d ∨ w = v) ∧ xx_wk t u
  | _, _ => False
theorem xx_wk.get : ∀ {ls ls2 : List Value}, xx_wk ls ls2 → ∀ (i : Nat) (v : Value), ls2[i]? = some v → v = xx_d ∨ ls[i]? = some v
  | [], [], _, i, v, h => by simp at h
  | _ :: _, _ :: _, e, 0, v, h => by
    simp only [List.getElem?_cons_zero, Option.some.injEq] at h
    subst h
    rcases e.1 with h1 | h1
    · exact .inl h1
    · exact .inr (by rw [h1]; rfl)
  | _ :: _, _ :: _, e, i + 1, v, h => by
    simp only [List.getElem?_cons_succ] at h
    rcases xx_wk.get e.2 i v h with h1 | h1
    · exact .inl h1
    · exact .inr (by simp only [List.getElem?_cons_succ]; exact h1)
  | [], _ :: _, e, _, _, _ => False.elim e
  | _ :: _, [], e, _, _, _ => False.elim e
theorem sw_dum {Y : XY} {k n pc : Nat} {h : XH} {ls ls2 st : List Value} (e : xx_wk ls ls2) (kk : SW Y k n h pc ls2 st) : SW Y k n h pc ls st := fun ρ ow H locs cells slots lsA r9 =>
  kk ρ ow H locs cells slots lsA (r9.lc ⟨r9.L.1, r9.L.2.1, fun i v h1 h2 => r9.L.2.2 i v ((e.get i v h1).resolve_left h2) h2⟩ (fun v hv => by
    obtain ⟨i, hi⟩ := List.getElem?_of_mem hv
    rcases e.get i v hi with h1 | h1
    · rw [h1]; exact trivial
    · exact r9.lcl v (List.mem_of_getElem? h1)) r9.stk)
def xitB {S : Type} (step : Nat → S → S ⊕ S) : Nat → Nat → S → S
  | 0, _, s => s
  | f + 1, i, s => match step i s with
    | .inl s' => xitB step f (i + 1) s'
    | .inr s' => s'
theorem sw_forB {Y : XY} {k n : Nat} {S : Type} (step : Nat → S → S ⊕ S) (P : Nat → S → Prop) (PX : S → Prop) {hd ex : Nat} {hp : S → XH} {lc : Nat → S → List Value} {lx : S → List Value} {N : Nat}
    (hstep : ∀ i s, i < N → P i s → ((∀ s', step i s = .inl s' → P (i + 1) s') ∧ ∀ s', step i s = .inr s' → PX s') ∧ ((∀ s', step i s = .inl s' → SW Y k n (hp s') hd (lc (i + 1) s') []) → (∀ s', step i s = .inr s' → SW Y k n (hp s') ex (lx s') []) → SW Y k n (hp s) hd (lc i s) []))
    (hexit : ∀ s, P N s → PX s ∧ (SW Y k n (hp s) ex (lx s) [] → SW Y k n (hp s) hd (lc N s) [])) :
    ∀ (f i : Nat) (s : S), i + f = N → P i s → (PX (xitB step f i s) → SW Y k n (hp (xitB step f i s)) ex (lx (xitB step f i s)) []) → SW Y k n (hp s) hd (lc i s) []
  | 0, i, s, e, hP, kk => by
    obtain rfl : i = N := by omega
    exact (hexit s hP).2 (kk (hexit s hP).1)
  | f + 1, i, s, e, hP, kk => by
    obtain ⟨⟨h1, h2⟩, h3⟩ := hstep i s (by omega) hP
    unfold xitB at kk
    refine h3 (fun s' e' => ?_) (fun s' e' => ?_)
    · rw [e'] at kk
      exact sw_forB step P PX hstep hexit f (i + 1) s' (by omega) (h1 s' e') kk
    · rw [e'] at kk
      exact kk (h2 s' e')
theorem xitB_keep {S : Type} {step : Nat → S → S ⊕ S} {A : Type} (π : S → A) (h : ∀ i s s', step i s = .inl s' ∨ step i s = .inr s' → π s' = π s) : ∀ (f i : Nat) (s : S), π (xitB step f i s) = π s
  | 0, _, _ => rfl
  | f + 1, i, s => by
    unfold xitB
    split
    · rename_i s' e
      exact (xitB_keep π h f (i + 1) s').trans (h i s s' (.inl e))
    · rename_i s' e
      exact h i s s' (.inr e)
theorem xx_bool {v : Int32} (h : v = 0 ∨ v = 1) : narrow .boolean (.int v) = .int v := by rcases h with h | h <;> subst h <;> rfl
theorem vp_6 {w : Int32} (h0 : ¬ w < 0) (h1 : ¬ (6 : Int32) ≤ w) : vp_in w 6 := by
  intro h
  rcases h with h | h
  · exact h0 h
  · refine h1 (Int32.le_iff_toInt_le.mpr ?_)
    have h2 : (6 : Nat) ≤ w.toInt.toNat := h
    have h3 : (6 : Int32).toInt = 6 := by decide
    rw [h3]
    omega
def bsub (S i : Nat) : Nat := S - 2 ^ i
theorem bsub_lt {S : Nat} (i : Nat) (h : S < 64) : bsub S i < 64 := Nat.lt_of_le_of_lt (Nat.sub_le _ _) h
theorem bit_sub {S i : Nat} (hS : S < 64) (hi : i < 6) (h : ¬ (nI S &&& ((1 : Int32) <<< (nI i &&& 31))) = 0) : nI S - ((1 : Int32) <<< (nI i &&& 31)) = nI (bsub S i) := by
  have : ∀ S, S < 64 → ∀ i, i < 6 → ¬ (nI S &&& ((1 : Int32) <<< (nI i &&& 31))) = 0 → nI S - ((1 : Int32) <<< (nI i &&& 31)) = nI (bsub S i) := by decide +kernel
  exact this S hS i hi h
theorem bit_sub63 {i : Nat} (hi : i < 6) : (63 : Int32) - ((1 : Int32) <<< (nI i &&& 31)) = nI (bsub 63 i) := by
  have : ∀ i, i < 6 → (63 : Int32) - ((1 : Int32) <<< (nI i &&& 31)) = nI (bsub 63 i) := by decide +kernel
  exact this i hi
theorem nI_a1 (k : Nat) : nI k + 1 = nI (k + 1) := nI_1 k
theorem nI_s1 (k : Nat) : nI (k + 1) - 1 = nI k := by rw [Int32.sub_eq_add_neg]; exact pk_m1 k
def isA (r n : Nat) : Prop := (1000 ≤ r ∧ r < 4000) ∧ ∀ s, lyC r s = some (100, n, fun k => .int (s k))
def uR (σ : XS9) (r : Nat) (x : Nat → Int32) : XS9 := fun q => if q = r then x else σ q
theorem uR_ne {σ : XS9} {r q : Nat} {x : Nat → Int32} (e : q ≠ r) : uR σ r x q = σ q := if_neg e
theorem uR_eq (σ : XS9) (r : Nat) (x : Nat → Int32) : uR σ r x r = x := if_pos rfl
theorem u2_at {σ : XS9} {r i : Nat} {x : Int32} : u2 σ r i x r i = x := by rw [u2_eq]; exact if_pos rfl
theorem u2_oi {σ : XS9} {r i j : Nat} {x : Int32} (h : j ≠ i) : u2 σ r i x r j = σ r j := by rw [u2_eq]; exact if_neg h
theorem isA.get {r n : Nat} (a : isA r n) (σ : XS9) (h : XH) : setC σ h r = some (100, n, fun k => .int (σ r k)) := by
  unfold setC
  rw [if_pos a.1, a.2]
theorem isA.getE {r n : Nat} (a : isA r n) {σ : XS9} {h : XH} {f : Nat → Int32} (e : σ r = f) : setC σ h r = some (100, n, fun k => .int (f k)) := by rw [← e]; exact a.get σ h
theorem isA.put {r n i : Nat} {x : Int32} (a : isA r n) {σ : XS9} {h : XH} : xx_up (setC σ h) r (100, n, updV (fun k => .int (σ r k)) i (.int x)) = setC (u2 σ r i x) h := put_a a.1 a.2
theorem isA.putR {r n : Nat} {x : Nat → Int32} (a : isA r n) {σ : XS9} {h : XH} : xx_up (setC σ h) r (100, n, fun k => .int (x k)) = setC (uR σ r x) h := by
  funext q
  unfold xx_up setC
  by_cases e : q = r
  · subst e
    rw [if_pos rfl, if_pos a.1, uR_eq, a.2]
  · rw [if_neg e, uR_ne e]
theorem isA.of {r n : Nat} (h1 : 1000 ≤ r ∧ r < 4000) (h : ∀ s : Nat → Int32, setC (fun _ => s) (fun _ => none) r = some (100, n, fun k => .int (s k))) : isA r n := ⟨h1, fun s => by
  have := h s
  unfold setC at this
  rw [if_pos h1] at this
  exact this⟩
theorem ia_1010 : isA 1010 5 := ⟨by omega, fun _ => rfl⟩
theorem ia_1011 : isA 1011 5 := ⟨by omega, fun _ => rfl⟩
theorem ia_1012 : isA 1012 5 := ⟨by omega, fun _ => rfl⟩
theorem ia_1013 : isA 1013 5 := ⟨by omega, fun _ => rfl⟩
theorem ia_1014 : isA 1014 6 := ⟨by omega, fun _ => rfl⟩
theorem ia_1015 : isA 1015 6 := ⟨by omega, fun _ => rfl⟩
theorem ia_1016 : isA 1016 6 := ⟨by omega, fun _ => rfl⟩
theorem ia_1017 : isA 1017 6 := ⟨by omega, fun _ => rfl⟩
theorem ia_1020 : isA 1020 6 := ⟨by omega, fun _ => rfl⟩
theorem ia_1040 : isA 1040 6 := ⟨by omega, fun _ => rfl⟩
theorem ia_1041 : isA 1041 64 := ⟨by omega, fun _ => rfl⟩
theorem ia_1042 : isA 1042 64 := ⟨by omega, fun _ => rfl⟩
theorem ia_1043 : isA 1043 6 := ⟨by omega, fun _ => rfl⟩
theorem ia_1044 : isA 1044 5 := ⟨by omega, fun _ => rfl⟩
theorem ia_1150 : isA 1150 10 := ⟨by omega, fun _ => rfl⟩
theorem ia_1151 : isA 1151 10 := ⟨by omega, fun _ => rfl⟩
theorem ia_1152 : isA 1152 10 := ⟨by omega, fun _ => rfl⟩
theorem ia_1153 : isA 1153 6 := ⟨by omega, fun _ => rfl⟩
theorem ir_1021 {k : Nat} (hk : k < 6) : isA (1022 + k) 6 := .of (by omega) (fun s => lr_1021 (fun _ => s) (fun _ => none) hk)
theorem ir_1030 {k : Nat} (hk : k < 6) : isA (1031 + k) 6 := .of (by omega) (fun s => lr_1030 (fun _ => s) (fun _ => none) hk)
theorem ir_1050 {k : Nat} (hk : k < 64) : isA (1051 + k) 6 := .of (by omega) (fun s => lr_1050 (fun _ => s) (fun _ => none) hk)
theorem ir_1120 {k : Nat} (hk : k < 4) : isA (1121 + k) 5 := .of (by omega) (fun s => lr_1120 (fun _ => s) (fun _ => none) hk)
theorem ir_1130 {k : Nat} (hk : k < 3) : isA (1131 + k) 6 := .of (by omega) (fun s => lr_1130 (fun _ => s) (fun _ => none) hk)
theorem ir_1140 {k : Nat} (hk : k < 5) : isA (1141 + k) 5 := .of (by omega) (fun s => lr_1140 (fun _ => s) (fun _ => none) hk)
theorem ik_1 {b : Nat} (hb : b = 2000 ∨ b = 3000) : isA (b + 1) 5 := .of (by omega) (fun s => lk_1 (fun _ => s) (fun _ => none) hb)
theorem ik_2 {b : Nat} (hb : b = 2000 ∨ b = 3000) : isA (b + 2) 6 := .of (by omega) (fun s => lk_2 (fun _ => s) (fun _ => none) hb)
theorem ik_3 {b : Nat} (hb : b = 2000 ∨ b = 3000) : isA (b + 3) 6 := .of (by omega) (fun s => lk_3 (fun _ => s) (fun _ => none) hb)
theorem ik_4 {b : Nat} (hb : b = 2000 ∨ b = 3000) : isA (b + 4) 6 := .of (by omega) (fun s => lk_4 (fun _ => s) (fun _ => none) hb)
theorem ik_5 {b : Nat} (hb : b = 2000 ∨ b = 3000) : isA (b + 5) 6 := .of (by omega) (fun s => lk_5 (fun _ => s) (fun _ => none) hb)
theorem ik_6 {b : Nat} (hb : b = 2000 ∨ b = 3000) : isA (b + 6) 6 := .of (by omega) (fun s => lk_6 (fun _ => s) (fun _ => none) hb)
theorem ik_7 {b : Nat} (hb : b = 2000 ∨ b = 3000) : isA (b + 7) 60 := .of (by omega) (fun s => lk_7 (fun _ => s) (fun _ => none) hb)
theorem ik_8 {b : Nat} (hb : b = 2000 ∨ b = 3000) : isA (b + 8) 60 := .of (by omega) (fun s => lk_8 (fun _ => s) (fun _ => none) hb)
theorem ikr_100 {b k : Nat} (hb : b = 2000 ∨ b = 3000) (hk : k < 60) : isA (b + 101 + k) 5 := .of (by omega) (fun s => lkr_100 (fun _ => s) (fun _ => none) hb hk)
theorem ikr_200 {b k : Nat} (hb : b = 2000 ∨ b = 3000) (hk : k < 60) : isA (b + 201 + k) 6 := .of (by omega) (fun s => lkr_200 (fun _ => s) (fun _ => none) hb hk)
theorem ikr_300 {b k : Nat} (hb : b = 2000 ∨ b = 3000) (hk : k < 60) : isA (b + 301 + k) 6 := .of (by omega) (fun s => lkr_300 (fun _ => s) (fun _ => none) hb hk)
end
section
/-! ===== counted loops ===== -/
def xit {S : Type} (step : Nat → S → S) : Nat → Nat → S → S
  | 0, _, s => s
  | f + 1, i, s => xit step f (i + 1) (step i s)
def xitR {S R : Type} (step : Nat → S → S ⊕ R) : Nat → Nat → S → S ⊕ R
  | 0, _, s => .inl s
  | f + 1, i, s => match step i s with
    | .inl s' => xitR step f (i + 1) s'
    | .inr r => .inr r
theorem sw_for {Y : XY} {k n : Nat} {S : Type} (step : Nat → S → S) (P : Nat → S → Prop) {hd : Nat} {hp : S → XH} {lc : Nat → S → List Value} {N : Nat}
    (hstep : ∀ i s, i < N → P i s → P (i + 1) (step i s) ∧ (SW Y k n (hp (step i s)) hd (lc (i + 1) (step i s)) [] → SW Y k n (hp s) hd (lc i s) [])) :
    ∀ (f i : Nat) (s : S), i + f = N → P i s → (P N (xit step f i s) → SW Y k n (hp (xit step f i s)) hd (lc N (xit step f i s)) []) → SW Y k n (hp s) hd (lc i s) []
  | 0, i, s, e, hP, kk => by
    obtain rfl : i = N := by omega
    exact kk hP
  | f + 1, i, s, e, hP, kk => by
    obtain ⟨h1, h2⟩ := hstep i s (by omega) hP
    exact h2 (sw_for step P hstep f (i + 1) (step i s) (by omega) h1 kk)
theorem sw_forR {Y : XY} {k n : Nat} {S R : Type} (step : Nat → S → S ⊕ R) (P : Nat → S → Prop) {FR : R → Prop} {hd : Nat} {hp : S → XH} {lc : Nat → S → List Value} {N : Nat}
    (hstep : ∀ i s, i < N → P i s → (∀ s', step i s = .inl s' → P (i + 1) s') ∧ ((∀ s', step i s = .inl s' → SW Y k n (hp s') hd (lc (i + 1) s') []) → (∀ r, step i s = .inr r → FR r) → SW Y k n (hp s) hd (lc i s) [])) :
    ∀ (f i : Nat) (s : S), i + f = N → P i s → (∀ s', xitR step f i s = .inl s' → P N s' → SW Y k n (hp s') hd (lc N s') []) → (∀ r, xitR step f i s = .inr r → FR r) → SW Y k n (hp s) hd (lc i s) []
  | 0, i, s, e, hP, kk, kr => by
    obtain rfl : i = N := by omega
    exact kk s rfl hP
  | f + 1, i, s, e, hP, kk, kr => by
    obtain ⟨h1, h2⟩ := hstep i s (by omega) hP
    refine h2 (fun s' e' => sw_forR step P hstep f (i + 1) s' (by omega) (h1 s' e') (fun s'' e'' => kk s'' ?_) (fun r e'' => kr r ?_)) (fun r e' => kr r ?_)
    · show (match step i s with | .inl s' => xitR step f (i + 1) s' | .inr r => .inr r) = _
      rw [e']; exact e''
    · show (match step i s with | .inl s' => xitR step f (i + 1) s' | .inr r => .inr r) = _
      rw [e']; exact e''
    · show (match step i s with | .inl s' => xitR step f (i + 1) s' | .inr r => .inr r) = _
      rw [e']
theorem xit_keep {S : Type} {step : Nat → S → S} {A : Type} (π : S → A) (h : ∀ i s, π (step i s) = π s) : ∀ (f i : Nat) (s : S), π (xit step f i s) = π s
  | 0, _, _ => rfl
  | f + 1, i, s => (xit_keep π h f (i + 1) (step i s)).trans (h i s)
theorem xit_inv {S : Type} {step : Nat → S → S} (P : S → Prop) {N : Nat} (h : ∀ i s, i < N → P s → P (step i s)) : ∀ (f i : Nat) (s : S), i + f = N → P s → P (xit step f i s)
  | 0, _, _, _, hP => hP
  | f + 1, i, s, e, hP => xit_inv P h f (i + 1) (step i s) (by omega) (h i s (by omega) hP)
/-! ===== Bundle ===== -/
def x_many_4 (c : Int32) (r : Nat) (s0 : Int32) : Int32 := xit (fun i4 s4 => s4 / 6) r 0 s0
def f_many (c : Int32) (r : Nat) : Int32 := (x_many_4 c r c) - (x_many_4 c r c) / 6 * 6
theorem ct_X0_many {l : Launch} {h : XH} (hl : l.stackTraces = false) {c : Int32} {r : Nat} (hr : r < 1000) : XEx l m_X0_many 0 0 0 [.int c, .int (nI r)] (h) (some (.int (f_many c r))) (h) := by
  refine XMet.of hl rfl rfl (Nat.le_of_ble_eq_true rfl) (fun Y O hh hQ => ?_)
  show SW Y 0 0 (h) 0 [.int c, .int (nI r), xx_d, xx_d] []
  refine sw_iload_n O (xx_dt dd_X0_many 0 rfl) rfl ?_
  refine sw_istore_n (ls2 := [.int c, .int (nI r), .int c, xx_d]) O (xx_dt dd_X0_many 1 rfl) (by decide) rfl ?_
  refine sw_iconst (x := 0) O (xx_dt dd_X0_many 2 rfl) (by decide) ?_
  refine sw_istore_n (ls2 := [.int c, .int (nI r), .int c, .int 0]) O (xx_dt dd_X0_many 3 rfl) (by decide) rfl ?_
  refine sw_for (fun i4 s4 => s4 / 6) (fun _ _ => True) (hp := fun _ => h) (hd := 4) (lc := fun i4 s4 => [.int c, .int (nI r), .int s4, .int (nI i4)]) (N := r) (fun i4 s4 hi4 hP4 => ⟨trivial, fun kk4 => ?_⟩) r 0 c (by omega) (trivial) (fun hP4 => ?_)
  · refine sw_iload_n O (xx_dt dd_X0_many 4 rfl) rfl ?_
    refine sw_iload_n O (xx_dt dd_X0_many 5 rfl) rfl ?_
    refine sw_icmp_ge (tgt := 20) O (xx_dt dd_X0_many 6 rfl) (by decide) (fun q1 => ?_) (fun q1 => ?_)
    · exact absurd q1 (nI_ge (b := r) hi4 (by omega))
    · refine sw_iload_n O (xx_dt dd_X0_many 7 rfl) rfl ?_
      refine sw_bipush (x := 6) O (xx_dt dd_X0_many 8 rfl) (by decide) ?_
      refine sw_idiv O (xx_dt dd_X0_many 9 rfl) (by first | decide | assumption) ?_
      refine sw_istore_n (ls2 := [.int c, .int (nI r), .int (s4 / 6), .int (nI i4)]) O (xx_dt dd_X0_many 10 rfl) (by decide) rfl ?_
      refine sw_iinc (y := nI (i4 + 1)) (ls2 := [.int c, .int (nI r), .int (s4 / 6), .int (nI (i4 + 1))]) O (xx_dt dd_X0_many 11 rfl) rfl (nI_1 _) (by decide) rfl ?_
      refine sw_goto (tgt := 4) O (xx_dt dd_X0_many 12 rfl) (by decide) ?_
      exact kk4
  · show SW Y _ _ (h) 4 [.int c, .int (nI r), .int (x_many_4 c r c), .int (nI r)] []
    refine sw_iload_n O (xx_dt dd_X0_many 4 rfl) rfl ?_
    refine sw_iload_n O (xx_dt dd_X0_many 5 rfl) rfl ?_
    refine sw_icmp_ge (tgt := 20) O (xx_dt dd_X0_many 6 rfl) (by decide) (fun q1 => ?_) (fun q1 => ?_)
    · refine sw_iload_n O (xx_dt dd_X0_many 13 rfl) rfl ?_
      refine sw_bipush (x := 6) O (xx_dt dd_X0_many 14 rfl) (by decide) ?_
      refine sw_irem O (xx_dt dd_X0_many 15 rfl) (by first | decide | assumption) ?_
      exact sw_iret O (xx_dt dd_X0_many 16 rfl) rfl rfl (by rw [hQ]; exact ⟨by unfold f_many; rfl, rfl⟩)
    · exact absurd (Int32.le_refl _) q1
def x_replaced_5 (c : Int32) (r : Nat) (m : Int32) (s0 : Int32) : Int32 := xit (fun i5 s5 => s5 * 6) r 0 s0
def f_replaced (c : Int32) (r : Nat) (m : Int32) : Int32 := c + ((m - (f_many c r)) * (x_replaced_5 c r m 1))
theorem ct_X0_replaced {l : Launch} {h : XH} (hl : l.stackTraces = false) {c m : Int32} {r : Nat} (hr : r < 1000) : XEx l m_X0_replaced 1 0 0 [.int c, .int (nI r), .int m] (h) (some (.int (f_replaced c r m))) (h) := by
  refine XMet.of hl rfl rfl (Nat.le_of_ble_eq_true rfl) (fun Y O hh hQ => ?_)
  show SW Y 0 0 (h) 0 [.int c, .int (nI r), .int m, xx_d, xx_d] []
  refine sw_iconst (x := 1) O (xx_dt dd_X0_replaced 0 rfl) (by decide) ?_
  refine sw_istore_n (ls2 := [.int c, .int (nI r), .int m, .int 1, xx_d]) O (xx_dt dd_X0_replaced 1 rfl) (by decide) rfl ?_
  refine sw_iconst (x := 0) O (xx_dt dd_X0_replaced 2 rfl) (by decide) ?_
  refine sw_istore (ls2 := [.int c, .int (nI r), .int m, .int 1, .int 0]) O (xx_dt dd_X0_replaced 3 rfl) (by decide) rfl ?_
  refine sw_for (fun i5 s5 => s5 * 6) (fun _ _ => True) (hp := fun _ => h) (hd := 5) (lc := fun i5 s5 => [.int c, .int (nI r), .int m, .int s5, .int (nI i5)]) (N := r) (fun i5 s5 hi5 hP5 => ⟨trivial, fun kk5 => ?_⟩) r 0 1 (by omega) (trivial) (fun hP5 => ?_)
  · refine sw_iload O (xx_dt dd_X0_replaced 4 rfl) rfl ?_
    refine sw_iload_n O (xx_dt dd_X0_replaced 5 rfl) rfl ?_
    refine sw_icmp_ge (tgt := 22) O (xx_dt dd_X0_replaced 6 rfl) (by decide) (fun q1 => ?_) (fun q1 => ?_)
    · exact absurd q1 (nI_ge (b := r) hi5 (by omega))
    · refine sw_iload_n O (xx_dt dd_X0_replaced 7 rfl) rfl ?_
      refine sw_bipush (x := 6) O (xx_dt dd_X0_replaced 8 rfl) (by decide) ?_
      refine sw_imul O (xx_dt dd_X0_replaced 9 rfl) ?_
      refine sw_istore_n (ls2 := [.int c, .int (nI r), .int m, .int (s5 * 6), .int (nI i5)]) O (xx_dt dd_X0_replaced 10 rfl) (by decide) rfl ?_
      refine sw_iinc (y := nI (i5 + 1)) (ls2 := [.int c, .int (nI r), .int m, .int (s5 * 6), .int (nI (i5 + 1))]) O (xx_dt dd_X0_replaced 11 rfl) rfl (nI_1 _) (by decide) rfl ?_
      refine sw_goto (tgt := 5) O (xx_dt dd_X0_replaced 12 rfl) (by decide) ?_
      exact kk5
  · show SW Y _ _ (h) 5 [.int c, .int (nI r), .int m, .int (x_replaced_5 c r m 1), .int (nI r)] []
    refine sw_iload O (xx_dt dd_X0_replaced 4 rfl) rfl ?_
    refine sw_iload_n O (xx_dt dd_X0_replaced 5 rfl) rfl ?_
    refine sw_icmp_ge (tgt := 22) O (xx_dt dd_X0_replaced 6 rfl) (by decide) (fun q1 => ?_) (fun q1 => ?_)
    · refine sw_iload_n O (xx_dt dd_X0_replaced 13 rfl) rfl ?_
      refine sw_iload_n O (xx_dt dd_X0_replaced 14 rfl) rfl ?_
      refine sw_iload_n O (xx_dt dd_X0_replaced 15 rfl) rfl ?_
      refine sw_iload_n O (xx_dt dd_X0_replaced 16 rfl) rfl ?_
      refine sw_callSx (as := [.int c, .int (nI r)]) (st := [.int m, .int c]) (st2 := [.int (f_many c r), .int m, .int c]) O (ct_X0_many hl (c := c) (r := r) (by omega)) ce_X0_many ml_X0_9 st_X0_many (xx_dt dd_X0_replaced 17 rfl) (by decide) rfl rfl (Nat.le_of_ble_eq_true rfl) rfl ?_
      refine sw_isub O (xx_dt dd_X0_replaced 18 rfl) ?_
      refine sw_iload_n O (xx_dt dd_X0_replaced 19 rfl) rfl ?_
      refine sw_imul O (xx_dt dd_X0_replaced 20 rfl) ?_
      refine sw_iadd O (xx_dt dd_X0_replaced 21 rfl) ?_
      exact sw_iret O (xx_dt dd_X0_replaced 22 rfl) rfl rfl (by rw [hQ]; exact ⟨by unfold f_replaced; rfl, rfl⟩)
    · exact absurd (Int32.le_refl _) q1
def x_total_7 (c : Int32) (n : Nat) (f : Nat → Int32) (s0 : Int32 × Int32) : Int32 × Int32 := xit (fun i7 s7 => (s7.1 / 6, s7.2 + ((s7.1 - s7.1 / 6 * 6) * (f i7)))) n 0 s0
def f_total (c : Int32) (n : Nat) (f : Nat → Int32) : Int32 := (x_total_7 c n f (c, 0)).2
theorem ct_X0_total {l : Launch} {h : XH} (hl : l.stackTraces = false) {c : Int32} {a n : Nat} {f : Nat → Int32} (ha : h a = some (100, n, fun k => .int (f k))) (hn : n < 1000) : XEx l m_X0_total 0 0 0 [.int c, .ref a] (h) (some (.int (f_total c n f))) (h) := by
  refine XMet.of hl rfl rfl (Nat.le_of_ble_eq_true rfl) (fun Y O hh hQ => ?_)
  show SW Y 0 0 (h) 0 [.int c, .ref a, xx_d, xx_d, xx_d] []
  refine sw_iload_n O (xx_dt dd_X0_total 0 rfl) rfl ?_
  refine sw_istore_n (ls2 := [.int c, .ref a, .int c, xx_d, xx_d]) O (xx_dt dd_X0_total 1 rfl) (by decide) rfl ?_
  refine sw_iconst (x := 0) O (xx_dt dd_X0_total 2 rfl) (by decide) ?_
  refine sw_istore_n (ls2 := [.int c, .ref a, .int c, .int 0, xx_d]) O (xx_dt dd_X0_total 3 rfl) (by decide) rfl ?_
  refine sw_iconst (x := 0) O (xx_dt dd_X0_total 4 rfl) (by decide) ?_
  refine sw_istore (ls2 := [.int c, .ref a, .int c, .int 0, .int 0]) O (xx_dt dd_X0_total 5 rfl) (by decide) rfl ?_
  refine sw_for (fun i7 s7 => (s7.1 / 6, s7.2 + ((s7.1 - s7.1 / 6 * 6) * (f i7)))) (fun _ _ => True) (hp := fun _ => h) (hd := 7) (lc := fun i7 s7 => [.int c, .ref a, .int s7.1, .int s7.2, .int (nI i7)]) (N := n) (fun i7 s7 hi7 hP7 => ⟨trivial, fun kk7 => ?_⟩) n 0 (c, 0) (by omega) (trivial) (fun hP7 => ?_)
  · refine sw_iload O (xx_dt dd_X0_total 6 rfl) rfl ?_
    refine sw_aload_n O (xx_dt dd_X0_total 7 rfl) rfl ?_
    refine sw_alen O (xx_dt dd_X0_total 8 rfl) (by omega) (by omega) (ha) ?_
    refine sw_icmp_ge (tgt := 37) O (xx_dt dd_X0_total 9 rfl) (by decide) (fun q1 => ?_) (fun q1 => ?_)
    · exact absurd q1 (nI_ge (b := n) hi7 (by omega))
    · refine sw_iload_n O (xx_dt dd_X0_total 10 rfl) rfl ?_
      refine sw_iload_n O (xx_dt dd_X0_total 11 rfl) rfl ?_
      refine sw_bipush (x := 6) O (xx_dt dd_X0_total 12 rfl) (by decide) ?_
      refine sw_irem O (xx_dt dd_X0_total 13 rfl) (by first | decide | assumption) ?_
      refine sw_aload_n O (xx_dt dd_X0_total 14 rfl) rfl ?_
      refine sw_iload O (xx_dt dd_X0_total 15 rfl) rfl ?_
      refine sw_iaload (v := .int (f i7)) O (xx_dt dd_X0_total 16 rfl) (ha) (pk_in i7 _ (by omega)) (by rw [nI_clamp (by omega)]; try exact rfl) ?_
      refine sw_imul O (xx_dt dd_X0_total 17 rfl) ?_
      refine sw_iadd O (xx_dt dd_X0_total 18 rfl) ?_
      refine sw_istore_n (ls2 := [.int c, .ref a, .int s7.1, .int (s7.2 + ((s7.1 - s7.1 / 6 * 6) * (f i7))), .int (nI i7)]) O (xx_dt dd_X0_total 19 rfl) (by decide) rfl ?_
      refine sw_iload_n O (xx_dt dd_X0_total 20 rfl) rfl ?_
      refine sw_bipush (x := 6) O (xx_dt dd_X0_total 21 rfl) (by decide) ?_
      refine sw_idiv O (xx_dt dd_X0_total 22 rfl) (by first | decide | assumption) ?_
      refine sw_istore_n (ls2 := [.int c, .ref a, .int (s7.1 / 6), .int (s7.2 + ((s7.1 - s7.1 / 6 * 6) * (f i7))), .int (nI i7)]) O (xx_dt dd_X0_total 23 rfl) (by decide) rfl ?_
      refine sw_iinc (y := nI (i7 + 1)) (ls2 := [.int c, .ref a, .int (s7.1 / 6), .int (s7.2 + ((s7.1 - s7.1 / 6 * 6) * (f i7))), .int (nI (i7 + 1))]) O (xx_dt dd_X0_total 24 rfl) rfl (nI_1 _) (by decide) rfl ?_
      refine sw_goto (tgt := 7) O (xx_dt dd_X0_total 25 rfl) (by decide) ?_
      exact kk7
  · show SW Y _ _ (h) 7 [.int c, .ref a, .int ((x_total_7 c n f (c, 0)).1), .int ((x_total_7 c n f (c, 0)).2), .int (nI n)] []
    refine sw_iload O (xx_dt dd_X0_total 6 rfl) rfl ?_
    refine sw_aload_n O (xx_dt dd_X0_total 7 rfl) rfl ?_
    refine sw_alen O (xx_dt dd_X0_total 8 rfl) (by omega) (by omega) (ha) ?_
    refine sw_icmp_ge (tgt := 37) O (xx_dt dd_X0_total 9 rfl) (by decide) (fun q1 => ?_) (fun q1 => ?_)
    · refine sw_iload_n O (xx_dt dd_X0_total 26 rfl) rfl ?_
      exact sw_iret O (xx_dt dd_X0_total 27 rfl) rfl rfl (by rw [hQ]; exact ⟨by unfold f_total; rfl, rfl⟩)
    · exact absurd (Int32.le_refl _) q1
def x_together_4 (n : Nat) (f : Nat → Int32) (r : Nat) (s0 : Int32) : Int32 := xit (fun i4 s4 => s4 + (f_many (f i4) r)) n 0 s0
def f_together (n : Nat) (f : Nat → Int32) (r : Nat) : Int32 := (x_together_4 n f r 0)
theorem ct_X0_together {l : Launch} {h : XH} (hl : l.stackTraces = false) {a n r : Nat} {f : Nat → Int32} (ha : h a = some (100, n, fun k => .int (f k))) (hn : n < 1000) (hr : r < 1000) : XEx l m_X0_together 1 0 0 [.ref a, .int (nI r)] (h) (some (.int (f_together n f r))) (h) := by
  refine XMet.of hl rfl rfl (Nat.le_of_ble_eq_true rfl) (fun Y O hh hQ => ?_)
  show SW Y 0 0 (h) 0 [.ref a, .int (nI r), xx_d, xx_d] []
  refine sw_iconst (x := 0) O (xx_dt dd_X0_together 0 rfl) (by decide) ?_
  refine sw_istore_n (ls2 := [.ref a, .int (nI r), .int 0, xx_d]) O (xx_dt dd_X0_together 1 rfl) (by decide) rfl ?_
  refine sw_iconst (x := 0) O (xx_dt dd_X0_together 2 rfl) (by decide) ?_
  refine sw_istore_n (ls2 := [.ref a, .int (nI r), .int 0, .int 0]) O (xx_dt dd_X0_together 3 rfl) (by decide) rfl ?_
  refine sw_for (fun i4 s4 => s4 + (f_many (f i4) r)) (fun _ _ => True) (hp := fun _ => h) (hd := 4) (lc := fun i4 s4 => [.ref a, .int (nI r), .int s4, .int (nI i4)]) (N := n) (fun i4 s4 hi4 hP4 => ⟨trivial, fun kk4 => ?_⟩) n 0 0 (by omega) (trivial) (fun hP4 => ?_)
  · refine sw_iload_n O (xx_dt dd_X0_together 4 rfl) rfl ?_
    refine sw_aload_n O (xx_dt dd_X0_together 5 rfl) rfl ?_
    refine sw_alen O (xx_dt dd_X0_together 6 rfl) (by omega) (by omega) (ha) ?_
    refine sw_icmp_ge (tgt := 26) O (xx_dt dd_X0_together 7 rfl) (by decide) (fun q1 => ?_) (fun q1 => ?_)
    · exact absurd q1 (nI_ge (b := n) hi4 (by omega))
    · refine sw_iload_n O (xx_dt dd_X0_together 8 rfl) rfl ?_
      refine sw_aload_n O (xx_dt dd_X0_together 9 rfl) rfl ?_
      refine sw_iload_n O (xx_dt dd_X0_together 10 rfl) rfl ?_
      refine sw_iaload (v := .int (f i4)) O (xx_dt dd_X0_together 11 rfl) (ha) (pk_in i4 _ (by omega)) (by rw [nI_clamp (by omega)]; try exact rfl) ?_
      refine sw_iload_n O (xx_dt dd_X0_together 12 rfl) rfl ?_
      refine sw_callSx (as := [.int (f i4), .int (nI r)]) (st := [.int s4]) (st2 := [.int (f_many (f i4) r), .int s4]) O (ct_X0_many hl (c := f i4) (r := r) (by omega)) ce_X0_many ml_X0_9 st_X0_many (xx_dt dd_X0_together 13 rfl) (by decide) rfl rfl (Nat.le_of_ble_eq_true rfl) rfl ?_
      refine sw_iadd O (xx_dt dd_X0_together 14 rfl) ?_
      refine sw_istore_n (ls2 := [.ref a, .int (nI r), .int (s4 + (f_many (f i4) r)), .int (nI i4)]) O (xx_dt dd_X0_together 15 rfl) (by decide) rfl ?_
      refine sw_iinc (y := nI (i4 + 1)) (ls2 := [.ref a, .int (nI r), .int (s4 + (f_many (f i4) r)), .int (nI (i4 + 1))]) O (xx_dt dd_X0_together 16 rfl) rfl (nI_1 _) (by decide) rfl ?_
      refine sw_goto (tgt := 4) O (xx_dt dd_X0_together 17 rfl) (by decide) ?_
      exact kk4
  · show SW Y _ _ (h) 4 [.ref a, .int (nI r), .int (x_together_4 n f r 0), .int (nI n)] []
    refine sw_iload_n O (xx_dt dd_X0_together 4 rfl) rfl ?_
    refine sw_aload_n O (xx_dt dd_X0_together 5 rfl) rfl ?_
    refine sw_alen O (xx_dt dd_X0_together 6 rfl) (by omega) (by omega) (ha) ?_
    refine sw_icmp_ge (tgt := 26) O (xx_dt dd_X0_together 7 rfl) (by decide) (fun q1 => ?_) (fun q1 => ?_)
    · refine sw_iload_n O (xx_dt dd_X0_together 18 rfl) rfl ?_
      exact sw_iret O (xx_dt dd_X0_together 19 rfl) rfl rfl (by rw [hQ]; exact ⟨by unfold f_together; rfl, rfl⟩)
    · exact absurd (Int32.le_refl _) q1
def x_isWithin_4 (c : Int32) (n : Nat) (f : Nat → Int32) (s0 : Int32) : Int32 ⊕ Int32 := xitR (fun i4 s4 => (if (s4 - s4 / 6 * 6) ≤ (f i4) then .inl (s4 / 6) else .inr 0)) n 0 s0
def f_isWithin (c : Int32) (n : Nat) (f : Nat → Int32) : Int32 := (match (x_isWithin_4 c n f c) with | .inl s4 => 1 | .inr r4 => r4)
theorem ct_X0_isWithin {l : Launch} {h : XH} (hl : l.stackTraces = false) {c : Int32} {a n : Nat} {f : Nat → Int32} (ha : h a = some (100, n, fun k => .int (f k))) (hn : n < 1000) : XEx l m_X0_isWithin 0 0 0 [.int c, .ref a] (h) (some (.int (f_isWithin c n f))) (h) := by
  refine XMet.of hl rfl rfl (Nat.le_of_ble_eq_true rfl) (fun Y O hh hQ => ?_)
  show SW Y 0 0 (h) 0 [.int c, .ref a, xx_d, xx_d] []
  refine sw_iload_n O (xx_dt dd_X0_isWithin 0 rfl) rfl ?_
  refine sw_istore_n (ls2 := [.int c, .ref a, .int c, xx_d]) O (xx_dt dd_X0_isWithin 1 rfl) (by decide) rfl ?_
  refine sw_iconst (x := 0) O (xx_dt dd_X0_isWithin 2 rfl) (by decide) ?_
  refine sw_istore_n (ls2 := [.int c, .ref a, .int c, .int 0]) O (xx_dt dd_X0_isWithin 3 rfl) (by decide) rfl ?_
  refine sw_forR (R := Int32) (fun i4 s4 => (if (s4 - s4 / 6 * 6) ≤ (f i4) then .inl (s4 / 6) else .inr 0)) (fun _ _ => True) (FR := fun r => f_isWithin c n f = r) (hp := fun _ => h) (hd := 4) (lc := fun i4 s4 => [.int c, .ref a, .int s4, .int (nI i4)]) (N := n) (fun i4 s4 hi4 hP4 => ⟨fun _ _ => trivial, fun kk4 kr4 => ?_⟩) n 0 c (by omega) (trivial) (fun sN4 eN4 hP4 => ?_) (fun r4 eN4 => ?_)
  · refine sw_iload_n O (xx_dt dd_X0_isWithin 4 rfl) rfl ?_
    refine sw_aload_n O (xx_dt dd_X0_isWithin 5 rfl) rfl ?_
    refine sw_alen O (xx_dt dd_X0_isWithin 6 rfl) (by omega) (by omega) (ha) ?_
    refine sw_icmp_ge (tgt := 33) O (xx_dt dd_X0_isWithin 7 rfl) (by decide) (fun q1 => ?_) (fun q1 => ?_)
    · exact absurd q1 (nI_ge (b := n) hi4 (by omega))
    · refine sw_iload_n O (xx_dt dd_X0_isWithin 8 rfl) rfl ?_
      refine sw_bipush (x := 6) O (xx_dt dd_X0_isWithin 9 rfl) (by decide) ?_
      refine sw_irem O (xx_dt dd_X0_isWithin 10 rfl) (by first | decide | assumption) ?_
      refine sw_aload_n O (xx_dt dd_X0_isWithin 11 rfl) rfl ?_
      refine sw_iload_n O (xx_dt dd_X0_isWithin 12 rfl) rfl ?_
      refine sw_iaload (v := .int (f i4)) O (xx_dt dd_X0_isWithin 13 rfl) (ha) (pk_in i4 _ (by omega)) (by rw [nI_clamp (by omega)]; try exact rfl) ?_
      refine sw_icmp_le (tgt := 22) O (xx_dt dd_X0_isWithin 14 rfl) (by decide) (fun q2 => ?_) (fun q2 => ?_)
      · refine sw_iload_n O (xx_dt dd_X0_isWithin 17 rfl) rfl ?_
        refine sw_bipush (x := 6) O (xx_dt dd_X0_isWithin 18 rfl) (by decide) ?_
        refine sw_idiv O (xx_dt dd_X0_isWithin 19 rfl) (by first | decide | assumption) ?_
        refine sw_istore_n (ls2 := [.int c, .ref a, .int (s4 / 6), .int (nI i4)]) O (xx_dt dd_X0_isWithin 20 rfl) (by decide) rfl ?_
        refine sw_iinc (y := nI (i4 + 1)) (ls2 := [.int c, .ref a, .int (s4 / 6), .int (nI (i4 + 1))]) O (xx_dt dd_X0_isWithin 21 rfl) rfl (nI_1 _) (by decide) rfl ?_
        refine sw_goto (tgt := 4) O (xx_dt dd_X0_isWithin 22 rfl) (by decide) ?_
        exact kk4 (s4 / 6) (by simp only [if_pos q2])
      · refine sw_iconst (x := 0) O (xx_dt dd_X0_isWithin 15 rfl) (by decide) ?_
        exact sw_iret O (xx_dt dd_X0_isWithin 16 rfl) rfl rfl (by rw [hQ, kr4 0 (by simp only [if_neg q2])]; exact ⟨rfl, rfl⟩)
  · show SW Y _ _ (h) 4 [.int c, .ref a, .int sN4, .int (nI n)] []
    refine sw_iload_n O (xx_dt dd_X0_isWithin 4 rfl) rfl ?_
    refine sw_aload_n O (xx_dt dd_X0_isWithin 5 rfl) rfl ?_
    refine sw_alen O (xx_dt dd_X0_isWithin 6 rfl) (by omega) (by omega) (ha) ?_
    refine sw_icmp_ge (tgt := 33) O (xx_dt dd_X0_isWithin 7 rfl) (by decide) (fun q1 => ?_) (fun q1 => ?_)
    · refine sw_iconst (x := 1) O (xx_dt dd_X0_isWithin 23 rfl) (by decide) ?_
      exact sw_iret O (xx_dt dd_X0_isWithin 24 rfl) rfl rfl (by rw [hQ]; exact ⟨by unfold f_isWithin; simp only [x_isWithin_4, eN4], rfl⟩)
    · exact absurd (Int32.le_refl _) q1
  · unfold f_isWithin; simp only [x_isWithin_4, eN4]
end
section
/-! ===== methods of the JDK that the class calls ===== -/
def f_bitCount (x : Int32) : Int32 := (((((((x - (((Int32.toUInt32 x >>> (Int32.toUInt32 1 &&& Int32.toUInt32 31)).toInt32) &&& 1431655765)) &&& 858993459) + (((Int32.toUInt32 (x - (((Int32.toUInt32 x >>> (Int32.toUInt32 1 &&& Int32.toUInt32 31)).toInt32) &&& 1431655765)) >>> (Int32.toUInt32 2 &&& Int32.toUInt32 31)).toInt32) &&& 858993459)) + ((Int32.toUInt32 (((x - (((Int32.toUInt32 x >>> (Int32.toUInt32 1 &&& Int32.toUInt32 31)).toInt32) &&& 1431655765)) &&& 858993459) + (((Int32.toUInt32 (x - (((Int32.toUInt32 x >>> (Int32.toUInt32 1 &&& Int32.toUInt32 31)).toInt32) &&& 1431655765)) >>> (Int32.toUInt32 2 &&& Int32.toUInt32 31)).toInt32) &&& 858993459)) >>> (Int32.toUInt32 4 &&& Int32.toUInt32 31)).toInt32)) &&& 252645135) + ((Int32.toUInt32 (((((x - (((Int32.toUInt32 x >>> (Int32.toUInt32 1 &&& Int32.toUInt32 31)).toInt32) &&& 1431655765)) &&& 858993459) + (((Int32.toUInt32 (x - (((Int32.toUInt32 x >>> (Int32.toUInt32 1 &&& Int32.toUInt32 31)).toInt32) &&& 1431655765)) >>> (Int32.toUInt32 2 &&& Int32.toUInt32 31)).toInt32) &&& 858993459)) + ((Int32.toUInt32 (((x - (((Int32.toUInt32 x >>> (Int32.toUInt32 1 &&& Int32.toUInt32 31)).toInt32) &&& 1431655765)) &&& 858993459) + (((Int32.toUInt32 (x - (((Int32.toUInt32 x >>> (Int32.toUInt32 1 &&& Int32.toUInt32 31)).toInt32) &&& 1431655765)) >>> (Int32.toUInt32 2 &&& Int32.toUInt32 31)).toInt32) &&& 858993459)) >>> (Int32.toUInt32 4 &&& Int32.toUInt32 31)).toInt32)) &&& 252645135) >>> (Int32.toUInt32 8 &&& Int32.toUInt32 31)).toInt32)) + ((Int32.toUInt32 ((((((x - (((Int32.toUInt32 x >>> (Int32.toUInt32 1 &&& Int32.toUInt32 31)).toInt32) &&& 1431655765)) &&& 858993459) + (((Int32.toUInt32 (x - (((Int32.toUInt32 x >>> (Int32.toUInt32 1 &&& Int32.toUInt32 31)).toInt32) &&& 1431655765)) >>> (Int32.toUInt32 2 &&& Int32.toUInt32 31)).toInt32) &&& 858993459)) + ((Int32.toUInt32 (((x - (((Int32.toUInt32 x >>> (Int32.toUInt32 1 &&& Int32.toUInt32 31)).toInt32) &&& 1431655765)) &&& 858993459) + (((Int32.toUInt32 (x - (((Int32.toUInt32 x >>> (Int32.toUInt32 1 &&& Int32.toUInt32 31)).toInt32) &&& 1431655765)) >>> (Int32.toUInt32 2 &&& Int32.toUInt32 31)).toInt32) &&& 858993459)) >>> (Int32.toUInt32 4 &&& Int32.toUInt32 31)).toInt32)) &&& 252645135) + ((Int32.toUInt32 (((((x - (((Int32.toUInt32 x >>> (Int32.toUInt32 1 &&& Int32.toUInt32 31)).toInt32) &&& 1431655765)) &&& 858993459) + (((Int32.toUInt32 (x - (((Int32.toUInt32 x >>> (Int32.toUInt32 1 &&& Int32.toUInt32 31)).toInt32) &&& 1431655765)) >>> (Int32.toUInt32 2 &&& Int32.toUInt32 31)).toInt32) &&& 858993459)) + ((Int32.toUInt32 (((x - (((Int32.toUInt32 x >>> (Int32.toUInt32 1 &&& Int32.toUInt32 31)).toInt32) &&& 1431655765)) &&& 858993459) + (((Int32.toUInt32 (x - (((Int32.toUInt32 x >>> (Int32.toUInt32 1 &&& Int32.toUInt32 31)).toInt32) &&& 1431655765)) >>> (Int32.toUInt32 2 &&& Int32.toUInt32 31)).toInt32) &&& 858993459)) >>> (Int32.toUInt32 4 &&& Int32.toUInt32 31)).toInt32)) &&& 252645135) >>> (Int32.toUInt32 8 &&& Int32.toUInt32 31)).toInt32)) >>> (Int32.toUInt32 16 &&& Int32.toUInt32 31)).toInt32)) &&& 63
theorem ct_J6_bitCount_0f7a4 {l : Launch} {h : XH} (hl : l.stackTraces = false) {x : Int32} : XEx l m_J6_bitCount_0f7a4 0 0 0 [.int x] (h) (some (.int (f_bitCount x))) (h) := by
  refine XMet.of hl rfl rfl (Nat.le_of_ble_eq_true rfl) (fun Y O hh hQ => ?_)
  show SW Y 0 0 (h) 0 [.int x] []
  refine sw_iload_n O (xx_dt dd_J6_bitCount_0f7a4 0 rfl) rfl ?_
  refine sw_iload_n O (xx_dt dd_J6_bitCount_0f7a4 1 rfl) rfl ?_
  refine sw_iconst (x := 1) O (xx_dt dd_J6_bitCount_0f7a4 2 rfl) (by decide) ?_
  refine sw_iushr O (xx_dt dd_J6_bitCount_0f7a4 3 rfl) ?_
  refine sw_ldcw O ct_J6_265 (xx_dt dd_J6_bitCount_0f7a4 4 rfl) ?_
  refine sw_iand O (xx_dt dd_J6_bitCount_0f7a4 5 rfl) ?_
  refine sw_isub O (xx_dt dd_J6_bitCount_0f7a4 6 rfl) ?_
  refine sw_istore_n (ls2 := [.int (x - (((Int32.toUInt32 x >>> (Int32.toUInt32 1 &&& Int32.toUInt32 31)).toInt32) &&& 1431655765))]) O (xx_dt dd_J6_bitCount_0f7a4 7 rfl) (by decide) rfl ?_
  refine sw_iload_n O (xx_dt dd_J6_bitCount_0f7a4 8 rfl) rfl ?_
  refine sw_ldcw O ct_J6_266 (xx_dt dd_J6_bitCount_0f7a4 9 rfl) ?_
  refine sw_iand O (xx_dt dd_J6_bitCount_0f7a4 10 rfl) ?_
  refine sw_iload_n O (xx_dt dd_J6_bitCount_0f7a4 11 rfl) rfl ?_
  refine sw_iconst (x := 2) O (xx_dt dd_J6_bitCount_0f7a4 12 rfl) (by decide) ?_
  refine sw_iushr O (xx_dt dd_J6_bitCount_0f7a4 13 rfl) ?_
  refine sw_ldcw O ct_J6_266 (xx_dt dd_J6_bitCount_0f7a4 14 rfl) ?_
  refine sw_iand O (xx_dt dd_J6_bitCount_0f7a4 15 rfl) ?_
  refine sw_iadd O (xx_dt dd_J6_bitCount_0f7a4 16 rfl) ?_
  refine sw_istore_n (ls2 := [.int (((x - (((Int32.toUInt32 x >>> (Int32.toUInt32 1 &&& Int32.toUInt32 31)).toInt32) &&& 1431655765)) &&& 858993459) + (((Int32.toUInt32 (x - (((Int32.toUInt32 x >>> (Int32.toUInt32 1 &&& Int32.toUInt32 31)).toInt32) &&& 1431655765)) >>> (Int32.toUInt32 2 &&& Int32.toUInt32 31)).toInt32) &&& 858993459))]) O (xx_dt dd_J6_bitCount_0f7a4 17 rfl) (by decide) rfl ?_
  refine sw_iload_n O (xx_dt dd_J6_bitCount_0f7a4 18 rfl) rfl ?_
  refine sw_iload_n O (xx_dt dd_J6_bitCount_0f7a4 19 rfl) rfl ?_
  refine sw_iconst (x := 4) O (xx_dt dd_J6_bitCount_0f7a4 20 rfl) (by decide) ?_
  refine sw_iushr O (xx_dt dd_J6_bitCount_0f7a4 21 rfl) ?_
  refine sw_iadd O (xx_dt dd_J6_bitCount_0f7a4 22 rfl) ?_
  refine sw_ldcw O ct_J6_267 (xx_dt dd_J6_bitCount_0f7a4 23 rfl) ?_
  refine sw_iand O (xx_dt dd_J6_bitCount_0f7a4 24 rfl) ?_
  refine sw_istore_n (ls2 := [.int (((((x - (((Int32.toUInt32 x >>> (Int32.toUInt32 1 &&& Int32.toUInt32 31)).toInt32) &&& 1431655765)) &&& 858993459) + (((Int32.toUInt32 (x - (((Int32.toUInt32 x >>> (Int32.toUInt32 1 &&& Int32.toUInt32 31)).toInt32) &&& 1431655765)) >>> (Int32.toUInt32 2 &&& Int32.toUInt32 31)).toInt32) &&& 858993459)) + ((Int32.toUInt32 (((x - (((Int32.toUInt32 x >>> (Int32.toUInt32 1 &&& Int32.toUInt32 31)).toInt32) &&& 1431655765)) &&& 858993459) + (((Int32.toUInt32 (x - (((Int32.toUInt32 x >>> (Int32.toUInt32 1 &&& Int32.toUInt32 31)).toInt32) &&& 1431655765)) >>> (Int32.toUInt32 2 &&& Int32.toUInt32 31)).toInt32) &&& 858993459)) >>> (Int32.toUInt32 4 &&& Int32.toUInt32 31)).toInt32)) &&& 252645135)]) O (xx_dt dd_J6_bitCount_0f7a4 25 rfl) (by decide) rfl ?_
  refine sw_iload_n O (xx_dt dd_J6_bitCount_0f7a4 26 rfl) rfl ?_
  refine sw_iload_n O (xx_dt dd_J6_bitCount_0f7a4 27 rfl) rfl ?_
  refine sw_bipush (x := 8) O (xx_dt dd_J6_bitCount_0f7a4 28 rfl) (by decide) ?_
  refine sw_iushr O (xx_dt dd_J6_bitCount_0f7a4 29 rfl) ?_
  refine sw_iadd O (xx_dt dd_J6_bitCount_0f7a4 30 rfl) ?_
  refine sw_istore_n (ls2 := [.int ((((((x - (((Int32.toUInt32 x >>> (Int32.toUInt32 1 &&& Int32.toUInt32 31)).toInt32) &&& 1431655765)) &&& 858993459) + (((Int32.toUInt32 (x - (((Int32.toUInt32 x >>> (Int32.toUInt32 1 &&& Int32.toUInt32 31)).toInt32) &&& 1431655765)) >>> (Int32.toUInt32 2 &&& Int32.toUInt32 31)).toInt32) &&& 858993459)) + ((Int32.toUInt32 (((x - (((Int32.toUInt32 x >>> (Int32.toUInt32 1 &&& Int32.toUInt32 31)).toInt32) &&& 1431655765)) &&& 858993459) + (((Int32.toUInt32 (x - (((Int32.toUInt32 x >>> (Int32.toUInt32 1 &&& Int32.toUInt32 31)).toInt32) &&& 1431655765)) >>> (Int32.toUInt32 2 &&& Int32.toUInt32 31)).toInt32) &&& 858993459)) >>> (Int32.toUInt32 4 &&& Int32.toUInt32 31)).toInt32)) &&& 252645135) + ((Int32.toUInt32 (((((x - (((Int32.toUInt32 x >>> (Int32.toUInt32 1 &&& Int32.toUInt32 31)).toInt32) &&& 1431655765)) &&& 858993459) + (((Int32.toUInt32 (x - (((Int32.toUInt32 x >>> (Int32.toUInt32 1 &&& Int32.toUInt32 31)).toInt32) &&& 1431655765)) >>> (Int32.toUInt32 2 &&& Int32.toUInt32 31)).toInt32) &&& 858993459)) + ((Int32.toUInt32 (((x - (((Int32.toUInt32 x >>> (Int32.toUInt32 1 &&& Int32.toUInt32 31)).toInt32) &&& 1431655765)) &&& 858993459) + (((Int32.toUInt32 (x - (((Int32.toUInt32 x >>> (Int32.toUInt32 1 &&& Int32.toUInt32 31)).toInt32) &&& 1431655765)) >>> (Int32.toUInt32 2 &&& Int32.toUInt32 31)).toInt32) &&& 858993459)) >>> (Int32.toUInt32 4 &&& Int32.toUInt32 31)).toInt32)) &&& 252645135) >>> (Int32.toUInt32 8 &&& Int32.toUInt32 31)).toInt32))]) O (xx_dt dd_J6_bitCount_0f7a4 31 rfl) (by decide) rfl ?_
  refine sw_iload_n O (xx_dt dd_J6_bitCount_0f7a4 32 rfl) rfl ?_
  refine sw_iload_n O (xx_dt dd_J6_bitCount_0f7a4 33 rfl) rfl ?_
  refine sw_bipush (x := 16) O (xx_dt dd_J6_bitCount_0f7a4 34 rfl) (by decide) ?_
  refine sw_iushr O (xx_dt dd_J6_bitCount_0f7a4 35 rfl) ?_
  refine sw_iadd O (xx_dt dd_J6_bitCount_0f7a4 36 rfl) ?_
  refine sw_istore_n (ls2 := [.int (((((((x - (((Int32.toUInt32 x >>> (Int32.toUInt32 1 &&& Int32.toUInt32 31)).toInt32) &&& 1431655765)) &&& 858993459) + (((Int32.toUInt32 (x - (((Int32.toUInt32 x >>> (Int32.toUInt32 1 &&& Int32.toUInt32 31)).toInt32) &&& 1431655765)) >>> (Int32.toUInt32 2 &&& Int32.toUInt32 31)).toInt32) &&& 858993459)) + ((Int32.toUInt32 (((x - (((Int32.toUInt32 x >>> (Int32.toUInt32 1 &&& Int32.toUInt32 31)).toInt32) &&& 1431655765)) &&& 858993459) + (((Int32.toUInt32 (x - (((Int32.toUInt32 x >>> (Int32.toUInt32 1 &&& Int32.toUInt32 31)).toInt32) &&& 1431655765)) >>> (Int32.toUInt32 2 &&& Int32.toUInt32 31)).toInt32) &&& 858993459)) >>> (Int32.toUInt32 4 &&& Int32.toUInt32 31)).toInt32)) &&& 252645135) + ((Int32.toUInt32 (((((x - (((Int32.toUInt32 x >>> (Int32.toUInt32 1 &&& Int32.toUInt32 31)).toInt32) &&& 1431655765)) &&& 858993459) + (((Int32.toUInt32 (x - (((Int32.toUInt32 x >>> (Int32.toUInt32 1 &&& Int32.toUInt32 31)).toInt32) &&& 1431655765)) >>> (Int32.toUInt32 2 &&& Int32.toUInt32 31)).toInt32) &&& 858993459)) + ((Int32.toUInt32 (((x - (((Int32.toUInt32 x >>> (Int32.toUInt32 1 &&& Int32.toUInt32 31)).toInt32) &&& 1431655765)) &&& 858993459) + (((Int32.toUInt32 (x - (((Int32.toUInt32 x >>> (Int32.toUInt32 1 &&& Int32.toUInt32 31)).toInt32) &&& 1431655765)) >>> (Int32.toUInt32 2 &&& Int32.toUInt32 31)).toInt32) &&& 858993459)) >>> (Int32.toUInt32 4 &&& Int32.toUInt32 31)).toInt32)) &&& 252645135) >>> (Int32.toUInt32 8 &&& Int32.toUInt32 31)).toInt32)) + ((Int32.toUInt32 ((((((x - (((Int32.toUInt32 x >>> (Int32.toUInt32 1 &&& Int32.toUInt32 31)).toInt32) &&& 1431655765)) &&& 858993459) + (((Int32.toUInt32 (x - (((Int32.toUInt32 x >>> (Int32.toUInt32 1 &&& Int32.toUInt32 31)).toInt32) &&& 1431655765)) >>> (Int32.toUInt32 2 &&& Int32.toUInt32 31)).toInt32) &&& 858993459)) + ((Int32.toUInt32 (((x - (((Int32.toUInt32 x >>> (Int32.toUInt32 1 &&& Int32.toUInt32 31)).toInt32) &&& 1431655765)) &&& 858993459) + (((Int32.toUInt32 (x - (((Int32.toUInt32 x >>> (Int32.toUInt32 1 &&& Int32.toUInt32 31)).toInt32) &&& 1431655765)) >>> (Int32.toUInt32 2 &&& Int32.toUInt32 31)).toInt32) &&& 858993459)) >>> (Int32.toUInt32 4 &&& Int32.toUInt32 31)).toInt32)) &&& 252645135) + ((Int32.toUInt32 (((((x - (((Int32.toUInt32 x >>> (Int32.toUInt32 1 &&& Int32.toUInt32 31)).toInt32) &&& 1431655765)) &&& 858993459) + (((Int32.toUInt32 (x - (((Int32.toUInt32 x >>> (Int32.toUInt32 1 &&& Int32.toUInt32 31)).toInt32) &&& 1431655765)) >>> (Int32.toUInt32 2 &&& Int32.toUInt32 31)).toInt32) &&& 858993459)) + ((Int32.toUInt32 (((x - (((Int32.toUInt32 x >>> (Int32.toUInt32 1 &&& Int32.toUInt32 31)).toInt32) &&& 1431655765)) &&& 858993459) + (((Int32.toUInt32 (x - (((Int32.toUInt32 x >>> (Int32.toUInt32 1 &&& Int32.toUInt32 31)).toInt32) &&& 1431655765)) >>> (Int32.toUInt32 2 &&& Int32.toUInt32 31)).toInt32) &&& 858993459)) >>> (Int32.toUInt32 4 &&& Int32.toUInt32 31)).toInt32)) &&& 252645135) >>> (Int32.toUInt32 8 &&& Int32.toUInt32 31)).toInt32)) >>> (Int32.toUInt32 16 &&& Int32.toUInt32 31)).toInt32))]) O (xx_dt dd_J6_bitCount_0f7a4 37 rfl) (by decide) rfl ?_
  refine sw_iload_n O (xx_dt dd_J6_bitCount_0f7a4 38 rfl) rfl ?_
  refine sw_bipush (x := 63) O (xx_dt dd_J6_bitCount_0f7a4 39 rfl) (by decide) ?_
  refine sw_iand O (xx_dt dd_J6_bitCount_0f7a4 40 rfl) ?_
  exact sw_iret O (xx_dt dd_J6_bitCount_0f7a4 41 rfl) rfl rfl (by rw [hQ]; exact ⟨by unfold f_bitCount; rfl, rfl⟩)
def x_fill_5 (σ : XS9) (a n : Nat) (x : Int32) (s0 : XS9) : XS9 := xit (fun i5 s5 => u2 s5 a i5 x) n 0 s0
def g_fill (σ : XS9) (a n : Nat) (x : Int32) : XS9 := (x_fill_5 σ a n x σ)
theorem ct_J7_fill_53178 {l : Launch} {h : XH} (hl : l.stackTraces = false) {σ : XS9} {a n : Nat} {x : Int32} (hA : isA a n) (hn : n < 1000) : XEx l m_J7_fill_53178 0 0 0 [.ref a, .int x] (setC σ h) (none) (setC (g_fill σ a n x) h) := by
  refine XMet.of hl rfl rfl (Nat.le_of_ble_eq_true rfl) (fun Y O hh hQ => ?_)
  show SW Y 0 0 (setC σ h) 0 [.ref a, .int x, xx_d, xx_d] []
  refine sw_iconst (x := 0) O (xx_dt dd_J7_fill_53178 0 rfl) (by decide) ?_
  refine sw_istore_n (ls2 := [.ref a, .int x, .int 0, xx_d]) O (xx_dt dd_J7_fill_53178 1 rfl) (by decide) rfl ?_
  refine sw_aload_n O (xx_dt dd_J7_fill_53178 2 rfl) rfl ?_
  refine sw_alen O (xx_dt dd_J7_fill_53178 3 rfl) (by omega) (by omega) ((hA.get _ _)) ?_
  refine sw_istore_n (ls2 := [.ref a, .int x, .int 0, .int (nI n)]) O (xx_dt dd_J7_fill_53178 4 rfl) (by decide) rfl ?_
  refine sw_for (fun i5 s5 => u2 s5 a i5 x) (fun _ _ => True) (hp := fun s5 => setC s5 h) (hd := 5) (lc := fun i5 s5 => [.ref a, .int x, .int (nI i5), .int (nI n)]) (N := n) (fun i5 s5 hi5 hP5 => ⟨trivial, fun kk5 => ?_⟩) n 0 σ (by omega) (trivial) (fun hP5 => ?_)
  · refine sw_iload_n O (xx_dt dd_J7_fill_53178 5 rfl) rfl ?_
    refine sw_iload_n O (xx_dt dd_J7_fill_53178 6 rfl) rfl ?_
    refine sw_icmp_ge (tgt := 20) O (xx_dt dd_J7_fill_53178 7 rfl) (by decide) (fun q1 => ?_) (fun q1 => ?_)
    · exact absurd q1 (nI_ge (b := n) hi5 (by omega))
    · refine sw_aload_n O (xx_dt dd_J7_fill_53178 8 rfl) rfl ?_
      refine sw_iload_n O (xx_dt dd_J7_fill_53178 9 rfl) rfl ?_
      refine sw_iload_n O (xx_dt dd_J7_fill_53178 10 rfl) rfl ?_
      refine sw_iastore (h2 := setC (u2 s5 a i5 x) h) O (xx_dt dd_J7_fill_53178 11 rfl) ((hA.get _ _)) (pk_in i5 _ (by omega)) hA.1.1 (by rw [nI_clamp (by omega)]; exact hA.put) ?_
      refine sw_iinc (y := nI (i5 + 1)) (ls2 := [.ref a, .int x, .int (nI (i5 + 1)), .int (nI n)]) O (xx_dt dd_J7_fill_53178 12 rfl) rfl (nI_1 _) (by decide) rfl ?_
      refine sw_goto (tgt := 5) O (xx_dt dd_J7_fill_53178 13 rfl) (by decide) ?_
      exact kk5
  · show SW Y _ _ (setC (x_fill_5 σ a n x σ) h) 5 [.ref a, .int x, .int (nI n), .int (nI n)] []
    refine sw_iload_n O (xx_dt dd_J7_fill_53178 5 rfl) rfl ?_
    refine sw_iload_n O (xx_dt dd_J7_fill_53178 6 rfl) rfl ?_
    refine sw_icmp_ge (tgt := 20) O (xx_dt dd_J7_fill_53178 7 rfl) (by decide) (fun q1 => ?_) (fun q1 => ?_)
    · exact sw_ret O (xx_dt dd_J7_fill_53178 14 rfl) rfl (by rw [hQ]; exact ⟨rfl, by unfold g_fill; rfl⟩)
    · exact absurd (Int32.le_refl _) q1
theorem fr_fill {σ : XS9} {a n : Nat} {x : Int32} {q : Nat} (h : q ≠ a) : g_fill σ a n x q = σ q := by
  unfold g_fill x_fill_5
  exact xit_keep (fun s : XS9 => s q) (fun i s => u2_ne h) _ _ _
end
section
def x_dearer_12 (c d : Int32) (n : Nat) (f g : Nat → Int32) (s0 : Int32 × Int32 × Int32) : Int32 × Int32 × Int32 := xit (fun i12 s12 => (s12.1 / 6, s12.2.1 / 6, s12.2.2 + (((f i12) - (g i12)) * ((s12.1 - s12.1 / 6 * 6) - (s12.2.1 - s12.2.1 / 6 * 6))))) n 0 s0
def f_dearer (c d : Int32) (n : Nat) (f g : Nat → Int32) : Int32 := (x_dearer_12 c d n f g (c, d, 0)).2.2
theorem ct_X0_dearer {l : Launch} {h : XH} (hl : l.stackTraces = false) {c d : Int32} {a b n : Nat} {f g : Nat → Int32} (ha : h a = some (100, n, fun k => .int (f k))) (hb : h b = some (100, n, fun k => .int (g k))) (hn : n < 1000) : XEx l m_X0_dearer 0 0 0 [.int c, .int d, .ref a, .ref b] (h) (some (.int (f_dearer c d n f g))) (h) := by
  refine XMet.of hl rfl rfl (Nat.le_of_ble_eq_true rfl) (fun Y O hh hQ => ?_)
  show SW Y 0 0 (h) 0 [.int c, .int d, .ref a, .ref b, xx_d, xx_d, xx_d, xx_d] []
  refine sw_iload_n O (xx_dt dd_X0_dearer 0 rfl) rfl ?_
  refine sw_istore (ls2 := [.int c, .int d, .ref a, .ref b, .int c, xx_d, xx_d, xx_d]) O (xx_dt dd_X0_dearer 1 rfl) (by decide) rfl ?_
  refine sw_iload_n O (xx_dt dd_X0_dearer 2 rfl) rfl ?_
  refine sw_istore (ls2 := [.int c, .int d, .ref a, .ref b, .int c, .int d, xx_d, xx_d]) O (xx_dt dd_X0_dearer 3 rfl) (by decide) rfl ?_
  refine sw_iconst (x := 0) O (xx_dt dd_X0_dearer 4 rfl) (by decide) ?_
  refine sw_istore (ls2 := [.int c, .int d, .ref a, .ref b, .int c, .int d, .int 0, xx_d]) O (xx_dt dd_X0_dearer 5 rfl) (by decide) rfl ?_
  refine sw_iconst (x := 0) O (xx_dt dd_X0_dearer 6 rfl) (by decide) ?_
  refine sw_istore (ls2 := [.int c, .int d, .ref a, .ref b, .int c, .int d, .int 0, .int 0]) O (xx_dt dd_X0_dearer 7 rfl) (by decide) rfl ?_
  refine sw_for (fun i12 s12 => (s12.1 / 6, s12.2.1 / 6, s12.2.2 + (((f i12) - (g i12)) * ((s12.1 - s12.1 / 6 * 6) - (s12.2.1 - s12.2.1 / 6 * 6))))) (fun _ _ => True) (hp := fun _ => h) (hd := 12) (lc := fun i12 s12 => [.int c, .int d, .ref a, .ref b, .int s12.1, .int s12.2.1, .int s12.2.2, .int (nI i12)]) (N := n) (fun i12 s12 hi12 hP12 => ⟨trivial, fun kk12 => ?_⟩) n 0 (c, d, 0) (by omega) (trivial) (fun hP12 => ?_)
  · refine sw_iload O (xx_dt dd_X0_dearer 8 rfl) rfl ?_
    refine sw_aload_n O (xx_dt dd_X0_dearer 9 rfl) rfl ?_
    refine sw_alen O (xx_dt dd_X0_dearer 10 rfl) (by omega) (by omega) (ha) ?_
    refine sw_icmp_ge (tgt := 72) O (xx_dt dd_X0_dearer 11 rfl) (by decide) (fun q1 => ?_) (fun q1 => ?_)
    · exact absurd q1 (nI_ge (b := n) hi12 (by omega))
    · refine sw_iload O (xx_dt dd_X0_dearer 12 rfl) rfl ?_
      refine sw_aload_n O (xx_dt dd_X0_dearer 13 rfl) rfl ?_
      refine sw_alen O (xx_dt dd_X0_dearer 14 rfl) (by omega) (by omega) (hb) ?_
      refine sw_icmp_ge (tgt := 72) O (xx_dt dd_X0_dearer 15 rfl) (by decide) (fun q2 => ?_) (fun q2 => ?_)
      · exact absurd q2 (nI_ge hi12 (by omega))
      · refine sw_iload O (xx_dt dd_X0_dearer 16 rfl) rfl ?_
        refine sw_aload_n O (xx_dt dd_X0_dearer 17 rfl) rfl ?_
        refine sw_iload O (xx_dt dd_X0_dearer 18 rfl) rfl ?_
        refine sw_iaload (v := .int (f i12)) O (xx_dt dd_X0_dearer 19 rfl) (ha) (pk_in i12 _ (by omega)) (by rw [nI_clamp (by omega)]; try exact rfl) ?_
        refine sw_aload_n O (xx_dt dd_X0_dearer 20 rfl) rfl ?_
        refine sw_iload O (xx_dt dd_X0_dearer 21 rfl) rfl ?_
        refine sw_iaload (v := .int (g i12)) O (xx_dt dd_X0_dearer 22 rfl) (hb) (pk_in i12 _ (by omega)) (by rw [nI_clamp (by omega)]; try exact rfl) ?_
        refine sw_isub O (xx_dt dd_X0_dearer 23 rfl) ?_
        refine sw_iload O (xx_dt dd_X0_dearer 24 rfl) rfl ?_
        refine sw_bipush (x := 6) O (xx_dt dd_X0_dearer 25 rfl) (by decide) ?_
        refine sw_irem O (xx_dt dd_X0_dearer 26 rfl) (by first | decide | assumption) ?_
        refine sw_iload O (xx_dt dd_X0_dearer 27 rfl) rfl ?_
        refine sw_bipush (x := 6) O (xx_dt dd_X0_dearer 28 rfl) (by decide) ?_
        refine sw_irem O (xx_dt dd_X0_dearer 29 rfl) (by first | decide | assumption) ?_
        refine sw_isub O (xx_dt dd_X0_dearer 30 rfl) ?_
        refine sw_imul O (xx_dt dd_X0_dearer 31 rfl) ?_
        refine sw_iadd O (xx_dt dd_X0_dearer 32 rfl) ?_
        refine sw_istore (ls2 := [.int c, .int d, .ref a, .ref b, .int s12.1, .int s12.2.1, .int (s12.2.2 + (((f i12) - (g i12)) * ((s12.1 - s12.1 / 6 * 6) - (s12.2.1 - s12.2.1 / 6 * 6)))), .int (nI i12)]) O (xx_dt dd_X0_dearer 33 rfl) (by decide) rfl ?_
        refine sw_iload O (xx_dt dd_X0_dearer 34 rfl) rfl ?_
        refine sw_bipush (x := 6) O (xx_dt dd_X0_dearer 35 rfl) (by decide) ?_
        refine sw_idiv O (xx_dt dd_X0_dearer 36 rfl) (by first | decide | assumption) ?_
        refine sw_istore (ls2 := [.int c, .int d, .ref a, .ref b, .int (s12.1 / 6), .int s12.2.1, .int (s12.2.2 + (((f i12) - (g i12)) * ((s12.1 - s12.1 / 6 * 6) - (s12.2.1 - s12.2.1 / 6 * 6)))), .int (nI i12)]) O (xx_dt dd_X0_dearer 37 rfl) (by decide) rfl ?_
        refine sw_iload O (xx_dt dd_X0_dearer 38 rfl) rfl ?_
        refine sw_bipush (x := 6) O (xx_dt dd_X0_dearer 39 rfl) (by decide) ?_
        refine sw_idiv O (xx_dt dd_X0_dearer 40 rfl) (by first | decide | assumption) ?_
        refine sw_istore (ls2 := [.int c, .int d, .ref a, .ref b, .int (s12.1 / 6), .int (s12.2.1 / 6), .int (s12.2.2 + (((f i12) - (g i12)) * ((s12.1 - s12.1 / 6 * 6) - (s12.2.1 - s12.2.1 / 6 * 6)))), .int (nI i12)]) O (xx_dt dd_X0_dearer 41 rfl) (by decide) rfl ?_
        refine sw_iinc (y := nI (i12 + 1)) (ls2 := [.int c, .int d, .ref a, .ref b, .int (s12.1 / 6), .int (s12.2.1 / 6), .int (s12.2.2 + (((f i12) - (g i12)) * ((s12.1 - s12.1 / 6 * 6) - (s12.2.1 - s12.2.1 / 6 * 6)))), .int (nI (i12 + 1))]) O (xx_dt dd_X0_dearer 42 rfl) rfl (nI_1 _) (by decide) rfl ?_
        refine sw_goto (tgt := 12) O (xx_dt dd_X0_dearer 43 rfl) (by decide) ?_
        exact kk12
  · show SW Y _ _ (h) 12 [.int c, .int d, .ref a, .ref b, .int ((x_dearer_12 c d n f g (c, d, 0)).1), .int ((x_dearer_12 c d n f g (c, d, 0)).2.1), .int ((x_dearer_12 c d n f g (c, d, 0)).2.2), .int (nI n)] []
    refine sw_iload O (xx_dt dd_X0_dearer 8 rfl) rfl ?_
    refine sw_aload_n O (xx_dt dd_X0_dearer 9 rfl) rfl ?_
    refine sw_alen O (xx_dt dd_X0_dearer 10 rfl) (by omega) (by omega) (ha) ?_
    refine sw_icmp_ge (tgt := 72) O (xx_dt dd_X0_dearer 11 rfl) (by decide) (fun q1 => ?_) (fun q1 => ?_)
    · refine sw_iload O (xx_dt dd_X0_dearer 44 rfl) rfl ?_
      exact sw_iret O (xx_dt dd_X0_dearer 45 rfl) rfl rfl (by rw [hQ]; exact ⟨by unfold f_dearer; rfl, rfl⟩)
    · exact absurd (Int32.le_refl _) q1
def f_areNeighbours (σ : XS9) (i j : Nat) : Int32 := (if ((σ 1013 i) &&& (1 <<< ((nI j) &&& 31))) = 0 then 0 else 1)
theorem ct_X6_areNeighbours {l : Launch} {h : XH} (hl : l.stackTraces = false) {σ : XS9} {i j : Nat} (hi : i < 5) : XEx l m_X6_areNeighbours 0 0 0 [.ref 1001, .int (nI i), .int (nI j)] (setC σ h) (some (.int (f_areNeighbours σ i j))) (setC σ h) := by
  refine XMet.of hl rfl rfl (Nat.le_of_ble_eq_true rfl) (fun Y O hh hQ => ?_)
  show SW Y 0 0 (setC σ h) 0 [.ref 1001, .int (nI i), .int (nI j)] []
  refine sw_aload_n O (xx_dt dd_X6_areNeighbours 0 rfl) rfl ?_
  refine sw_get (v := .ref 1013) O (xx_dt dd_X6_areNeighbours 1 rfl) cl_X6 fl_X6_21 (ly_1001 σ h) (by decide) rfl ?_
  refine sw_iload_n O (xx_dt dd_X6_areNeighbours 2 rfl) rfl ?_
  refine sw_iaload (v := .int (σ 1013 i)) O (xx_dt dd_X6_areNeighbours 3 rfl) (ly_1013 σ h) (pk_in i _ (by omega)) (by rw [nI_clamp (by omega)]; try exact rfl) ?_
  refine sw_iconst (x := 1) O (xx_dt dd_X6_areNeighbours 4 rfl) (by decide) ?_
  refine sw_iload_n O (xx_dt dd_X6_areNeighbours 5 rfl) rfl ?_
  refine sw_ishl O (xx_dt dd_X6_areNeighbours 6 rfl) ?_
  refine sw_iand O (xx_dt dd_X6_areNeighbours 7 rfl) ?_
  refine sw_if_eq (tgt := 17) O (xx_dt dd_X6_areNeighbours 8 rfl) (by decide) (fun q1 => ?_) (fun q1 => ?_)
  · refine sw_iconst (x := 0) O (xx_dt dd_X6_areNeighbours 11 rfl) (by decide) ?_
    exact sw_iret O (xx_dt dd_X6_areNeighbours 12 rfl) rfl rfl (by rw [hQ]; exact ⟨by unfold f_areNeighbours; simp only [if_pos q1], rfl⟩)
  · refine sw_iconst (x := 1) O (xx_dt dd_X6_areNeighbours 9 rfl) (by decide) ?_
    refine sw_goto (tgt := 18) O (xx_dt dd_X6_areNeighbours 10 rfl) (by decide) ?_
    exact sw_iret O (xx_dt dd_X6_areNeighbours 12 rfl) rfl rfl (by rw [hQ]; exact ⟨by unfold f_areNeighbours; simp only [if_neg q1], rfl⟩)
def f_areAllies (σ : XS9) (i j : Nat) : Int32 := (if (nI i) = (nI j) then 0 else (if (σ 1017 i) = 0 then 0 else (if (σ 1017 i) = (σ 1017 j) then 1 else 0)))
theorem ct_X6_areAllies {l : Launch} {h : XH} (hl : l.stackTraces = false) {σ : XS9} {i j : Nat} (hi : i < 6) (hj : j < 6) : XEx l m_X6_areAllies 0 0 0 [.ref 1001, .int (nI i), .int (nI j)] (setC σ h) (some (.int (f_areAllies σ i j))) (setC σ h) := by
  refine XMet.of hl rfl rfl (Nat.le_of_ble_eq_true rfl) (fun Y O hh hQ => ?_)
  show SW Y 0 0 (setC σ h) 0 [.ref 1001, .int (nI i), .int (nI j)] []
  refine sw_iload_n O (xx_dt dd_X6_areAllies 0 rfl) rfl ?_
  refine sw_iload_n O (xx_dt dd_X6_areAllies 1 rfl) rfl ?_
  refine sw_icmp_eq (tgt := 33) O (xx_dt dd_X6_areAllies 2 rfl) (by decide) (fun q1 => ?_) (fun q1 => ?_)
  · refine sw_iconst (x := 0) O (xx_dt dd_X6_areAllies 19 rfl) (by decide) ?_
    exact sw_iret O (xx_dt dd_X6_areAllies 20 rfl) rfl rfl (by rw [hQ]; exact ⟨by unfold f_areAllies; simp only [if_pos q1], rfl⟩)
  · refine sw_aload_n O (xx_dt dd_X6_areAllies 3 rfl) rfl ?_
    refine sw_get (v := .ref 1017) O (xx_dt dd_X6_areAllies 4 rfl) cl_X6 fl_X6_33 (ly_1001 σ h) (by decide) rfl ?_
    refine sw_iload_n O (xx_dt dd_X6_areAllies 5 rfl) rfl ?_
    refine sw_iaload (v := .int (σ 1017 i)) O (xx_dt dd_X6_areAllies 6 rfl) (ly_1017 σ h) (pk_in i _ (by omega)) (by rw [nI_clamp (by omega)]; try exact rfl) ?_
    refine sw_if_eq (tgt := 33) O (xx_dt dd_X6_areAllies 7 rfl) (by decide) (fun q2 => ?_) (fun q2 => ?_)
    · refine sw_iconst (x := 0) O (xx_dt dd_X6_areAllies 19 rfl) (by decide) ?_
      exact sw_iret O (xx_dt dd_X6_areAllies 20 rfl) rfl rfl (by rw [hQ]; exact ⟨by unfold f_areAllies; simp only [if_neg q1, if_pos q2], rfl⟩)
    · refine sw_aload_n O (xx_dt dd_X6_areAllies 8 rfl) rfl ?_
      refine sw_get (v := .ref 1017) O (xx_dt dd_X6_areAllies 9 rfl) cl_X6 fl_X6_33 (ly_1001 σ h) (by decide) rfl ?_
      refine sw_iload_n O (xx_dt dd_X6_areAllies 10 rfl) rfl ?_
      refine sw_iaload (v := .int (σ 1017 i)) O (xx_dt dd_X6_areAllies 11 rfl) (ly_1017 σ h) (pk_in i _ (by omega)) (by rw [nI_clamp (by omega)]; try exact rfl) ?_
      refine sw_aload_n O (xx_dt dd_X6_areAllies 12 rfl) rfl ?_
      refine sw_get (v := .ref 1017) O (xx_dt dd_X6_areAllies 13 rfl) cl_X6 fl_X6_33 (ly_1001 σ h) (by decide) rfl ?_
      refine sw_iload_n O (xx_dt dd_X6_areAllies 14 rfl) rfl ?_
      refine sw_iaload (v := .int (σ 1017 j)) O (xx_dt dd_X6_areAllies 15 rfl) (ly_1017 σ h) (pk_in j _ (by omega)) (by rw [nI_clamp (by omega)]; try exact rfl) ?_
      refine sw_icmp_ne (tgt := 33) O (xx_dt dd_X6_areAllies 16 rfl) (by decide) (fun q3 => ?_) (fun q3 => ?_)
      · refine sw_iconst (x := 0) O (xx_dt dd_X6_areAllies 19 rfl) (by decide) ?_
        exact sw_iret O (xx_dt dd_X6_areAllies 20 rfl) rfl rfl (by rw [hQ]; exact ⟨by unfold f_areAllies; simp only [if_neg q1, if_neg q2, if_neg q3], rfl⟩)
      · refine sw_iconst (x := 1) O (xx_dt dd_X6_areAllies 17 rfl) (by decide) ?_
        refine sw_goto (tgt := 34) O (xx_dt dd_X6_areAllies 18 rfl) (by decide) ?_
        exact sw_iret O (xx_dt dd_X6_areAllies 20 rfl) rfl rfl (by rw [hQ]; exact ⟨by unfold f_areAllies; simp only [if_neg q1, if_neg q2, if_pos q3], rfl⟩)
def x_isCode_4 (σ : XS9) (c : Int32) (R : Nat) (s0 : Int32) : Int32 := xit (fun i4 s4 => s4 * 6) R 0 s0
def f_isCode (σ : XS9) (c : Int32) (R : Nat) : Int32 := (if c < 0 then 0 else (if (x_isCode_4 σ c R 1) ≤ c then 0 else 1))
theorem ct_X6_isCode {l : Launch} {h : XH} (hl : l.stackTraces = false) {σ : XS9} {c : Int32} {R : Nat} (hR : σ 1001 4 = nI R) (hR5 : R ≤ 5) : XEx l m_X6_isCode 0 0 0 [.ref 1001, .int c] (setC σ h) (some (.int (f_isCode σ c R))) (setC σ h) := by
  refine XMet.of hl rfl rfl (Nat.le_of_ble_eq_true rfl) (fun Y O hh hQ => ?_)
  show SW Y 0 0 (setC σ h) 0 [.ref 1001, .int c, xx_d, xx_d] []
  refine sw_iconst (x := 1) O (xx_dt dd_X6_isCode 0 rfl) (by decide) ?_
  refine sw_istore_n (ls2 := [.ref 1001, .int c, .int 1, xx_d]) O (xx_dt dd_X6_isCode 1 rfl) (by decide) rfl ?_
  refine sw_iconst (x := 0) O (xx_dt dd_X6_isCode 2 rfl) (by decide) ?_
  refine sw_istore_n (ls2 := [.ref 1001, .int c, .int 1, .int 0]) O (xx_dt dd_X6_isCode 3 rfl) (by decide) rfl ?_
  refine sw_for (fun i4 s4 => s4 * 6) (fun _ _ => True) (hp := fun _ => setC σ h) (hd := 4) (lc := fun i4 s4 => [.ref 1001, .int c, .int s4, .int (nI i4)]) (N := R) (fun i4 s4 hi4 hP4 => ⟨trivial, fun kk4 => ?_⟩) R 0 1 (by omega) (trivial) (fun hP4 => ?_)
  · refine sw_iload_n O (xx_dt dd_X6_isCode 4 rfl) rfl ?_
    refine sw_aload_n O (xx_dt dd_X6_isCode 5 rfl) rfl ?_
    refine sw_get (v := .int (nI R)) O (xx_dt dd_X6_isCode 6 rfl) cl_X6 fl_X6_44 (ly_1001 σ h) (by decide) (congrArg Value.int hR) ?_
    refine sw_icmp_ge (tgt := 23) O (xx_dt dd_X6_isCode 7 rfl) (by decide) (fun q1 => ?_) (fun q1 => ?_)
    · exact absurd q1 (nI_ge (b := R) hi4 (by omega))
    · refine sw_iload_n O (xx_dt dd_X6_isCode 8 rfl) rfl ?_
      refine sw_bipush (x := 6) O (xx_dt dd_X6_isCode 9 rfl) (by decide) ?_
      refine sw_imul O (xx_dt dd_X6_isCode 10 rfl) ?_
      refine sw_istore_n (ls2 := [.ref 1001, .int c, .int (s4 * 6), .int (nI i4)]) O (xx_dt dd_X6_isCode 11 rfl) (by decide) rfl ?_
      refine sw_iinc (y := nI (i4 + 1)) (ls2 := [.ref 1001, .int c, .int (s4 * 6), .int (nI (i4 + 1))]) O (xx_dt dd_X6_isCode 12 rfl) rfl (nI_1 _) (by decide) rfl ?_
      refine sw_goto (tgt := 4) O (xx_dt dd_X6_isCode 13 rfl) (by decide) ?_
      exact kk4
  · show SW Y _ _ (setC σ h) 4 [.ref 1001, .int c, .int (x_isCode_4 σ c R 1), .int (nI R)] []
    refine sw_iload_n O (xx_dt dd_X6_isCode 4 rfl) rfl ?_
    refine sw_aload_n O (xx_dt dd_X6_isCode 5 rfl) rfl ?_
    refine sw_get (v := .int (nI R)) O (xx_dt dd_X6_isCode 6 rfl) cl_X6 fl_X6_44 (ly_1001 σ h) (by decide) (congrArg Value.int hR) ?_
    refine sw_icmp_ge (tgt := 23) O (xx_dt dd_X6_isCode 7 rfl) (by decide) (fun q1 => ?_) (fun q1 => ?_)
    · refine sw_iload_n O (xx_dt dd_X6_isCode 14 rfl) rfl ?_
      refine sw_if_lt (tgt := 36) O (xx_dt dd_X6_isCode 15 rfl) (by decide) (fun q2 => ?_) (fun q2 => ?_)
      · refine sw_iconst (x := 0) O (xx_dt dd_X6_isCode 21 rfl) (by decide) ?_
        exact sw_iret O (xx_dt dd_X6_isCode 22 rfl) rfl rfl (by rw [hQ]; exact ⟨by unfold f_isCode; simp only [if_pos q2], rfl⟩)
      · refine sw_iload_n O (xx_dt dd_X6_isCode 16 rfl) rfl ?_
        refine sw_iload_n O (xx_dt dd_X6_isCode 17 rfl) rfl ?_
        refine sw_icmp_ge (tgt := 36) O (xx_dt dd_X6_isCode 18 rfl) (by decide) (fun q3 => ?_) (fun q3 => ?_)
        · refine sw_iconst (x := 0) O (xx_dt dd_X6_isCode 21 rfl) (by decide) ?_
          exact sw_iret O (xx_dt dd_X6_isCode 22 rfl) rfl rfl (by rw [hQ]; exact ⟨by unfold f_isCode; simp only [if_neg q2, if_pos q3], rfl⟩)
        · refine sw_iconst (x := 1) O (xx_dt dd_X6_isCode 19 rfl) (by decide) ?_
          refine sw_goto (tgt := 37) O (xx_dt dd_X6_isCode 20 rfl) (by decide) ?_
          exact sw_iret O (xx_dt dd_X6_isCode 22 rfl) rfl rfl (by rw [hQ]; exact ⟨by unfold f_isCode; simp only [if_neg q2, if_neg q3], rfl⟩)
    · exact absurd (Int32.le_refl _) q1
def x_isWithinCap_2 (σ : XS9) (c : Int32) (R : Nat) (s0 : Unit) : Unit ⊕ Int32 := xitR (fun i2 s2 => (if (f_many c i2) ≤ (σ 1001 10) then .inl () else .inr 0)) R 0 s0
def f_isWithinCap (σ : XS9) (c : Int32) (R : Nat) : Int32 := (match (x_isWithinCap_2 σ c R ()) with | .inl s2 => 1 | .inr r2 => r2)
theorem ct_X6_isWithinCap {l : Launch} {h : XH} (hl : l.stackTraces = false) {σ : XS9} {c : Int32} {R : Nat} (hR : σ 1001 4 = nI R) (hR5 : R ≤ 5) : XEx l m_X6_isWithinCap 1 0 0 [.ref 1001, .int c] (setC σ h) (some (.int (f_isWithinCap σ c R))) (setC σ h) := by
  refine XMet.of hl rfl rfl (Nat.le_of_ble_eq_true rfl) (fun Y O hh hQ => ?_)
  show SW Y 0 0 (setC σ h) 0 [.ref 1001, .int c, xx_d] []
  refine sw_iconst (x := 0) O (xx_dt dd_X6_isWithinCap 0 rfl) (by decide) ?_
  refine sw_istore_n (ls2 := [.ref 1001, .int c, .int 0]) O (xx_dt dd_X6_isWithinCap 1 rfl) (by decide) rfl ?_
  refine sw_forR (R := Int32) (fun i2 s2 => (if (f_many c i2) ≤ (σ 1001 10) then .inl () else .inr 0)) (fun _ _ => True) (FR := fun r9 => f_isWithinCap σ c R = r9) (hp := fun _ => setC σ h) (hd := 2) (lc := fun i2 s2 => [.ref 1001, .int c, .int (nI i2)]) (N := R) (fun i2 s2 hi2 hP2 => ⟨fun _ _ => trivial, fun kk2 kr2 => ?_⟩) R 0 () (by omega) (trivial) (fun sN2 eN2 hP2 => ?_) (fun r2 eN2 => ?_)
  · refine sw_iload_n O (xx_dt dd_X6_isWithinCap 2 rfl) rfl ?_
    refine sw_aload_n O (xx_dt dd_X6_isWithinCap 3 rfl) rfl ?_
    refine sw_get (v := .int (nI R)) O (xx_dt dd_X6_isWithinCap 4 rfl) cl_X6 fl_X6_44 (ly_1001 σ h) (by decide) (congrArg Value.int hR) ?_
    refine sw_icmp_ge (tgt := 30) O (xx_dt dd_X6_isWithinCap 5 rfl) (by decide) (fun q1 => ?_) (fun q1 => ?_)
    · exact absurd q1 (nI_ge (b := R) hi2 (by omega))
    · refine sw_iload_n O (xx_dt dd_X6_isWithinCap 6 rfl) rfl ?_
      refine sw_iload_n O (xx_dt dd_X6_isWithinCap 7 rfl) rfl ?_
      refine sw_callSx (as := [.int c, .int (nI i2)]) (st := []) (st2 := [.int (f_many c i2)]) O (ct_X0_many hl (c := c) (r := i2) (by omega)) ce_X0_many ml_X6_70 st_X0_many (xx_dt dd_X6_isWithinCap 8 rfl) (by decide) rfl rfl (Nat.le_of_ble_eq_true rfl) rfl ?_
      refine sw_aload_n O (xx_dt dd_X6_isWithinCap 9 rfl) rfl ?_
      refine sw_get (v := .int (σ 1001 10)) O (xx_dt dd_X6_isWithinCap 10 rfl) cl_X6 fl_X6_36 (ly_1001 σ h) (by decide) rfl ?_
      refine sw_icmp_le (tgt := 24) O (xx_dt dd_X6_isWithinCap 11 rfl) (by decide) (fun q2 => ?_) (fun q2 => ?_)
      · refine sw_iinc (y := nI (i2 + 1)) (ls2 := [.ref 1001, .int c, .int (nI (i2 + 1))]) O (xx_dt dd_X6_isWithinCap 14 rfl) rfl (nI_1 _) (by decide) rfl ?_
        refine sw_goto (tgt := 2) O (xx_dt dd_X6_isWithinCap 15 rfl) (by decide) ?_
        exact kk2 () (by simp only [if_pos q2])
      · refine sw_iconst (x := 0) O (xx_dt dd_X6_isWithinCap 12 rfl) (by decide) ?_
        exact sw_iret O (xx_dt dd_X6_isWithinCap 13 rfl) rfl rfl (by rw [hQ, kr2 0 (by simp only [if_neg q2])]; exact ⟨rfl, rfl⟩)
  · show SW Y _ _ (setC σ h) 2 [.ref 1001, .int c, .int (nI R)] []
    refine sw_iload_n O (xx_dt dd_X6_isWithinCap 2 rfl) rfl ?_
    refine sw_aload_n O (xx_dt dd_X6_isWithinCap 3 rfl) rfl ?_
    refine sw_get (v := .int (nI R)) O (xx_dt dd_X6_isWithinCap 4 rfl) cl_X6 fl_X6_44 (ly_1001 σ h) (by decide) (congrArg Value.int hR) ?_
    refine sw_icmp_ge (tgt := 30) O (xx_dt dd_X6_isWithinCap 5 rfl) (by decide) (fun q1 => ?_) (fun q1 => ?_)
    · refine sw_iconst (x := 1) O (xx_dt dd_X6_isWithinCap 16 rfl) (by decide) ?_
      exact sw_iret O (xx_dt dd_X6_isWithinCap 17 rfl) rfl rfl (by rw [hQ]; exact ⟨by unfold f_isWithinCap; simp only [x_isWithinCap_2, eN2], rfl⟩)
    · exact absurd (Int32.le_refl _) q1
  · unfold f_isWithinCap; simp only [x_isWithinCap_2, eN2]
def f_mayOffer (σ : XS9) (i : Nat) (c x : Int32) (R : Nat) : Int32 := (if c = 0 then 0 else (if (f_isWithin c 5 (σ 1010)) = 0 then 0 else (if (f_isWithinCap σ c R) = 0 then 0 else (if x < (f_total c 5 (σ 1012)) then 0 else (if (σ 1014 i) < x then 0 else 1)))))
theorem ct_X6_mayOffer {l : Launch} {h : XH} (hl : l.stackTraces = false) {σ : XS9} {c x : Int32} {i R : Nat} (hi : i < 6) (hR : σ 1001 4 = nI R) (hR5 : R ≤ 5) : XEx l m_X6_mayOffer 2 0 0 [.ref 1001, .int (nI i), .int c, .int x] (setC σ h) (some (.int (f_mayOffer σ i c x R))) (setC σ h) := by
  refine XMet.of hl rfl rfl (Nat.le_of_ble_eq_true rfl) (fun Y O hh hQ => ?_)
  show SW Y 0 0 (setC σ h) 0 [.ref 1001, .int (nI i), .int c, .int x] []
  refine sw_iload_n O (xx_dt dd_X6_mayOffer 0 rfl) rfl ?_
  refine sw_if_eq (tgt := 49) O (xx_dt dd_X6_mayOffer 1 rfl) (by decide) (fun q1 => ?_) (fun q1 => ?_)
  · refine sw_iconst (x := 0) O (xx_dt dd_X6_mayOffer 25 rfl) (by decide) ?_
    exact sw_iret O (xx_dt dd_X6_mayOffer 26 rfl) rfl rfl (by rw [hQ]; exact ⟨by unfold f_mayOffer; simp only [if_pos q1], rfl⟩)
  · refine sw_iload_n O (xx_dt dd_X6_mayOffer 2 rfl) rfl ?_
    refine sw_aload_n O (xx_dt dd_X6_mayOffer 3 rfl) rfl ?_
    refine sw_get (v := .ref 1010) O (xx_dt dd_X6_mayOffer 4 rfl) cl_X6 fl_X6_9 (ly_1001 σ h) (by decide) rfl ?_
    refine sw_callSx (as := [.int c, .ref 1010]) (st := []) (st2 := [.int (f_isWithin c 5 (σ 1010))]) O (ct_X0_isWithin hl (c := c) (f := σ 1010) (ia_1010.getE rfl) (by omega)) ce_X0_isWithin ml_X6_58 st_X0_isWithin (xx_dt dd_X6_mayOffer 5 rfl) (by decide) rfl rfl (Nat.le_of_ble_eq_true rfl) rfl ?_
    refine sw_if_eq (tgt := 49) O (xx_dt dd_X6_mayOffer 6 rfl) (by decide) (fun q2 => ?_) (fun q2 => ?_)
    · refine sw_iconst (x := 0) O (xx_dt dd_X6_mayOffer 25 rfl) (by decide) ?_
      exact sw_iret O (xx_dt dd_X6_mayOffer 26 rfl) rfl rfl (by rw [hQ]; exact ⟨by unfold f_mayOffer; simp only [if_neg q1, if_pos q2], rfl⟩)
    · refine sw_aload_n O (xx_dt dd_X6_mayOffer 7 rfl) rfl ?_
      refine sw_iload_n O (xx_dt dd_X6_mayOffer 8 rfl) rfl ?_
      refine sw_callVx (as := [.int c]) (st := []) (st2 := [.int (f_isWithinCap σ c R)]) O (ct_X6_isWithinCap hl (σ := σ) (c := c) hR hR5) ce_X6_isWithinCap ml_X6_62 iv_X6_isWithinCap cl_X6 rfl (ly_1001 σ h) (xx_dt dd_X6_mayOffer 9 rfl) (by decide) rfl rfl (Nat.le_of_ble_eq_true rfl) rfl ?_
      refine sw_if_eq (tgt := 49) O (xx_dt dd_X6_mayOffer 10 rfl) (by decide) (fun q3 => ?_) (fun q3 => ?_)
      · refine sw_iconst (x := 0) O (xx_dt dd_X6_mayOffer 25 rfl) (by decide) ?_
        exact sw_iret O (xx_dt dd_X6_mayOffer 26 rfl) rfl rfl (by rw [hQ]; exact ⟨by unfold f_mayOffer; simp only [if_neg q1, if_neg q2, if_pos q3], rfl⟩)
      · refine sw_iload_n O (xx_dt dd_X6_mayOffer 11 rfl) rfl ?_
        refine sw_iload_n O (xx_dt dd_X6_mayOffer 12 rfl) rfl ?_
        refine sw_aload_n O (xx_dt dd_X6_mayOffer 13 rfl) rfl ?_
        refine sw_get (v := .ref 1012) O (xx_dt dd_X6_mayOffer 14 rfl) cl_X6 fl_X6_18 (ly_1001 σ h) (by decide) rfl ?_
        refine sw_callSx (as := [.int c, .ref 1012]) (st := [.int x]) (st2 := [.int (f_total c 5 (σ 1012)), .int x]) O (ct_X0_total hl (c := c) (f := σ 1012) (ia_1012.getE rfl) (by omega)) ce_X0_total ml_X6_66 st_X0_total (xx_dt dd_X6_mayOffer 15 rfl) (by decide) rfl rfl (Nat.le_of_ble_eq_true rfl) rfl ?_
        refine sw_icmp_lt (tgt := 49) O (xx_dt dd_X6_mayOffer 16 rfl) (by decide) (fun q4 => ?_) (fun q4 => ?_)
        · refine sw_iconst (x := 0) O (xx_dt dd_X6_mayOffer 25 rfl) (by decide) ?_
          exact sw_iret O (xx_dt dd_X6_mayOffer 26 rfl) rfl rfl (by rw [hQ]; exact ⟨by unfold f_mayOffer; simp only [if_neg q1, if_neg q2, if_neg q3, if_pos q4], rfl⟩)
        · refine sw_iload_n O (xx_dt dd_X6_mayOffer 17 rfl) rfl ?_
          refine sw_aload_n O (xx_dt dd_X6_mayOffer 18 rfl) rfl ?_
          refine sw_get (v := .ref 1014) O (xx_dt dd_X6_mayOffer 19 rfl) cl_X6 fl_X6_24 (ly_1001 σ h) (by decide) rfl ?_
          refine sw_iload_n O (xx_dt dd_X6_mayOffer 20 rfl) rfl ?_
          refine sw_iaload (v := .int (σ 1014 i)) O (xx_dt dd_X6_mayOffer 21 rfl) (ly_1014 σ h) (pk_in i _ (by omega)) (by rw [nI_clamp (by omega)]; try exact rfl) ?_
          refine sw_icmp_gt (tgt := 49) O (xx_dt dd_X6_mayOffer 22 rfl) (by decide) (fun q5 => ?_) (fun q5 => ?_)
          · refine sw_iconst (x := 0) O (xx_dt dd_X6_mayOffer 25 rfl) (by decide) ?_
            exact sw_iret O (xx_dt dd_X6_mayOffer 26 rfl) rfl rfl (by rw [hQ]; exact ⟨by unfold f_mayOffer; simp only [if_neg q1, if_neg q2, if_neg q3, if_neg q4, if_pos q5], rfl⟩)
          · refine sw_iconst (x := 1) O (xx_dt dd_X6_mayOffer 23 rfl) (by decide) ?_
            refine sw_goto (tgt := 50) O (xx_dt dd_X6_mayOffer 24 rfl) (by decide) ?_
            exact sw_iret O (xx_dt dd_X6_mayOffer 26 rfl) rfl rfl (by rw [hQ]; exact ⟨by unfold f_mayOffer; simp only [if_neg q1, if_neg q2, if_neg q3, if_neg q4, if_neg q5], rfl⟩)
def f_addRegion (σ : XS9) (x y z : Int32) (R : Nat) : Int32 := nI R
def g_addRegion (σ : XS9) (x y z : Int32) (R : Nat) : XS9 := u2 (u2 (u2 (u2 σ 1010 R x) 1011 R y) 1012 R z) 1001 4 (nI (R + 1))
theorem ct_X6_addRegion {l : Launch} {h : XH} (hl : l.stackTraces = false) {σ : XS9} {x y z : Int32} {R : Nat} (hR : σ 1001 4 = nI R) (hR5 : R < 5) : XEx l m_X6_addRegion 0 0 0 [.ref 1001, .int x, .int y, .int z] (setC σ h) (some (.int (f_addRegion σ x y z R))) (setC (g_addRegion σ x y z R) h) := by
  refine XMet.of hl rfl rfl (Nat.le_of_ble_eq_true rfl) (fun Y O hh hQ => ?_)
  show SW Y 0 0 (setC σ h) 0 [.ref 1001, .int x, .int y, .int z, xx_d] []
  refine sw_aload_n O (xx_dt dd_X6_addRegion 0 rfl) rfl ?_
  refine sw_get (v := .int (nI R)) O (xx_dt dd_X6_addRegion 1 rfl) cl_X6 fl_X6_44 (ly_1001 σ h) (by decide) (congrArg Value.int hR) ?_
  refine sw_istore (ls2 := [.ref 1001, .int x, .int y, .int z, .int (nI R)]) O (xx_dt dd_X6_addRegion 2 rfl) (by decide) rfl ?_
  refine sw_iload O (xx_dt dd_X6_addRegion 3 rfl) rfl ?_
  refine sw_iconst (x := 5) O (xx_dt dd_X6_addRegion 4 rfl) (by decide) ?_
  refine sw_icmp_ge (tgt := 46) O (xx_dt dd_X6_addRegion 5 rfl) (by decide) (fun q1 => ?_) (fun q1 => ?_)
  · exact absurd q1 (nI_ge (b := 5) hR5 (by omega))
  · refine sw_aload_n O (xx_dt dd_X6_addRegion 6 rfl) rfl ?_
    refine sw_get (v := .ref 1010) O (xx_dt dd_X6_addRegion 7 rfl) cl_X6 fl_X6_9 (ly_1001 σ h) (by decide) rfl ?_
    refine sw_iload O (xx_dt dd_X6_addRegion 8 rfl) rfl ?_
    refine sw_iload_n O (xx_dt dd_X6_addRegion 9 rfl) rfl ?_
    refine sw_iastore (h2 := setC (u2 σ 1010 R x) h) O (xx_dt dd_X6_addRegion 10 rfl) (ly_1010 σ h) (pk_in R _ (by omega)) (by decide) (by rw [nI_clamp (by omega)]; exact pa_1010) ?_
    refine sw_aload_n O (xx_dt dd_X6_addRegion 11 rfl) rfl ?_
    refine sw_get (v := .ref 1011) O (xx_dt dd_X6_addRegion 12 rfl) cl_X6 fl_X6_15 (ly_1001 (u2 σ 1010 R x) h) (by decide) rfl ?_
    refine sw_iload O (xx_dt dd_X6_addRegion 13 rfl) rfl ?_
    refine sw_iload_n O (xx_dt dd_X6_addRegion 14 rfl) rfl ?_
    refine sw_iastore (h2 := setC (u2 (u2 σ 1010 R x) 1011 R y) h) O (xx_dt dd_X6_addRegion 15 rfl) (ly_1011 (u2 σ 1010 R x) h) (pk_in R _ (by omega)) (by decide) (by rw [nI_clamp (by omega)]; exact pa_1011) ?_
    refine sw_aload_n O (xx_dt dd_X6_addRegion 16 rfl) rfl ?_
    refine sw_get (v := .ref 1012) O (xx_dt dd_X6_addRegion 17 rfl) cl_X6 fl_X6_18 (ly_1001 (u2 (u2 σ 1010 R x) 1011 R y) h) (by decide) rfl ?_
    refine sw_iload O (xx_dt dd_X6_addRegion 18 rfl) rfl ?_
    refine sw_iload_n O (xx_dt dd_X6_addRegion 19 rfl) rfl ?_
    refine sw_iastore (h2 := setC (u2 (u2 (u2 σ 1010 R x) 1011 R y) 1012 R z) h) O (xx_dt dd_X6_addRegion 20 rfl) (ly_1012 (u2 (u2 σ 1010 R x) 1011 R y) h) (pk_in R _ (by omega)) (by decide) (by rw [nI_clamp (by omega)]; exact pa_1012) ?_
    refine sw_aload_n O (xx_dt dd_X6_addRegion 21 rfl) rfl ?_
    refine sw_dup O (xx_dt dd_X6_addRegion 22 rfl) rfl ?_
    refine sw_get (v := .int (nI R)) O (xx_dt dd_X6_addRegion 23 rfl) cl_X6 fl_X6_44 (ly_1001 (u2 (u2 (u2 σ 1010 R x) 1011 R y) 1012 R z) h) (by decide) (congrArg Value.int hR) ?_
    refine sw_iconst (x := 1) O (xx_dt dd_X6_addRegion 24 rfl) (by decide) ?_
    refine sw_iadd O (xx_dt dd_X6_addRegion 25 rfl) ?_
    rw [nI_a1 R]
    refine sw_put (h2 := setC (u2 (u2 (u2 (u2 σ 1010 R x) 1011 R y) 1012 R z) 1001 4 (nI (R + 1))) h) O (xx_dt dd_X6_addRegion 26 rfl) cl_X6 fl_X6_44 (ly_1001 (u2 (u2 (u2 σ 1010 R x) 1011 R y) 1012 R z) h) (by decide) (by decide) rfl (fun _ => ⟨rfl, rfl⟩) pu_1001_4 ?_
    refine sw_iload O (xx_dt dd_X6_addRegion 27 rfl) rfl ?_
    exact sw_iret O (xx_dt dd_X6_addRegion 28 rfl) rfl rfl (by rw [hQ]; exact ⟨by unfold f_addRegion; rfl, by unfold g_addRegion; rfl⟩)
def f_addBidder (σ : XS9) (x y z w : Int32) (B : Nat) : Int32 := nI B
def g_addBidder (σ : XS9) (x y z w : Int32) (B : Nat) : XS9 := u2 (u2 (u2 (u2 (u2 σ 1014 B x) 1015 B y) 1016 B z) 1017 B w) 1001 9 (nI (B + 1))
theorem ct_X6_addBidder {l : Launch} {h : XH} (hl : l.stackTraces = false) {σ : XS9} {x y z w : Int32} {B : Nat} (hB : σ 1001 9 = nI B) (hB6 : B < 6) : XEx l m_X6_addBidder 0 0 0 [.ref 1001, .int x, .int y, .int z, .int w] (setC σ h) (some (.int (f_addBidder σ x y z w B))) (setC (g_addBidder σ x y z w B) h) := by
  refine XMet.of hl rfl rfl (Nat.le_of_ble_eq_true rfl) (fun Y O hh hQ => ?_)
  show SW Y 0 0 (setC σ h) 0 [.ref 1001, .int x, .int y, .int z, .int w, xx_d] []
  refine sw_aload_n O (xx_dt dd_X6_addBidder 0 rfl) rfl ?_
  refine sw_get (v := .int (nI B)) O (xx_dt dd_X6_addBidder 1 rfl) cl_X6 fl_X6_53 (ly_1001 σ h) (by decide) (congrArg Value.int hB) ?_
  refine sw_istore (ls2 := [.ref 1001, .int x, .int y, .int z, .int w, .int (nI B)]) O (xx_dt dd_X6_addBidder 2 rfl) (by decide) rfl ?_
  refine sw_iload O (xx_dt dd_X6_addBidder 3 rfl) rfl ?_
  refine sw_bipush (x := 6) O (xx_dt dd_X6_addBidder 4 rfl) (by decide) ?_
  refine sw_icmp_ge (tgt := 56) O (xx_dt dd_X6_addBidder 5 rfl) (by decide) (fun q1 => ?_) (fun q1 => ?_)
  · exact absurd q1 (nI_ge (b := 6) hB6 (by omega))
  · refine sw_aload_n O (xx_dt dd_X6_addBidder 6 rfl) rfl ?_
    refine sw_get (v := .ref 1014) O (xx_dt dd_X6_addBidder 7 rfl) cl_X6 fl_X6_24 (ly_1001 σ h) (by decide) rfl ?_
    refine sw_iload O (xx_dt dd_X6_addBidder 8 rfl) rfl ?_
    refine sw_iload_n O (xx_dt dd_X6_addBidder 9 rfl) rfl ?_
    refine sw_iastore (h2 := setC (u2 σ 1014 B x) h) O (xx_dt dd_X6_addBidder 10 rfl) (ly_1014 σ h) (pk_in B _ (by omega)) (by decide) (by rw [nI_clamp (by omega)]; exact pa_1014) ?_
    refine sw_aload_n O (xx_dt dd_X6_addBidder 11 rfl) rfl ?_
    refine sw_get (v := .ref 1015) O (xx_dt dd_X6_addBidder 12 rfl) cl_X6 fl_X6_27 (ly_1001 (u2 σ 1014 B x) h) (by decide) rfl ?_
    refine sw_iload O (xx_dt dd_X6_addBidder 13 rfl) rfl ?_
    refine sw_iload_n O (xx_dt dd_X6_addBidder 14 rfl) rfl ?_
    refine sw_iastore (h2 := setC (u2 (u2 σ 1014 B x) 1015 B y) h) O (xx_dt dd_X6_addBidder 15 rfl) (ly_1015 (u2 σ 1014 B x) h) (pk_in B _ (by omega)) (by decide) (by rw [nI_clamp (by omega)]; exact pa_1015) ?_
    refine sw_aload_n O (xx_dt dd_X6_addBidder 16 rfl) rfl ?_
    refine sw_get (v := .ref 1016) O (xx_dt dd_X6_addBidder 17 rfl) cl_X6 fl_X6_30 (ly_1001 (u2 (u2 σ 1014 B x) 1015 B y) h) (by decide) rfl ?_
    refine sw_iload O (xx_dt dd_X6_addBidder 18 rfl) rfl ?_
    refine sw_iload_n O (xx_dt dd_X6_addBidder 19 rfl) rfl ?_
    refine sw_iastore (h2 := setC (u2 (u2 (u2 σ 1014 B x) 1015 B y) 1016 B z) h) O (xx_dt dd_X6_addBidder 20 rfl) (ly_1016 (u2 (u2 σ 1014 B x) 1015 B y) h) (pk_in B _ (by omega)) (by decide) (by rw [nI_clamp (by omega)]; exact pa_1016) ?_
    refine sw_aload_n O (xx_dt dd_X6_addBidder 21 rfl) rfl ?_
    refine sw_get (v := .ref 1017) O (xx_dt dd_X6_addBidder 22 rfl) cl_X6 fl_X6_33 (ly_1001 (u2 (u2 (u2 σ 1014 B x) 1015 B y) 1016 B z) h) (by decide) rfl ?_
    refine sw_iload O (xx_dt dd_X6_addBidder 23 rfl) rfl ?_
    refine sw_iload O (xx_dt dd_X6_addBidder 24 rfl) rfl ?_
    refine sw_iastore (h2 := setC (u2 (u2 (u2 (u2 σ 1014 B x) 1015 B y) 1016 B z) 1017 B w) h) O (xx_dt dd_X6_addBidder 25 rfl) (ly_1017 (u2 (u2 (u2 σ 1014 B x) 1015 B y) 1016 B z) h) (pk_in B _ (by omega)) (by decide) (by rw [nI_clamp (by omega)]; exact pa_1017) ?_
    refine sw_aload_n O (xx_dt dd_X6_addBidder 26 rfl) rfl ?_
    refine sw_dup O (xx_dt dd_X6_addBidder 27 rfl) rfl ?_
    refine sw_get (v := .int (nI B)) O (xx_dt dd_X6_addBidder 28 rfl) cl_X6 fl_X6_53 (ly_1001 (u2 (u2 (u2 (u2 σ 1014 B x) 1015 B y) 1016 B z) 1017 B w) h) (by decide) (congrArg Value.int hB) ?_
    refine sw_iconst (x := 1) O (xx_dt dd_X6_addBidder 29 rfl) (by decide) ?_
    refine sw_iadd O (xx_dt dd_X6_addBidder 30 rfl) ?_
    rw [nI_a1 B]
    refine sw_put (h2 := setC (u2 (u2 (u2 (u2 (u2 σ 1014 B x) 1015 B y) 1016 B z) 1017 B w) 1001 9 (nI (B + 1))) h) O (xx_dt dd_X6_addBidder 31 rfl) cl_X6 fl_X6_53 (ly_1001 (u2 (u2 (u2 (u2 σ 1014 B x) 1015 B y) 1016 B z) 1017 B w) h) (by decide) (by decide) rfl (fun _ => ⟨rfl, rfl⟩) pu_1001_9 ?_
    refine sw_iload O (xx_dt dd_X6_addBidder 32 rfl) rfl ?_
    exact sw_iret O (xx_dt dd_X6_addBidder 33 rfl) rfl rfl (by rw [hQ]; exact ⟨by unfold f_addBidder; rfl, by unfold g_addBidder; rfl⟩)
def x_addBorder_29 (σ : XS9) (i j R : Nat) (s0 : Int32) : Int32 := xit (fun i29 s29 => s29 + (f_bitCount ((u2 (u2 σ 1013 i ((σ 1013 i) ||| (1 <<< ((nI j) &&& 31)))) 1013 j (((u2 σ 1013 i ((σ 1013 i) ||| (1 <<< ((nI j) &&& 31)))) 1013 j) ||| (1 <<< ((nI i) &&& 31)))) 1013 i29))) R 0 s0
def f_addBorder (σ : XS9) (i j R : Nat) : Int32 := (x_addBorder_29 σ i j R 0) / 2
def g_addBorder (σ : XS9) (i j R : Nat) : XS9 := u2 (u2 σ 1013 i ((σ 1013 i) ||| (1 <<< ((nI j) &&& 31)))) 1013 j (((u2 σ 1013 i ((σ 1013 i) ||| (1 <<< ((nI j) &&& 31)))) 1013 j) ||| (1 <<< ((nI i) &&& 31)))
theorem ct_X6_addBorder {l : Launch} {h : XH} (hl : l.stackTraces = false) {σ : XS9} {i j R : Nat} (hi : i < 5) (hj : j < 5) (hR : σ 1001 4 = nI R) (hR5 : R ≤ 5) : XEx l m_X6_addBorder 1 0 0 [.ref 1001, .int (nI i), .int (nI j)] (setC σ h) (some (.int (f_addBorder σ i j R))) (setC (g_addBorder σ i j R) h) := by
  refine XMet.of hl rfl rfl (Nat.le_of_ble_eq_true rfl) (fun Y O hh hQ => ?_)
  show SW Y 0 0 (setC σ h) 0 [.ref 1001, .int (nI i), .int (nI j), xx_d, xx_d] []
  refine sw_aload_n O (xx_dt dd_X6_addBorder 0 rfl) rfl ?_
  refine sw_get (v := .ref 1013) O (xx_dt dd_X6_addBorder 1 rfl) cl_X6 fl_X6_21 (ly_1001 σ h) (by decide) rfl ?_
  refine sw_iload_n O (xx_dt dd_X6_addBorder 2 rfl) rfl ?_
  refine sw_dup2 O (xx_dt dd_X6_addBorder 3 rfl) rfl rfl ?_
  refine sw_iaload (v := .int (σ 1013 i)) O (xx_dt dd_X6_addBorder 4 rfl) (ly_1013 σ h) (pk_in i _ (by omega)) (by rw [nI_clamp (by omega)]; try exact rfl) ?_
  refine sw_iconst (x := 1) O (xx_dt dd_X6_addBorder 5 rfl) (by decide) ?_
  refine sw_iload_n O (xx_dt dd_X6_addBorder 6 rfl) rfl ?_
  refine sw_ishl O (xx_dt dd_X6_addBorder 7 rfl) ?_
  refine sw_ior O (xx_dt dd_X6_addBorder 8 rfl) ?_
  refine sw_iastore (h2 := setC (u2 σ 1013 i ((σ 1013 i) ||| (1 <<< ((nI j) &&& 31)))) h) O (xx_dt dd_X6_addBorder 9 rfl) (ly_1013 σ h) (pk_in i _ (by omega)) (by decide) (by rw [nI_clamp (by omega)]; exact pa_1013) ?_
  refine sw_aload_n O (xx_dt dd_X6_addBorder 10 rfl) rfl ?_
  refine sw_get (v := .ref 1013) O (xx_dt dd_X6_addBorder 11 rfl) cl_X6 fl_X6_21 (ly_1001 (u2 σ 1013 i ((σ 1013 i) ||| (1 <<< ((nI j) &&& 31)))) h) (by decide) rfl ?_
  refine sw_iload_n O (xx_dt dd_X6_addBorder 12 rfl) rfl ?_
  refine sw_dup2 O (xx_dt dd_X6_addBorder 13 rfl) rfl rfl ?_
  refine sw_iaload (v := .int ((u2 σ 1013 i ((σ 1013 i) ||| (1 <<< ((nI j) &&& 31)))) 1013 j)) O (xx_dt dd_X6_addBorder 14 rfl) (ly_1013 (u2 σ 1013 i ((σ 1013 i) ||| (1 <<< ((nI j) &&& 31)))) h) (pk_in j _ (by omega)) (by rw [nI_clamp (by omega)]; try exact rfl) ?_
  refine sw_iconst (x := 1) O (xx_dt dd_X6_addBorder 15 rfl) (by decide) ?_
  refine sw_iload_n O (xx_dt dd_X6_addBorder 16 rfl) rfl ?_
  refine sw_ishl O (xx_dt dd_X6_addBorder 17 rfl) ?_
  refine sw_ior O (xx_dt dd_X6_addBorder 18 rfl) ?_
  refine sw_iastore (h2 := setC (u2 (u2 σ 1013 i ((σ 1013 i) ||| (1 <<< ((nI j) &&& 31)))) 1013 j (((u2 σ 1013 i ((σ 1013 i) ||| (1 <<< ((nI j) &&& 31)))) 1013 j) ||| (1 <<< ((nI i) &&& 31)))) h) O (xx_dt dd_X6_addBorder 19 rfl) (ly_1013 (u2 σ 1013 i ((σ 1013 i) ||| (1 <<< ((nI j) &&& 31)))) h) (pk_in j _ (by omega)) (by decide) (by rw [nI_clamp (by omega)]; exact pa_1013) ?_
  refine sw_iconst (x := 0) O (xx_dt dd_X6_addBorder 20 rfl) (by decide) ?_
  refine sw_istore_n (ls2 := [.ref 1001, .int (nI i), .int (nI j), .int 0, xx_d]) O (xx_dt dd_X6_addBorder 21 rfl) (by decide) rfl ?_
  refine sw_iconst (x := 0) O (xx_dt dd_X6_addBorder 22 rfl) (by decide) ?_
  refine sw_istore (ls2 := [.ref 1001, .int (nI i), .int (nI j), .int 0, .int 0]) O (xx_dt dd_X6_addBorder 23 rfl) (by decide) rfl ?_
  refine sw_for (fun i29 s29 => s29 + (f_bitCount ((u2 (u2 σ 1013 i ((σ 1013 i) ||| (1 <<< ((nI j) &&& 31)))) 1013 j (((u2 σ 1013 i ((σ 1013 i) ||| (1 <<< ((nI j) &&& 31)))) 1013 j) ||| (1 <<< ((nI i) &&& 31)))) 1013 i29))) (fun _ _ => True) (hp := fun _ => setC (u2 (u2 σ 1013 i ((σ 1013 i) ||| (1 <<< ((nI j) &&& 31)))) 1013 j (((u2 σ 1013 i ((σ 1013 i) ||| (1 <<< ((nI j) &&& 31)))) 1013 j) ||| (1 <<< ((nI i) &&& 31)))) h) (hd := 29) (lc := fun i29 s29 => [.ref 1001, .int (nI i), .int (nI j), .int s29, .int (nI i29)]) (N := R) (fun i29 s29 hi29 hP29 => ⟨trivial, fun kk29 => ?_⟩) R 0 0 (by omega) (trivial) (fun hP29 => ?_)
  · refine sw_iload O (xx_dt dd_X6_addBorder 24 rfl) rfl ?_
    refine sw_aload_n O (xx_dt dd_X6_addBorder 25 rfl) rfl ?_
    refine sw_get (v := .int (nI R)) O (xx_dt dd_X6_addBorder 26 rfl) cl_X6 fl_X6_44 (ly_1001 (u2 (u2 σ 1013 i ((σ 1013 i) ||| (1 <<< ((nI j) &&& 31)))) 1013 j (((u2 σ 1013 i ((σ 1013 i) ||| (1 <<< ((nI j) &&& 31)))) 1013 j) ||| (1 <<< ((nI i) &&& 31)))) h) (by decide) (congrArg Value.int hR) ?_
    refine sw_icmp_ge (tgt := 57) O (xx_dt dd_X6_addBorder 27 rfl) (by decide) (fun q1 => ?_) (fun q1 => ?_)
    · exact absurd q1 (nI_ge (b := R) hi29 (by omega))
    · refine sw_iload_n O (xx_dt dd_X6_addBorder 28 rfl) rfl ?_
      refine sw_aload_n O (xx_dt dd_X6_addBorder 29 rfl) rfl ?_
      refine sw_get (v := .ref 1013) O (xx_dt dd_X6_addBorder 30 rfl) cl_X6 fl_X6_21 (ly_1001 (u2 (u2 σ 1013 i ((σ 1013 i) ||| (1 <<< ((nI j) &&& 31)))) 1013 j (((u2 σ 1013 i ((σ 1013 i) ||| (1 <<< ((nI j) &&& 31)))) 1013 j) ||| (1 <<< ((nI i) &&& 31)))) h) (by decide) rfl ?_
      refine sw_iload O (xx_dt dd_X6_addBorder 31 rfl) rfl ?_
      refine sw_iaload (v := .int ((u2 (u2 σ 1013 i ((σ 1013 i) ||| (1 <<< ((nI j) &&& 31)))) 1013 j (((u2 σ 1013 i ((σ 1013 i) ||| (1 <<< ((nI j) &&& 31)))) 1013 j) ||| (1 <<< ((nI i) &&& 31)))) 1013 i29)) O (xx_dt dd_X6_addBorder 32 rfl) (ly_1013 (u2 (u2 σ 1013 i ((σ 1013 i) ||| (1 <<< ((nI j) &&& 31)))) 1013 j (((u2 σ 1013 i ((σ 1013 i) ||| (1 <<< ((nI j) &&& 31)))) 1013 j) ||| (1 <<< ((nI i) &&& 31)))) h) (pk_in i29 _ (by omega)) (by rw [nI_clamp (by omega)]; try exact rfl) ?_
      refine sw_callSx (as := [.int ((u2 (u2 σ 1013 i ((σ 1013 i) ||| (1 <<< ((nI j) &&& 31)))) 1013 j (((u2 σ 1013 i ((σ 1013 i) ||| (1 <<< ((nI j) &&& 31)))) 1013 j) ||| (1 <<< ((nI i) &&& 31)))) 1013 i29)]) (st := [.int s29]) (st2 := [.int (f_bitCount ((u2 (u2 σ 1013 i ((σ 1013 i) ||| (1 <<< ((nI j) &&& 31)))) 1013 j (((u2 σ 1013 i ((σ 1013 i) ||| (1 <<< ((nI j) &&& 31)))) 1013 j) ||| (1 <<< ((nI i) &&& 31)))) 1013 i29)), .int s29]) O (ct_J6_bitCount_0f7a4 hl (x := (u2 (u2 σ 1013 i ((σ 1013 i) ||| (1 <<< ((nI j) &&& 31)))) 1013 j (((u2 σ 1013 i ((σ 1013 i) ||| (1 <<< ((nI j) &&& 31)))) 1013 j) ||| (1 <<< ((nI i) &&& 31)))) 1013 i29)) ce_J6_bitCount_0f7a4 ml_X6_47 st_J6_bitCount_0f7a4 (xx_dt dd_X6_addBorder 33 rfl) (by decide) rfl rfl (Nat.le_of_ble_eq_true rfl) rfl ?_
      refine sw_iadd O (xx_dt dd_X6_addBorder 34 rfl) ?_
      refine sw_istore_n (ls2 := [.ref 1001, .int (nI i), .int (nI j), .int (s29 + (f_bitCount ((u2 (u2 σ 1013 i ((σ 1013 i) ||| (1 <<< ((nI j) &&& 31)))) 1013 j (((u2 σ 1013 i ((σ 1013 i) ||| (1 <<< ((nI j) &&& 31)))) 1013 j) ||| (1 <<< ((nI i) &&& 31)))) 1013 i29))), .int (nI i29)]) O (xx_dt dd_X6_addBorder 35 rfl) (by decide) rfl ?_
      refine sw_iinc (y := nI (i29 + 1)) (ls2 := [.ref 1001, .int (nI i), .int (nI j), .int (s29 + (f_bitCount ((u2 (u2 σ 1013 i ((σ 1013 i) ||| (1 <<< ((nI j) &&& 31)))) 1013 j (((u2 σ 1013 i ((σ 1013 i) ||| (1 <<< ((nI j) &&& 31)))) 1013 j) ||| (1 <<< ((nI i) &&& 31)))) 1013 i29))), .int (nI (i29 + 1))]) O (xx_dt dd_X6_addBorder 36 rfl) rfl (nI_1 _) (by decide) rfl ?_
      refine sw_goto (tgt := 29) O (xx_dt dd_X6_addBorder 37 rfl) (by decide) ?_
      exact kk29
  · show SW Y _ _ (setC (u2 (u2 σ 1013 i ((σ 1013 i) ||| (1 <<< ((nI j) &&& 31)))) 1013 j (((u2 σ 1013 i ((σ 1013 i) ||| (1 <<< ((nI j) &&& 31)))) 1013 j) ||| (1 <<< ((nI i) &&& 31)))) h) 29 [.ref 1001, .int (nI i), .int (nI j), .int (x_addBorder_29 σ i j R 0), .int (nI R)] []
    refine sw_iload O (xx_dt dd_X6_addBorder 24 rfl) rfl ?_
    refine sw_aload_n O (xx_dt dd_X6_addBorder 25 rfl) rfl ?_
    refine sw_get (v := .int (nI R)) O (xx_dt dd_X6_addBorder 26 rfl) cl_X6 fl_X6_44 (ly_1001 (u2 (u2 σ 1013 i ((σ 1013 i) ||| (1 <<< ((nI j) &&& 31)))) 1013 j (((u2 σ 1013 i ((σ 1013 i) ||| (1 <<< ((nI j) &&& 31)))) 1013 j) ||| (1 <<< ((nI i) &&& 31)))) h) (by decide) (congrArg Value.int hR) ?_
    refine sw_icmp_ge (tgt := 57) O (xx_dt dd_X6_addBorder 27 rfl) (by decide) (fun q1 => ?_) (fun q1 => ?_)
    · refine sw_iload_n O (xx_dt dd_X6_addBorder 38 rfl) rfl ?_
      refine sw_iconst (x := 2) O (xx_dt dd_X6_addBorder 39 rfl) (by decide) ?_
      refine sw_idiv O (xx_dt dd_X6_addBorder 40 rfl) (by first | decide | assumption) ?_
      exact sw_iret O (xx_dt dd_X6_addBorder 41 rfl) rfl rfl (by rw [hQ]; exact ⟨by unfold f_addBorder; rfl, by unfold g_addBorder; rfl⟩)
    · exact absurd (Int32.le_refl _) q1
end
