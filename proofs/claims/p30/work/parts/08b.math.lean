/-! ===== Math.max, Math.min ===== -/
section
variable {Y : XY} {M : XM} {l : Launch} {d k n : Nat} {h : XH} {pc : Nat} {ls st : List Value}
def xx_mmax (own : String) (idx : Nat) : Prop := Cond.methodLink own idx Lib.Math.max.name ∈ xx_gws ∧ Cond.static Lib.Math.max.name ∈ xx_gws ∧ Cond.initialized "java/lang/Math" ∈ xx_gws ∧ Cond.code Lib.Math.max.name Lib.Math.max.code 2 (some .int) ∈ xx_gws
theorem sw_max {idx : Nat} {x y : Int32} (O : xx_O Y M l d) (K : xx_mmax M.2.2.2.2.1 idx) (hd : decode M.2.1 pc = .ok (.invokestatic idx, 3)) (hdd : 1 ≤ d) (hw : (st.map fun v => v.category).sum + 13 ≤ 40) (kk : SW Y k n h (pc + 3) ls (.int (if x < y then y else x) :: st)) : SW Y k n h pc ls (.int y :: .int x :: st) := by
  intro ρ ow H locs cells slots lsA r9
  have hcat : ((st.map (xx_v ρ)).map fun v => v.category).sum = (st.map fun v => v.category).sum := by
    rw [List.map_map]
    refine congrArg List.sum (List.map_congr_left fun v _ => ?_)
    exact xx_v_cat ρ v
  have hgw := O.2.2.2.2.2.1
  refine va_mmax O.1 O.2.1 r9.L.1.symm O.2.2.2.2.2.2.1 (hgw _ K.1) (hgw _ K.2.1) (hgw _ K.2.2.1) (hgw _ K.2.2.2) (by exact Nat.le_trans hdd O.2.2.2.2.2.2.2.2.2.2.2.2.1) (by rw [hcat]; have h9 := O.2.2.2.2.2.2.2.2.2.2.2.2.2.1; omega) (by have := r9.2.2.2.1; omega) (by have := r9.2.2.2.2.1; omega) hd ?_
  exact kk ρ ow H locs cells slots lsA (r9.to (xx_hc (a := .int (if x < y then y else x)) trivial (xx_ht (xx_ht r9.stk))))
def xx_mmin (own : String) (idx : Nat) : Prop := Cond.methodLink own idx Lib.Math.min.name ∈ xx_gws ∧ Cond.static Lib.Math.min.name ∈ xx_gws ∧ Cond.initialized "java/lang/Math" ∈ xx_gws ∧ Cond.code Lib.Math.min.name Lib.Math.min.code 2 (some .int) ∈ xx_gws
theorem sw_min {idx : Nat} {x y : Int32} (O : xx_O Y M l d) (K : xx_mmin M.2.2.2.2.1 idx) (hd : decode M.2.1 pc = .ok (.invokestatic idx, 3)) (hdd : 1 ≤ d) (hw : (st.map fun v => v.category).sum + 13 ≤ 40) (kk : SW Y k n h (pc + 3) ls (.int (if y < x then y else x) :: st)) : SW Y k n h pc ls (.int y :: .int x :: st) := by
  intro ρ ow H locs cells slots lsA r9
  have hcat : ((st.map (xx_v ρ)).map fun v => v.category).sum = (st.map fun v => v.category).sum := by
    rw [List.map_map]
    refine congrArg List.sum (List.map_congr_left fun v _ => ?_)
    exact xx_v_cat ρ v
  have hgw := O.2.2.2.2.2.1
  refine va_mmin O.1 O.2.1 r9.L.1.symm O.2.2.2.2.2.2.1 (hgw _ K.1) (hgw _ K.2.1) (hgw _ K.2.2.1) (hgw _ K.2.2.2) (by exact Nat.le_trans hdd O.2.2.2.2.2.2.2.2.2.2.2.2.1) (by rw [hcat]; have h9 := O.2.2.2.2.2.2.2.2.2.2.2.2.2.1; omega) (by have := r9.2.2.2.1; omega) (by have := r9.2.2.2.2.1; omega) hd ?_
  exact kk ρ ow H locs cells slots lsA (r9.to (xx_hc (a := .int (if y < x then y else x)) trivial (xx_ht (xx_ht r9.stk))))
end
