/-! ===== the start: what the statement gives of the machine's own ===== -/
abbrev stC : Cond := Jvm.Cond.and given_1 narrow_1
abbrev stFlat : List Cond := flatC stC
/-- the words of the tables and the facts of the start -/
def stH (args : Array Value) (s : State) : Prop := (∀ w ∈ lw_tbl, w.before args s = true) ∧ stC.before args s = true
section
variable {args : Array Value} {s : State}
theorem stH.gw (h : stH args s) : ∀ w ∈ xx_gws, w.before args s = true := fun w hw => h.1 w (List.mem_filter.mp hw).1
theorem stH.tb (h : stH args s) : ∀ w ∈ tables_1, w.before args s = true := fun w hw => h.1 w (List.mem_append_right _ hw)
theorem stH.fl (h : stH args s) {w : Cond} (hw : w ∈ stFlat) : w.before args s = true := flat_of_before _ h.2 w hw
def st_flat : Cond → List Cond → List Cond
  | .and a b, acc => st_flat a (st_flat b acc)
  | c, acc => c :: acc
theorem st_flatE : ∀ (c : Cond) (acc : List Cond), st_flat c acc = flatC c ++ acc := by
  intro c
  induction c with
  | and a b iha ihb =>
    intro acc
    show st_flat a (st_flat b acc) = (flatC a ++ flatC b) ++ acc
    rw [iha, ihb, List.append_assoc]
  | _ => intro acc; rfl
theorem stH.fa (h : stH args s) {w : Cond} (hw : w ∈ st_flat stC []) : w.before args s = true := by
  have e := st_flatE stC []
  rw [List.append_nil] at e
  exact h.fl (show w ∈ flatC stC by rw [← e]; exact hw)
def st_isY : Cond → Bool
  | .laysStatic _ _ _ => true
  | .initialized _ => true
  | .arrayClass _ => true
  | .arrayOver _ => true
  | .stringRef _ _ _ => true
  | _ => false
theorem st_Y {w : Cond} (hw : w ∈ tables_1.filter st_isY) : w ∈ lw_tbl := List.mem_append_right _ (List.mem_filter.mp hw).1
theorem st_Yt {w : Cond} (hw : w ∈ tables_1.filter st_isY) : w ∈ tables_1 := (List.mem_filter.mp hw).1
theorem st_kn (h : stH args s) {ci n : Nat} {C : String} {T : u_T} {N : Nat} {ty : Nat → FieldType} (K : xx_cl ci C T N ty) (hi : Cond.instantiable C n ∈ xx_gws) : ∃ p : ClassId × (Nat → Nat), ∀ q : vw_C, vwCl[ci]? = some q → u_Kn s q.1 q.2.1 q.2.2 p.1 p.2 := by
  obtain ⟨cC, iS, h1⟩ := u_known h.gw K.2.2.1 (h.gw _ hi)
  exact ⟨(cC, iS), fun q hq => by cases Option.some.inj (hq.symm.trans K.2.1); exact h1⟩
theorem st_G (h : stH args s) : ∃ G : va_G, va_K G vwCl [] s := by
  have h1 : ∀ ci : Nat, ∃ p : ClassId × (Nat → Nat), ∀ q : vw_C, vwCl[ci]? = some q → u_Kn s q.1 q.2.1 q.2.2 p.1 p.2 := fun ci =>
    match ci with
    | 0 => st_kn h cl_J0 nw_J4_18.2.1
    | 1 => st_kn h cl_J4 nw_J7_45.2.1
    | 2 => st_kn h cl_J6 nw_J6_1.2.1
    | 3 => st_kn h cl_Jx00060 nw_J7_68.2.1
    | 4 => st_kn h cl_Jx7c733 nw_J5_129.2.1
    | 5 => st_kn h cl_Jx35411 nw_Jx4a65c_267.2.1
    | 6 => st_kn h cl_Jx4a65c nw_X14_20.2.1
    | 7 => st_kn h cl_X1 nw_X7_16.2.1
    | 8 => st_kn h cl_X2 nw_X7_26.2.1
    | 9 => st_kn h cl_X3 nw_X7_40.2.1
    | 10 => st_kn h cl_X4 nw_X7_33.2.1
    | 11 => st_kn h cl_X5 nw_X7_47.2.1
    | 12 => st_kn h cl_X6 nw_X7_9.2.1
    | 13 => st_kn h cl_X7 nw_L_8.2.1
    | 14 => st_kn h cl_X8 nw_L_14.2.1
    | 15 => st_kn h cl_X9 nw_X14_118.2.1
    | 16 => st_kn h cl_X10 nw_X14_218.2.1
    | 17 => st_kn h cl_X11 nw_X14_136.2.1
    | 18 => st_kn h cl_X12 nw_X14_65.2.1
    | 19 => st_kn h cl_X13 nw_X14_172.2.1
    | 20 => st_kn h cl_X14 nw_L_137.2.1
    | n + 21 => (st_kn h cl_J0 nw_J4_18.2.1).imp fun p _ q hq => absurd (List.getElem?_eq_some_iff.mp hq).1 (by show ¬ n + 21 < 21; omega)
  obtain ⟨p, hp⟩ := Classical.axiomOfChoice h1
  exact ⟨(fun c => (p c).1, fun c => (p c).2), fun c q hq => hp c q hq, fun k q hq => by simp at hq⟩
end
