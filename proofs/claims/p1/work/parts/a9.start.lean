section
/-! ===== the start: what the statement gives of the machine's own ===== -/
abbrev stC : Cond := Jvm.Cond.and given_1 narrow_1
abbrev stFlat : List Cond := flatC stC
/-- the words of the tables and the facts of the start -/
def stH (args : Array Value) (s : State) : Prop := (∀ w ∈ lw_tbl, w.before args s = true) ∧ stC.before args s = true
section
variable {args : Array Value} {s : State}
theorem stH.gw (h : stH args s) : ∀ w ∈ xx_gws, w.before args s = true := fun w hw => h.1 w (List.mem_filter.mp hw).1
theorem stH.tb (h : stH args s) : ∀ w ∈ tables_1, w.before args s = true := fun w hw => h.1 w (List.mem_append_right _ hw)
theorem stH.fl (h : stH args s) {w : Cond} (hw : w ∈ stFlat) : w.before args s = true := flat_of_before _ h.2 w hw
def st_flat : Cond → List Cond → List Cond
  | .and a b, acc => st_flat a (st_flat b acc)
  | c, acc => c :: acc
theorem st_flatE : ∀ (c : Cond) (acc : List Cond), st_flat c acc = flatC c ++ acc := by
  intro c
  induction c with
  | and a b iha ihb =>
    intro acc
    show st_flat a (st_flat b acc) = (flatC a ++ flatC b) ++ acc
    rw [iha, ihb, List.append_assoc]
  | _ => intro acc; rfl
def st_X : List Cond := [(Jvm.Cond.isRef (Jvm.Term.arg (0 : Nat))), (Jvm.Cond.arrayOf (Jvm.Term.arg (0 : Nat)) Jvm.ClassFile.FieldType.int), (Jvm.Cond.le (Jvm.Term.length (Jvm.Term.arg (0 : Nat))) (Jvm.Term.int (5 : Int32))), (Jvm.Cond.eq (Jvm.Term.static "java/lang/String" "COMPACT_STRINGS" "Z") (Jvm.Term.int (1 : Int32))), (Jvm.Cond.isRef (Jvm.Term.static "jdk/internal/util/Preconditions" "SIOOBE_FORMATTER" "Ljava/util/function/BiFunction;")), (Jvm.Cond.eq (Jvm.Term.static "java/lang/StringUTF16" "$assertionsDisabled" "Z") (Jvm.Term.int (1 : Int32))), (Jvm.Cond.eq (Jvm.Term.static "java/lang/StringUTF16" "HI_BYTE_SHIFT" "I") (Jvm.Term.int (0 : Int32))), (Jvm.Cond.eq (Jvm.Term.static "java/lang/StringUTF16" "LO_BYTE_SHIFT" "I") (Jvm.Term.int (8 : Int32))), (Jvm.Cond.isRef (Jvm.Term.static "java/lang/Integer" "DigitOnes" "[B")), (Jvm.Cond.arrayOf (Jvm.Term.static "java/lang/Integer" "DigitOnes" "[B") Jvm.ClassFile.FieldType.byte), (Jvm.Cond.eq (Jvm.Term.length (Jvm.Term.static "java/lang/Integer" "DigitOnes" "[B")) (Jvm.Term.int (100 : Int32))), (Jvm.Cond.eq (Jvm.Term.elem (Jvm.Term.static "java/lang/Integer" "DigitOnes" "[B") (Jvm.Term.int (0 : Int32))) (Jvm.Term.int (48 : Int32))), (Jvm.Cond.eq (Jvm.Term.elem (Jvm.Term.static "java/lang/Integer" "DigitOnes" "[B") (Jvm.Term.int (1 : Int32))) (Jvm.Term.int (49 : Int32))), (Jvm.Cond.eq (Jvm.Term.elem (Jvm.Term.static "java/lang/Integer" "DigitOnes" "[B") (Jvm.Term.int (2 : Int32))) (Jvm.Term.int (50 : Int32))), (Jvm.Cond.eq (Jvm.Term.elem (Jvm.Term.static "java/lang/Integer" "DigitOnes" "[B") (Jvm.Term.int (3 : Int32))) (Jvm.Term.int (51 : Int32))), (Jvm.Cond.eq (Jvm.Term.elem (Jvm.Term.static "java/lang/Integer" "DigitOnes" "[B") (Jvm.Term.int (4 : Int32))) (Jvm.Term.int (52 : Int32))), (Jvm.Cond.eq (Jvm.Term.elem (Jvm.Term.static "java/lang/Integer" "DigitOnes" "[B") (Jvm.Term.int (5 : Int32))) (Jvm.Term.int (53 : Int32))), (Jvm.Cond.eq (Jvm.Term.elem (Jvm.Term.static "java/lang/Integer" "DigitOnes" "[B") (Jvm.Term.int (6 : Int32))) (Jvm.Term.int (54 : Int32))), (Jvm.Cond.eq (Jvm.Term.elem (Jvm.Term.static "java/lang/Integer" "DigitOnes" "[B") (Jvm.Term.int (7 : Int32))) (Jvm.Term.int (55 : Int32))), (Jvm.Cond.eq (Jvm.Term.elem (Jvm.Term.static "java/lang/Integer" "DigitOnes" "[B") (Jvm.Term.int (8 : Int32))) (Jvm.Term.int (56 : Int32))), (Jvm.Cond.eq (Jvm.Term.elem (Jvm.Term.static "java/lang/Integer" "DigitOnes" "[B") (Jvm.Term.int (9 : Int32))) (Jvm.Term.int (57 : Int32))), (Jvm.Cond.eq (Jvm.Term.elem (Jvm.Term.static "java/lang/Integer" "DigitOnes" "[B") (Jvm.Term.int (10 : Int32))) (Jvm.Term.int (48 : Int32))), (Jvm.Cond.eq (Jvm.Term.elem (Jvm.Term.static "java/lang/Integer" "DigitOnes" "[B") (Jvm.Term.int (11 : Int32))) (Jvm.Term.int (49 : Int32))), (Jvm.Cond.eq (Jvm.Term.elem (Jvm.Term.static "java/lang/Integer" "DigitOnes" "[B") (Jvm.Term.int (12 : Int32))) (Jvm.Term.int (50 : Int32))), (Jvm.Cond.eq (Jvm.Term.elem (Jvm.Term.static "java/lang/Integer" "DigitOnes" "[B") (Jvm.Term.int (13 : Int32))) (Jvm.Term.int (51 : Int32))), (Jvm.Cond.eq (Jvm.Term.elem (Jvm.Term.static "java/lang/Integer" "DigitOnes" "[B") (Jvm.Term.int (14 : Int32))) (Jvm.Term.int (52 : Int32))), (Jvm.Cond.eq (Jvm.Term.elem (Jvm.Term.static "java/lang/Integer" "DigitOnes" "[B") (Jvm.Term.int (15 : Int32))) (Jvm.Term.int (53 : Int32))), (Jvm.Cond.eq (Jvm.Term.elem (Jvm.Term.static "java/lang/Integer" "DigitOnes" "[B") (Jvm.Term.int (16 : Int32))) (Jvm.Term.int (54 : Int32))), (Jvm.Cond.eq (Jvm.Term.elem (Jvm.Term.static "java/lang/Integer" "DigitOnes" "[B") (Jvm.Term.int (17 : Int32))) (Jvm.Term.int (55 : Int32))), (Jvm.Cond.eq (Jvm.Term.elem (Jvm.Term.static "java/lang/Integer" "DigitOnes" "[B") (Jvm.Term.int (18 : Int32))) (Jvm.Term.int (56 : Int32))), (Jvm.Cond.eq (Jvm.Term.elem (Jvm.Term.static "java/lang/Integer" "DigitOnes" "[B") (Jvm.Term.int (19 : Int32))) (Jvm.Term.int (57 : Int32))), (Jvm.Cond.eq (Jvm.Term.elem (Jvm.Term.static "java/lang/Integer" "DigitOnes" "[B") (Jvm.Term.int (20 : Int32))) (Jvm.Term.int (48 : Int32))), (Jvm.Cond.eq (Jvm.Term.elem (Jvm.Term.static "java/lang/Integer" "DigitOnes" "[B") (Jvm.Term.int (21 : Int32))) (Jvm.Term.int (49 : Int32))), (Jvm.Cond.eq (Jvm.Term.elem (Jvm.Term.static "java/lang/Integer" "DigitOnes" "[B") (Jvm.Term.int (22 : Int32))) (Jvm.Term.int (50 : Int32))), (Jvm.Cond.eq (Jvm.Term.elem (Jvm.Term.static "java/lang/Integer" "DigitOnes" "[B") (Jvm.Term.int (23 : Int32))) (Jvm.Term.int (51 : Int32))), (Jvm.Cond.eq (Jvm.Term.elem (Jvm.Term.static "java/lang/Integer" "DigitOnes" "[B") (Jvm.Term.int (24 : Int32))) (Jvm.Term.int (52 : Int32))), (Jvm.Cond.eq (Jvm.Term.elem (Jvm.Term.static "java/lang/Integer" "DigitOnes" "[B") (Jvm.Term.int (25 : Int32))) (Jvm.Term.int (53 : Int32))), (Jvm.Cond.eq (Jvm.Term.elem (Jvm.Term.static "java/lang/Integer" "DigitOnes" "[B") (Jvm.Term.int (26 : Int32))) (Jvm.Term.int (54 : Int32))), (Jvm.Cond.eq (Jvm.Term.elem (Jvm.Term.static "java/lang/Integer" "DigitOnes" "[B") (Jvm.Term.int (27 : Int32))) (Jvm.Term.int (55 : Int32))), (Jvm.Cond.eq (Jvm.Term.elem (Jvm.Term.static "java/lang/Integer" "DigitOnes" "[B") (Jvm.Term.int (28 : Int32))) (Jvm.Term.int (56 : Int32))), (Jvm.Cond.eq (Jvm.Term.elem (Jvm.Term.static "java/lang/Integer" "DigitOnes" "[B") (Jvm.Term.int (29 : Int32))) (Jvm.Term.int (57 : Int32))), (Jvm.Cond.eq (Jvm.Term.elem (Jvm.Term.static "java/lang/Integer" "DigitOnes" "[B") (Jvm.Term.int (30 : Int32))) (Jvm.Term.int (48 : Int32))), (Jvm.Cond.eq (Jvm.Term.elem (Jvm.Term.static "java/lang/Integer" "DigitOnes" "[B") (Jvm.Term.int (31 : Int32))) (Jvm.Term.int (49 : Int32))), (Jvm.Cond.eq (Jvm.Term.elem (Jvm.Term.static "java/lang/Integer" "DigitOnes" "[B") (Jvm.Term.int (32 : Int32))) (Jvm.Term.int (50 : Int32))), (Jvm.Cond.eq (Jvm.Term.elem (Jvm.Term.static "java/lang/Integer" "DigitOnes" "[B") (Jvm.Term.int (33 : Int32))) (Jvm.Term.int (51 : Int32))), (Jvm.Cond.eq (Jvm.Term.elem (Jvm.Term.static "java/lang/Integer" "DigitOnes" "[B") (Jvm.Term.int (34 : Int32))) (Jvm.Term.int (52 : Int32))), (Jvm.Cond.eq (Jvm.Term.elem (Jvm.Term.static "java/lang/Integer" "DigitOnes" "[B") (Jvm.Term.int (35 : Int32))) (Jvm.Term.int (53 : Int32))), (Jvm.Cond.eq (Jvm.Term.elem (Jvm.Term.static "java/lang/Integer" "DigitOnes" "[B") (Jvm.Term.int (36 : Int32))) (Jvm.Term.int (54 : Int32))), (Jvm.Cond.eq (Jvm.Term.elem (Jvm.Term.static "java/lang/Integer" "DigitOnes" "[B") (Jvm.Term.int (37 : Int32))) (Jvm.Term.int (55 : Int32))), (Jvm.Cond.eq (Jvm.Term.elem (Jvm.Term.static "java/lang/Integer" "DigitOnes" "[B") (Jvm.Term.int (38 : Int32))) (Jvm.Term.int (56 : Int32))), (Jvm.Cond.eq (Jvm.Term.elem (Jvm.Term.static "java/lang/Integer" "DigitOnes" "[B") (Jvm.Term.int (39 : Int32))) (Jvm.Term.int (57 : Int32))), (Jvm.Cond.eq (Jvm.Term.elem (Jvm.Term.static "java/lang/Integer" "DigitOnes" "[B") (Jvm.Term.int (40 : Int32))) (Jvm.Term.int (48 : Int32))), (Jvm.Cond.eq (Jvm.Term.elem (Jvm.Term.static "java/lang/Integer" "DigitOnes" "[B") (Jvm.Term.int (41 : Int32))) (Jvm.Term.int (49 : Int32))), (Jvm.Cond.eq (Jvm.Term.elem (Jvm.Term.static "java/lang/Integer" "DigitOnes" "[B") (Jvm.Term.int (42 : Int32))) (Jvm.Term.int (50 : Int32))), (Jvm.Cond.eq (Jvm.Term.elem (Jvm.Term.static "java/lang/Integer" "DigitOnes" "[B") (Jvm.Term.int (43 : Int32))) (Jvm.Term.int (51 : Int32))), (Jvm.Cond.eq (Jvm.Term.elem (Jvm.Term.static "java/lang/Integer" "DigitOnes" "[B") (Jvm.Term.int (44 : Int32))) (Jvm.Term.int (52 : Int32))), (Jvm.Cond.eq (Jvm.Term.elem (Jvm.Term.static "java/lang/Integer" "DigitOnes" "[B") (Jvm.Term.int (45 : Int32))) (Jvm.Term.int (53 : Int32))), (Jvm.Cond.eq (Jvm.Term.elem (Jvm.Term.static "java/lang/Integer" "DigitOnes" "[B") (Jvm.Term.int (46 : Int32))) (Jvm.Term.int (54 : Int32))), (Jvm.Cond.eq (Jvm.Term.elem (Jvm.Term.static "java/lang/Integer" "DigitOnes" "[B") (Jvm.Term.int (47 : Int32))) (Jvm.Term.int (55 : Int32))), (Jvm.Cond.eq (Jvm.Term.elem (Jvm.Term.static "java/lang/Integer" "DigitOnes" "[B") (Jvm.Term.int (48 : Int32))) (Jvm.Term.int (56 : Int32))), (Jvm.Cond.eq (Jvm.Term.elem (Jvm.Term.static "java/lang/Integer" "DigitOnes" "[B") (Jvm.Term.int (49 : Int32))) (Jvm.Term.int (57 : Int32))), (Jvm.Cond.eq (Jvm.Term.elem (Jvm.Term.static "java/lang/Integer" "DigitOnes" "[B") (Jvm.Term.int (50 : Int32))) (Jvm.Term.int (48 : Int32))), (Jvm.Cond.eq (Jvm.Term.elem (Jvm.Term.static "java/lang/Integer" "DigitOnes" "[B") (Jvm.Term.int (51 : Int32))) (Jvm.Term.int (49 : Int32))), (Jvm.Cond.eq (Jvm.Term.elem (Jvm.Term.static "java/lang/Integer" "DigitOnes" "[B") (Jvm.Term.int (52 : Int32))) (Jvm.Term.int (50 : Int32))), (Jvm.Cond.eq (Jvm.Term.elem (Jvm.Term.static "java/lang/Integer" "DigitOnes" "[B") (Jvm.Term.int (53 : Int32))) (Jvm.Term.int (51 : Int32))), (Jvm.Cond.eq (Jvm.Term.elem (Jvm.Term.static "java/lang/Integer" "DigitOnes" "[B") (Jvm.Term.int (54 : Int32))) (Jvm.Term.int (52 : Int32))), (Jvm.Cond.eq (Jvm.Term.elem (Jvm.Term.static "java/lang/Integer" "DigitOnes" "[B") (Jvm.Term.int (55 : Int32))) (Jvm.Term.int (53 : Int32))), (Jvm.Cond.eq (Jvm.Term.elem (Jvm.Term.static "java/lang/Integer" "DigitOnes" "[B") (Jvm.Term.int (56 : Int32))) (Jvm.Term.int (54 : Int32))), (Jvm.Cond.eq (Jvm.Term.elem (Jvm.Term.static "java/lang/Integer" "DigitOnes" "[B") (Jvm.Term.int (57 : Int32))) (Jvm.Term.int (55 : Int32))), (Jvm.Cond.eq (Jvm.Term.elem (Jvm.Term.static "java/lang/Integer" "DigitOnes" "[B") (Jvm.Term.int (58 : Int32))) (Jvm.Term.int (56 : Int32))), (Jvm.Cond.eq (Jvm.Term.elem (Jvm.Term.static "java/lang/Integer" "DigitOnes" "[B") (Jvm.Term.int (59 : Int32))) (Jvm.Term.int (57 : Int32))), (Jvm.Cond.eq (Jvm.Term.elem (Jvm.Term.static "java/lang/Integer" "DigitOnes" "[B") (Jvm.Term.int (60 : Int32))) (Jvm.Term.int (48 : Int32))), (Jvm.Cond.eq (Jvm.Term.elem (Jvm.Term.static "java/lang/Integer" "DigitOnes" "[B") (Jvm.Term.int (61 : Int32))) (Jvm.Term.int (49 : Int32))), (Jvm.Cond.eq (Jvm.Term.elem (Jvm.Term.static "java/lang/Integer" "DigitOnes" "[B") (Jvm.Term.int (62 : Int32))) (Jvm.Term.int (50 : Int32))), (Jvm.Cond.eq (Jvm.Term.elem (Jvm.Term.static "java/lang/Integer" "DigitOnes" "[B") (Jvm.Term.int (63 : Int32))) (Jvm.Term.int (51 : Int32))), (Jvm.Cond.eq (Jvm.Term.elem (Jvm.Term.static "java/lang/Integer" "DigitOnes" "[B") (Jvm.Term.int (64 : Int32))) (Jvm.Term.int (52 : Int32))), (Jvm.Cond.eq (Jvm.Term.elem (Jvm.Term.static "java/lang/Integer" "DigitOnes" "[B") (Jvm.Term.int (65 : Int32))) (Jvm.Term.int (53 : Int32))), (Jvm.Cond.eq (Jvm.Term.elem (Jvm.Term.static "java/lang/Integer" "DigitOnes" "[B") (Jvm.Term.int (66 : Int32))) (Jvm.Term.int (54 : Int32))), (Jvm.Cond.eq (Jvm.Term.elem (Jvm.Term.static "java/lang/Integer" "DigitOnes" "[B") (Jvm.Term.int (67 : Int32))) (Jvm.Term.int (55 : Int32))), (Jvm.Cond.eq (Jvm.Term.elem (Jvm.Term.static "java/lang/Integer" "DigitOnes" "[B") (Jvm.Term.int (68 : Int32))) (Jvm.Term.int (56 : Int32))), (Jvm.Cond.eq (Jvm.Term.elem (Jvm.Term.static "java/lang/Integer" "DigitOnes" "[B") (Jvm.Term.int (69 : Int32))) (Jvm.Term.int (57 : Int32))), (Jvm.Cond.eq (Jvm.Term.elem (Jvm.Term.static "java/lang/Integer" "DigitOnes" "[B") (Jvm.Term.int (70 : Int32))) (Jvm.Term.int (48 : Int32))), (Jvm.Cond.eq (Jvm.Term.elem (Jvm.Term.static "java/lang/Integer" "DigitOnes" "[B") (Jvm.Term.int (71 : Int32))) (Jvm.Term.int (49 : Int32))), (Jvm.Cond.eq (Jvm.Term.elem (Jvm.Term.static "java/lang/Integer" "DigitOnes" "[B") (Jvm.Term.int (72 : Int32))) (Jvm.Term.int (50 : Int32))), (Jvm.Cond.eq (Jvm.Term.elem (Jvm.Term.static "java/lang/Integer" "DigitOnes" "[B") (Jvm.Term.int (73 : Int32))) (Jvm.Term.int (51 : Int32))), (Jvm.Cond.eq (Jvm.Term.elem (Jvm.Term.static "java/lang/Integer" "DigitOnes" "[B") (Jvm.Term.int (74 : Int32))) (Jvm.Term.int (52 : Int32))), (Jvm.Cond.eq (Jvm.Term.elem (Jvm.Term.static "java/lang/Integer" "DigitOnes" "[B") (Jvm.Term.int (75 : Int32))) (Jvm.Term.int (53 : Int32))), (Jvm.Cond.eq (Jvm.Term.elem (Jvm.Term.static "java/lang/Integer" "DigitOnes" "[B") (Jvm.Term.int (76 : Int32))) (Jvm.Term.int (54 : Int32))), (Jvm.Cond.eq (Jvm.Term.elem (Jvm.Term.static "java/lang/Integer" "DigitOnes" "[B") (Jvm.Term.int (77 : Int32))) (Jvm.Term.int (55 : Int32))), (Jvm.Cond.eq (Jvm.Term.elem (Jvm.Term.static "java/lang/Integer" "DigitOnes" "[B") (Jvm.Term.int (78 : Int32))) (Jvm.Term.int (56 : Int32))), (Jvm.Cond.eq (Jvm.Term.elem (Jvm.Term.static "java/lang/Integer" "DigitOnes" "[B") (Jvm.Term.int (79 : Int32))) (Jvm.Term.int (57 : Int32))), (Jvm.Cond.eq (Jvm.Term.elem (Jvm.Term.static "java/lang/Integer" "DigitOnes" "[B") (Jvm.Term.int (80 : Int32))) (Jvm.Term.int (48 : Int32))), (Jvm.Cond.eq (Jvm.Term.elem (Jvm.Term.static "java/lang/Integer" "DigitOnes" "[B") (Jvm.Term.int (81 : Int32))) (Jvm.Term.int (49 : Int32))), (Jvm.Cond.eq (Jvm.Term.elem (Jvm.Term.static "java/lang/Integer" "DigitOnes" "[B") (Jvm.Term.int (82 : Int32))) (Jvm.Term.int (50 : Int32))), (Jvm.Cond.eq (Jvm.Term.elem (Jvm.Term.static "java/lang/Integer" "DigitOnes" "[B") (Jvm.Term.int (83 : Int32))) (Jvm.Term.int (51 : Int32))), (Jvm.Cond.eq (Jvm.Term.elem (Jvm.Term.static "java/lang/Integer" "DigitOnes" "[B") (Jvm.Term.int (84 : Int32))) (Jvm.Term.int (52 : Int32))), (Jvm.Cond.eq (Jvm.Term.elem (Jvm.Term.static "java/lang/Integer" "DigitOnes" "[B") (Jvm.Term.int (85 : Int32))) (Jvm.Term.int (53 : Int32))), (Jvm.Cond.eq (Jvm.Term.elem (Jvm.Term.static "java/lang/Integer" "DigitOnes" "[B") (Jvm.Term.int (86 : Int32))) (Jvm.Term.int (54 : Int32))), (Jvm.Cond.eq (Jvm.Term.elem (Jvm.Term.static "java/lang/Integer" "DigitOnes" "[B") (Jvm.Term.int (87 : Int32))) (Jvm.Term.int (55 : Int32))), (Jvm.Cond.eq (Jvm.Term.elem (Jvm.Term.static "java/lang/Integer" "DigitOnes" "[B") (Jvm.Term.int (88 : Int32))) (Jvm.Term.int (56 : Int32))), (Jvm.Cond.eq (Jvm.Term.elem (Jvm.Term.static "java/lang/Integer" "DigitOnes" "[B") (Jvm.Term.int (89 : Int32))) (Jvm.Term.int (57 : Int32))), (Jvm.Cond.eq (Jvm.Term.elem (Jvm.Term.static "java/lang/Integer" "DigitOnes" "[B") (Jvm.Term.int (90 : Int32))) (Jvm.Term.int (48 : Int32))), (Jvm.Cond.eq (Jvm.Term.elem (Jvm.Term.static "java/lang/Integer" "DigitOnes" "[B") (Jvm.Term.int (91 : Int32))) (Jvm.Term.int (49 : Int32))), (Jvm.Cond.eq (Jvm.Term.elem (Jvm.Term.static "java/lang/Integer" "DigitOnes" "[B") (Jvm.Term.int (92 : Int32))) (Jvm.Term.int (50 : Int32))), (Jvm.Cond.eq (Jvm.Term.elem (Jvm.Term.static "java/lang/Integer" "DigitOnes" "[B") (Jvm.Term.int (93 : Int32))) (Jvm.Term.int (51 : Int32))), (Jvm.Cond.eq (Jvm.Term.elem (Jvm.Term.static "java/lang/Integer" "DigitOnes" "[B") (Jvm.Term.int (94 : Int32))) (Jvm.Term.int (52 : Int32))), (Jvm.Cond.eq (Jvm.Term.elem (Jvm.Term.static "java/lang/Integer" "DigitOnes" "[B") (Jvm.Term.int (95 : Int32))) (Jvm.Term.int (53 : Int32))), (Jvm.Cond.eq (Jvm.Term.elem (Jvm.Term.static "java/lang/Integer" "DigitOnes" "[B") (Jvm.Term.int (96 : Int32))) (Jvm.Term.int (54 : Int32))), (Jvm.Cond.eq (Jvm.Term.elem (Jvm.Term.static "java/lang/Integer" "DigitOnes" "[B") (Jvm.Term.int (97 : Int32))) (Jvm.Term.int (55 : Int32))), (Jvm.Cond.eq (Jvm.Term.elem (Jvm.Term.static "java/lang/Integer" "DigitOnes" "[B") (Jvm.Term.int (98 : Int32))) (Jvm.Term.int (56 : Int32))), (Jvm.Cond.eq (Jvm.Term.elem (Jvm.Term.static "java/lang/Integer" "DigitOnes" "[B") (Jvm.Term.int (99 : Int32))) (Jvm.Term.int (57 : Int32))), (Jvm.Cond.isRef (Jvm.Term.static "java/lang/Throwable" "UNASSIGNED_STACK" "[Ljava/lang/StackTraceElement;")), (Jvm.Cond.isRef (Jvm.Term.static "java/lang/Throwable" "SUPPRESSED_SENTINEL" "Ljava/util/List;")), (Jvm.Cond.isRef (Jvm.Term.static "java/util/ArrayList" "DEFAULTCAPACITY_EMPTY_ELEMENTDATA" "[Ljava/lang/Object;")), (Jvm.Cond.arrayOf (Jvm.Term.static "java/util/ArrayList" "DEFAULTCAPACITY_EMPTY_ELEMENTDATA" "[Ljava/lang/Object;") (Jvm.ClassFile.FieldType.object "java/lang/Object")), (Jvm.Cond.exactly (Jvm.Term.static "java/util/ArrayList" "DEFAULTCAPACITY_EMPTY_ELEMENTDATA" "[Ljava/lang/Object;") "[Ljava/lang/Object;"), (Jvm.Cond.eq (Jvm.Term.length (Jvm.Term.static "java/util/ArrayList" "DEFAULTCAPACITY_EMPTY_ELEMENTDATA" "[Ljava/lang/Object;")) (Jvm.Term.int (0 : Int32))), (Jvm.Cond.eq (Jvm.Term.static "java/lang/Integer$IntegerCache" "high" "I") (Jvm.Term.int (127 : Int32))), (Jvm.Cond.isRef (Jvm.Term.static "java/lang/Integer$IntegerCache" "cache" "[Ljava/lang/Integer;")), (Jvm.Cond.arrayOf (Jvm.Term.static "java/lang/Integer$IntegerCache" "cache" "[Ljava/lang/Integer;") (Jvm.ClassFile.FieldType.object "java/lang/Integer")), (Jvm.Cond.eq (Jvm.Term.length (Jvm.Term.static "java/lang/Integer$IntegerCache" "cache" "[Ljava/lang/Integer;")) (Jvm.Term.int (256 : Int32))), (Jvm.Cond.all (Jvm.Term.static "java/lang/Integer$IntegerCache" "cache" "[Ljava/lang/Integer;") (Jvm.Cond.and (Jvm.Cond.exactly (Jvm.Term.elem (Jvm.Term.static "java/lang/Integer$IntegerCache" "cache" "[Ljava/lang/Integer;") (Jvm.Term.index (0 : Nat))) "java/lang/Integer") (Jvm.Cond.eq (Jvm.Term.field (Jvm.Term.elem (Jvm.Term.static "java/lang/Integer$IntegerCache" "cache" "[Ljava/lang/Integer;") (Jvm.Term.index (0 : Nat))) "java/lang/Integer" "value" "I") (Jvm.Term.sub (Jvm.Term.index (0 : Nat)) (Jvm.Term.int (128 : Int32)))))), (Jvm.Cond.not (Jvm.Cond.castable "Wavesale" "java/lang/IllegalArgumentException")), (Jvm.Cond.not (Jvm.Cond.castable "Wavesale$Terms" "java/lang/IllegalArgumentException")), (Jvm.Cond.not (Jvm.Cond.castable "Wavesale$Clock" "java/lang/IllegalArgumentException")), (Jvm.Cond.not (Jvm.Cond.castable "Wavesale$Market" "java/lang/IllegalArgumentException")), (Jvm.Cond.not (Jvm.Cond.castable "Wavesale$Payments" "java/lang/IllegalArgumentException")), (Jvm.Cond.not (Jvm.Cond.castable "Wavesale$Names" "java/lang/IllegalArgumentException")), (Jvm.Cond.not (Jvm.Cond.castable "Wavesale$Stations" "java/lang/IllegalArgumentException")), (Jvm.Cond.not (Jvm.Cond.castable "WavesaleModel" "java/lang/IllegalArgumentException")), (Jvm.Cond.not (Jvm.Cond.castable "java/util/ArrayList" "java/lang/IllegalArgumentException")), (Jvm.Cond.not (Jvm.Cond.castable "WavesaleLaw$Out" "java/lang/IllegalArgumentException")), (Jvm.Cond.not (Jvm.Cond.castable "java/lang/IllegalStateException" "java/lang/IllegalArgumentException")), (Jvm.Cond.not (Jvm.Cond.castable "WavesaleModel$Region" "java/lang/IllegalArgumentException")), (Jvm.Cond.not (Jvm.Cond.castable "java/lang/IndexOutOfBoundsException" "java/lang/IllegalArgumentException")), (Jvm.Cond.not (Jvm.Cond.castable "java/util/ArrayList$Itr" "java/lang/IllegalArgumentException")), (Jvm.Cond.not (Jvm.Cond.castable "WavesaleModel$Bidder" "java/lang/IllegalArgumentException")), (Jvm.Cond.not (Jvm.Cond.castable "WavesaleModel$Clock" "java/lang/IllegalArgumentException")), (Jvm.Cond.not (Jvm.Cond.castable "WavesaleModel$Round" "java/lang/IllegalArgumentException")), (Jvm.Cond.not (Jvm.Cond.castable "java/lang/Integer" "java/lang/IllegalArgumentException")), (Jvm.Cond.not (Jvm.Cond.castable "WavesaleModel$Choice" "java/lang/IllegalArgumentException")), (Jvm.Cond.not (Jvm.Cond.castable "java/lang/StringBuilder" "java/lang/IllegalArgumentException")), (Jvm.Cond.not (Jvm.Cond.castable "java/lang/String" "java/lang/IllegalArgumentException")), (Jvm.Cond.not (Jvm.Cond.castable "java/lang/StringIndexOutOfBoundsException" "java/lang/IllegalArgumentException")), (Jvm.Cond.not (Jvm.Cond.castable "java/lang/ArrayIndexOutOfBoundsException" "java/lang/IllegalArgumentException")), (Jvm.Cond.not (Jvm.Cond.castable "Wavesale" "java/lang/IllegalStateException")), (Jvm.Cond.not (Jvm.Cond.castable "Wavesale$Terms" "java/lang/IllegalStateException")), (Jvm.Cond.not (Jvm.Cond.castable "Wavesale$Clock" "java/lang/IllegalStateException")), (Jvm.Cond.not (Jvm.Cond.castable "Wavesale$Market" "java/lang/IllegalStateException")), (Jvm.Cond.not (Jvm.Cond.castable "Wavesale$Payments" "java/lang/IllegalStateException")), (Jvm.Cond.not (Jvm.Cond.castable "Wavesale$Names" "java/lang/IllegalStateException")), (Jvm.Cond.not (Jvm.Cond.castable "Wavesale$Stations" "java/lang/IllegalStateException")), (Jvm.Cond.not (Jvm.Cond.castable "WavesaleModel" "java/lang/IllegalStateException")), (Jvm.Cond.not (Jvm.Cond.castable "java/util/ArrayList" "java/lang/IllegalStateException")), (Jvm.Cond.not (Jvm.Cond.castable "WavesaleLaw$Out" "java/lang/IllegalStateException")), (Jvm.Cond.not (Jvm.Cond.castable "java/lang/IllegalArgumentException" "java/lang/IllegalStateException")), (Jvm.Cond.not (Jvm.Cond.castable "WavesaleModel$Region" "java/lang/IllegalStateException")), (Jvm.Cond.not (Jvm.Cond.castable "java/lang/IndexOutOfBoundsException" "java/lang/IllegalStateException")), (Jvm.Cond.not (Jvm.Cond.castable "java/util/ArrayList$Itr" "java/lang/IllegalStateException")), (Jvm.Cond.not (Jvm.Cond.castable "WavesaleModel$Bidder" "java/lang/IllegalStateException")), (Jvm.Cond.not (Jvm.Cond.castable "WavesaleModel$Clock" "java/lang/IllegalStateException")), (Jvm.Cond.not (Jvm.Cond.castable "WavesaleModel$Round" "java/lang/IllegalStateException")), (Jvm.Cond.not (Jvm.Cond.castable "java/lang/Integer" "java/lang/IllegalStateException")), (Jvm.Cond.not (Jvm.Cond.castable "WavesaleModel$Choice" "java/lang/IllegalStateException")), (Jvm.Cond.not (Jvm.Cond.castable "java/lang/StringBuilder" "java/lang/IllegalStateException")), (Jvm.Cond.not (Jvm.Cond.castable "java/lang/String" "java/lang/IllegalStateException")), (Jvm.Cond.not (Jvm.Cond.castable "java/lang/StringIndexOutOfBoundsException" "java/lang/IllegalStateException")), (Jvm.Cond.not (Jvm.Cond.castable "java/lang/ArrayIndexOutOfBoundsException" "java/lang/IllegalStateException")), (Jvm.Cond.not (Jvm.Cond.castable "Wavesale" "java/lang/IndexOutOfBoundsException")), (Jvm.Cond.not (Jvm.Cond.castable "Wavesale$Terms" "java/lang/IndexOutOfBoundsException")), (Jvm.Cond.not (Jvm.Cond.castable "Wavesale$Clock" "java/lang/IndexOutOfBoundsException")), (Jvm.Cond.not (Jvm.Cond.castable "Wavesale$Market" "java/lang/IndexOutOfBoundsException")), (Jvm.Cond.not (Jvm.Cond.castable "Wavesale$Payments" "java/lang/IndexOutOfBoundsException")), (Jvm.Cond.not (Jvm.Cond.castable "Wavesale$Names" "java/lang/IndexOutOfBoundsException")), (Jvm.Cond.not (Jvm.Cond.castable "Wavesale$Stations" "java/lang/IndexOutOfBoundsException")), (Jvm.Cond.not (Jvm.Cond.castable "WavesaleModel" "java/lang/IndexOutOfBoundsException")), (Jvm.Cond.not (Jvm.Cond.castable "java/util/ArrayList" "java/lang/IndexOutOfBoundsException")), (Jvm.Cond.not (Jvm.Cond.castable "WavesaleLaw$Out" "java/lang/IndexOutOfBoundsException")), (Jvm.Cond.not (Jvm.Cond.castable "java/lang/IllegalArgumentException" "java/lang/IndexOutOfBoundsException")), (Jvm.Cond.not (Jvm.Cond.castable "java/lang/IllegalStateException" "java/lang/IndexOutOfBoundsException")), (Jvm.Cond.not (Jvm.Cond.castable "WavesaleModel$Region" "java/lang/IndexOutOfBoundsException")), (Jvm.Cond.not (Jvm.Cond.castable "java/util/ArrayList$Itr" "java/lang/IndexOutOfBoundsException")), (Jvm.Cond.not (Jvm.Cond.castable "WavesaleModel$Bidder" "java/lang/IndexOutOfBoundsException")), (Jvm.Cond.not (Jvm.Cond.castable "WavesaleModel$Clock" "java/lang/IndexOutOfBoundsException")), (Jvm.Cond.not (Jvm.Cond.castable "WavesaleModel$Round" "java/lang/IndexOutOfBoundsException")), (Jvm.Cond.not (Jvm.Cond.castable "java/lang/Integer" "java/lang/IndexOutOfBoundsException")), (Jvm.Cond.not (Jvm.Cond.castable "WavesaleModel$Choice" "java/lang/IndexOutOfBoundsException")), (Jvm.Cond.not (Jvm.Cond.castable "java/lang/StringBuilder" "java/lang/IndexOutOfBoundsException")), (Jvm.Cond.not (Jvm.Cond.castable "java/lang/String" "java/lang/IndexOutOfBoundsException")), (Jvm.Cond.not (Jvm.Cond.castable "Wavesale" "java/lang/String")), (Jvm.Cond.not (Jvm.Cond.castable "Wavesale$Terms" "java/lang/String")), (Jvm.Cond.not (Jvm.Cond.castable "Wavesale$Clock" "java/lang/String")), (Jvm.Cond.not (Jvm.Cond.castable "Wavesale$Market" "java/lang/String")), (Jvm.Cond.not (Jvm.Cond.castable "Wavesale$Payments" "java/lang/String")), (Jvm.Cond.not (Jvm.Cond.castable "Wavesale$Names" "java/lang/String")), (Jvm.Cond.not (Jvm.Cond.castable "Wavesale$Stations" "java/lang/String")), (Jvm.Cond.not (Jvm.Cond.castable "WavesaleModel" "java/lang/String")), (Jvm.Cond.not (Jvm.Cond.castable "java/util/ArrayList" "java/lang/String")), (Jvm.Cond.not (Jvm.Cond.castable "WavesaleLaw$Out" "java/lang/String")), (Jvm.Cond.not (Jvm.Cond.castable "java/lang/IllegalArgumentException" "java/lang/String")), (Jvm.Cond.not (Jvm.Cond.castable "java/lang/IllegalStateException" "java/lang/String")), (Jvm.Cond.not (Jvm.Cond.castable "WavesaleModel$Region" "java/lang/String")), (Jvm.Cond.not (Jvm.Cond.castable "java/lang/IndexOutOfBoundsException" "java/lang/String")), (Jvm.Cond.not (Jvm.Cond.castable "java/util/ArrayList$Itr" "java/lang/String")), (Jvm.Cond.not (Jvm.Cond.castable "WavesaleModel$Bidder" "java/lang/String")), (Jvm.Cond.not (Jvm.Cond.castable "WavesaleModel$Clock" "java/lang/String")), (Jvm.Cond.not (Jvm.Cond.castable "WavesaleModel$Round" "java/lang/String")), (Jvm.Cond.not (Jvm.Cond.castable "java/lang/Integer" "java/lang/String")), (Jvm.Cond.not (Jvm.Cond.castable "WavesaleModel$Choice" "java/lang/String")), (Jvm.Cond.not (Jvm.Cond.castable "java/lang/StringBuilder" "java/lang/String")), (Jvm.Cond.not (Jvm.Cond.castable "java/lang/StringIndexOutOfBoundsException" "java/lang/String")), (Jvm.Cond.not (Jvm.Cond.castable "java/lang/ArrayIndexOutOfBoundsException" "java/lang/String")), (Jvm.Cond.not (Jvm.Cond.castable "java/lang/Throwable" "java/lang/String")), (Jvm.Cond.not (Jvm.Cond.castable "[I" "java/lang/String")), (Jvm.Cond.not (Jvm.Cond.castable "[[I" "java/lang/String")), (Jvm.Cond.not (Jvm.Cond.castable "[B" "java/lang/String")), (Jvm.Cond.not (Jvm.Cond.castable "[Ljava/lang/Object;" "java/lang/String")), (Jvm.Cond.not (Jvm.Cond.castable "[Z" "java/lang/String")), (Jvm.Cond.not (Jvm.Cond.castable "[Ljava/lang/StackTraceElement;" "java/lang/String")), (Jvm.Cond.not (Jvm.Cond.castable "[Ljava/lang/Integer;" "java/lang/String")), (Jvm.Cond.isRef (Jvm.Term.mirror "[Ljava/lang/Object;")), (Jvm.Cond.exactly (Jvm.Term.string "WavesaleModel" (335 : Nat)) "java/lang/String"), (Jvm.Cond.eq (Jvm.Term.field (Jvm.Term.string "WavesaleModel" (335 : Nat)) "java/lang/String" "coder" "B") (Jvm.Term.int (0 : Int32))), (Jvm.Cond.arrayOf (Jvm.Term.field (Jvm.Term.string "WavesaleModel" (335 : Nat)) "java/lang/String" "value" "[B") Jvm.ClassFile.FieldType.byte), (Jvm.Cond.eq (Jvm.Term.length (Jvm.Term.field (Jvm.Term.string "WavesaleModel" (335 : Nat)) "java/lang/String" "value" "[B")) (Jvm.Term.int (1 : Int32))), (Jvm.Cond.eq (Jvm.Term.elem (Jvm.Term.field (Jvm.Term.string "WavesaleModel" (335 : Nat)) "java/lang/String" "value" "[B") (Jvm.Term.int (0 : Int32))) (Jvm.Term.int (44 : Int32))), (Jvm.Cond.exactly (Jvm.Term.string "WavesaleModel" (337 : Nat)) "java/lang/String"), (Jvm.Cond.eq (Jvm.Term.field (Jvm.Term.string "WavesaleModel" (337 : Nat)) "java/lang/String" "coder" "B") (Jvm.Term.int (0 : Int32))), (Jvm.Cond.arrayOf (Jvm.Term.field (Jvm.Term.string "WavesaleModel" (337 : Nat)) "java/lang/String" "value" "[B") Jvm.ClassFile.FieldType.byte), (Jvm.Cond.eq (Jvm.Term.length (Jvm.Term.field (Jvm.Term.string "WavesaleModel" (337 : Nat)) "java/lang/String" "value" "[B")) (Jvm.Term.int (0 : Int32))), (Jvm.Cond.exactly (Jvm.Term.string "WavesaleModel" (343 : Nat)) "java/lang/String"), (Jvm.Cond.eq (Jvm.Term.field (Jvm.Term.string "WavesaleModel" (343 : Nat)) "java/lang/String" "coder" "B") (Jvm.Term.int (0 : Int32))), (Jvm.Cond.arrayOf (Jvm.Term.field (Jvm.Term.string "WavesaleModel" (343 : Nat)) "java/lang/String" "value" "[B") Jvm.ClassFile.FieldType.byte), (Jvm.Cond.eq (Jvm.Term.length (Jvm.Term.field (Jvm.Term.string "WavesaleModel" (343 : Nat)) "java/lang/String" "value" "[B")) (Jvm.Term.int (1 : Int32))), (Jvm.Cond.eq (Jvm.Term.elem (Jvm.Term.field (Jvm.Term.string "WavesaleModel" (343 : Nat)) "java/lang/String" "value" "[B") (Jvm.Term.int (0 : Int32))) (Jvm.Term.int (45 : Int32))), (Jvm.Cond.exactly (Jvm.Term.static "java/lang/Integer" "DigitOnes" "[B") "[B"), (Jvm.Cond.exactly (Jvm.Term.field (Jvm.Term.string "WavesaleModel" (335 : Nat)) "java/lang/String" "value" "[B") "[B"), (Jvm.Cond.exactly (Jvm.Term.field (Jvm.Term.string "WavesaleModel" (337 : Nat)) "java/lang/String" "value" "[B") "[B"), (Jvm.Cond.exactly (Jvm.Term.field (Jvm.Term.string "WavesaleModel" (343 : Nat)) "java/lang/String" "value" "[B") "[B")]
theorem st_Xs : st_X.isSublist (st_flat stC []) = true := by decide +kernel
theorem stH.fa (h : stH args s) {w : Cond} (hw : w ∈ st_X) : w.before args s = true := by
  have e := st_flatE stC []
  rw [List.append_nil] at e
  exact h.fl (show w ∈ flatC stC by rw [← e]; exact (List.isSublist_iff_sublist.mp st_Xs).subset hw)
def st_isY : Cond → Bool
  | .laysStatic _ _ _ => true
  | .initialized _ => true
  | .arrayClass _ => true
  | .arrayOver _ => true
  | .stringRef _ _ _ => true
  | _ => false
theorem st_Y {w : Cond} (hw : w ∈ tables_1.filter st_isY) : w ∈ lw_tbl := List.mem_append_right _ (List.mem_filter.mp hw).1
theorem st_Yt {w : Cond} (hw : w ∈ tables_1.filter st_isY) : w ∈ tables_1 := (List.mem_filter.mp hw).1
theorem st_kn (h : stH args s) {ci n : Nat} {C : String} {T : u_T} {N : Nat} {ty : Nat → FieldType} (K : xx_cl ci C T N ty) (hi : Cond.instantiable C n ∈ xx_gws) : ∃ p : ClassId × (Nat → Nat), ∀ q : vw_C, vwCl[ci]? = some q → u_Kn s q.1 q.2.1 q.2.2 p.1 p.2 := by
  obtain ⟨cC, iS, h1⟩ := u_known h.gw K.2.2.1 (h.gw _ hi)
  exact ⟨(cC, iS), fun q hq => by cases Option.some.inj (hq.symm.trans K.2.1); exact h1⟩
theorem st_G (h : stH args s) : ∃ G : va_G, va_K G vwCl [] s := by
  have h1 : ∀ ci : Nat, ∃ p : ClassId × (Nat → Nat), ∀ q : vw_C, vwCl[ci]? = some q → u_Kn s q.1 q.2.1 q.2.2 p.1 p.2 := fun ci =>
    match ci with
    | 0 => st_kn h cl_J0 nw_J4_18.2.1
    | 1 => st_kn h cl_J4 nw_J7_45.2.1
    | 2 => st_kn h cl_J6 nw_J6_1.2.1
    | 3 => st_kn h cl_Jx00060 nw_J7_68.2.1
    | 4 => st_kn h cl_Jx7c733 nw_J5_129.2.1
    | 5 => st_kn h cl_Jx35411 nw_Jx4a65c_267.2.1
    | 6 => st_kn h cl_Jx4a65c nw_X14_20.2.1
    | 7 => st_kn h cl_X1 nw_X7_16.2.1
    | 8 => st_kn h cl_X2 nw_X7_26.2.1
    | 9 => st_kn h cl_X3 nw_X7_40.2.1
    | 10 => st_kn h cl_X4 nw_X7_33.2.1
    | 11 => st_kn h cl_X5 nw_X7_47.2.1
    | 12 => st_kn h cl_X6 nw_X7_9.2.1
    | 13 => st_kn h cl_X7 nw_L_8.2.1
    | 14 => st_kn h cl_X8 nw_L_14.2.1
    | 15 => st_kn h cl_X9 nw_X14_118.2.1
    | 16 => st_kn h cl_X10 nw_X14_218.2.1
    | 17 => st_kn h cl_X11 nw_X14_136.2.1
    | 18 => st_kn h cl_X12 nw_X14_65.2.1
    | 19 => st_kn h cl_X13 nw_X14_172.2.1
    | 20 => st_kn h cl_X14 nw_L_137.2.1
    | n + 21 => (st_kn h cl_J0 nw_J4_18.2.1).imp fun p _ q hq => absurd (List.getElem?_eq_some_iff.mp hq).1 (by show ¬ n + 21 < 21; omega)
  obtain ⟨p, hp⟩ := Classical.axiomOfChoice h1
  exact ⟨(fun c => (p c).1, fun c => (p c).2), fun c q hq => hp c q hq, fun k q hq => by simp at hq⟩
theorem st_arr {c : ClassId} {k : Class} {comp : ClassId} {ty : FieldType} (hk : s.vm.classes[c]? = some k) (hkind : k.kind = .array comp ty) : ArrOfT s c ty := fun N f => ⟨fun q hq => (by cases hq), k, hk, comp, hkind⟩
theorem st_A (h : stH args s) (h5 : ∃ c, ArrOfT s c (.object "java/lang/Integer")) : ∃ A : Nat → ClassId, ∀ t, 100 ≤ t → t < 106 → ArrOfT s (A t) (xx_aty t) ∧ (t < 105 → va_RA s (A t) (xx_aty t)) := by
  obtain ⟨c0, k0, p0, a0, b0, d0⟩ := Cond.arrayClass_spec (args := args) (first := s) (o := none) (s := s) (idx := []) (h.1 (.arrayClass .int) (st_Y (by decide +kernel)))
  obtain ⟨c1, k1, p1, a1, b1, d1⟩ := Cond.arrayClass_spec (args := args) (first := s) (o := none) (s := s) (idx := []) (h.1 (.arrayClass .boolean) (st_Y (by decide +kernel)))
  obtain ⟨c2, k2, p2, a2, b2, d2⟩ := Cond.arrayClass_spec (args := args) (first := s) (o := none) (s := s) (idx := []) (h.1 (.arrayClass .byte) (st_Y (by decide +kernel)))
  obtain ⟨p3, c3, k3, -, b3, d3, a3⟩ := Cond.arrayOver_specA (args := args) (first := s) (o := none) (s := s) (idx := []) (h.1 (.arrayOver (.array .int)) (st_Y (by decide +kernel)))
  obtain ⟨p4, c4, k4, e4, -, b4, d4, a4⟩ := Cond.arrayOver_spec (args := args) (first := s) (o := none) (s := s) (idx := []) (h.1 (.arrayOver (.object "java/lang/Object")) (st_Y (by decide +kernel)))
  obtain ⟨c5, h5⟩ := h5
  refine ⟨fun t => if t = 100 then c0 else if t = 101 then c1 else if t = 102 then c2 else if t = 103 then c3 else if t = 104 then c4 else c5, fun t h1 h2 => ?_⟩
  rcases (show t = 100 ∨ t = 101 ∨ t = 102 ∨ t = 103 ∨ t = 104 ∨ t = 105 by omega) with rfl | rfl | rfl | rfl | rfl | rfl
  · exact ⟨st_arr b0 d0, fun _ => a0⟩
  · exact ⟨st_arr b1 d1, fun _ => a1⟩
  · exact ⟨st_arr b2 d2, fun _ => a2⟩
  · exact ⟨st_arr b3 d3, fun _ => a3⟩
  · exact ⟨st_arr b4 d4, fun _ => ⟨k4, p4, b4, d4, e4, a4⟩⟩
  · exact ⟨h5, fun q => absurd q (by decide)⟩
theorem st_str {own tx : String} {k : Nat} (h1 : (Cond.stringRef own k tx).before args s = true) : ∃ a, vk_R own k tx a s := by
  cases hc : s.vm.findClass own with
  | none => simp [Cond.before, Cond.holds, Cond.value, hc] at h1
  | some c =>
    obtain ⟨-, -, -, a, -, -, -, -, -, e⟩ := Cond.stringRef_spec (args := args) (first := s) (o := none) (s := s) (idx := []) hc h1
    exact ⟨a, .of h1 e⟩
theorem st_N (h : stH args s) {D : XD} (hl : ∀ q ∈ xx_lits, vk_R q.1 q.2.1 q.2.2.1 (xd_E D q.2.2.2) s) : xx_N D s := by
  refine ⟨fun w hw => ?_, fun q hq => ?_, hl, fun q hq => ?_⟩
  · have h1 := h.tb w (List.mem_filter.mp hw).1
    have h2 : xx_nest w = true := (List.mem_filter.mp hw).2
    cases w <;> first | exact va_Nw.of rfl h1 | (exact absurd h2 (by simp [xx_nest]))
  · obtain ⟨w, hw, e⟩ := List.mem_filterMap.mp hq
    have h1 := h.tb w hw
    cases w <;> first | (rename_i own k tx; cases Option.some.inj e; exact st_str h1) | (exact absurd e (by simp))
  · rcases List.mem_cons.mp hq with rfl | hq
    · exact va_Nc.of (h.fa (by decide +kernel))
    rcases List.mem_cons.mp hq with rfl | hq
    · exact va_Nc.of (h.fa (by decide +kernel))
    rcases List.mem_cons.mp hq with rfl | hq
    · exact va_Nc.of (h.fa (by decide +kernel))
    · cases hq

abbrev stA (s : State) : Nat → Prop := fun q => s.heap.size ≤ q
theorem st_hA : ∀ a : Nat, a < s.heap.size → ¬ stA s a := fun a h1 h2 => absurd h1 (Nat.not_lt.mpr h2)
abbrev tmO : Term := .static "java/lang/Integer" "DigitOnes" "[B"
abbrev tmC : Term := .static "java/lang/Integer$IntegerCache" "cache" "[Ljava/lang/Integer;"
abbrev tmE : Term := .static "java/util/ArrayList" "DEFAULTCAPACITY_EMPTY_ELEMENTDATA" "[Ljava/lang/Object;"
abbrev tmS (k : Nat) : Term := .string "WavesaleModel" k
def stDg (j : Nat) : Int32 := 48 + Int32.ofNat (j % 10)
theorem st_dg : ∀ j : Fin 100, Cond.eq (.elem tmO (.int (Int32.ofNat j.val))) (.int (stDg j.val)) ∈ st_X := by
  first
  | exact fun j => (List.isSublist_iff_sublist.mp (show ((List.finRange 100).map fun j : Fin 100 => Cond.eq (.elem tmO (.int (Int32.ofNat j.val))) (.int (stDg j.val))).isSublist st_X = true from by decide +kernel)).subset (List.mem_map.mpr ⟨j, List.mem_finRange j, rfl⟩)
  | decide +kernel
theorem st_T4 (h : stH args s) : ∃ t, tmO.eval args s none [] s = some (.ref t) ∧ va_T .byte t 100 (fun j => .int (stDg j)) (stA s) s s.heap :=
  va_Tof (by decide) (h.fa (by decide +kernel)) (va_eqt (h.fa (by decide +kernel))) (fun j hj => va_eqt (h.fa (st_dg ⟨j, hj⟩))) st_hA
theorem st_T0 (h : stH args s) : ∃ t, tmE.eval args s none [] s = some (.ref t) ∧ va_T (.object "java/lang/Object") t 0 (fun _ => .null) (stA s) s s.heap :=
  va_Tof (by decide) (h.fa (by decide +kernel)) (va_eqt (h.fa (by decide +kernel))) (fun j hj => absurd hj (Nat.not_lt_zero j)) st_hA
theorem st_T1 (h : stH args s) : ∃ (t : Nat) (ad : Nat → Nat), tmC.eval args s none [] s = some (.ref t) ∧ va_T (.object "java/lang/Integer") t 256 (fun j => .ref (ad j)) (stA s) s s.heap ∧ vb_C ad (stA s) s s.heap := by
  have hlen : (Term.length tmC).eval args s none [] s = some (.int (Int32.ofNat 256)) := va_eqt (h.fa (by decide +kernel))
  obtain ⟨ad, h1, h2⟩ := vb_Cof (args := args) (s := s) (A := stA s) (st := tmC) rfl hlen (h.fa (by decide +kernel)) st_hA
  obtain ⟨t, h3, h4⟩ := va_Tof (N := 256) (ty := .object "java/lang/Integer") (f := fun j => .ref (ad j)) (A := stA s) (by decide) (h.fa (by decide +kernel)) hlen h2 st_hA
  exact ⟨t, ad, h3, h4, h1⟩
/-- a text: its object at a, its signs at u -/
def stTx (s : State) (a u n : Nat) (b : Int32) : Prop := va_O "java/lang/String" a (stA s) s s.heap ∧ va_OF "java/lang/String" "coder" "B" (.int 0) a (stA s) s s.heap ∧ va_OF "java/lang/String" "value" "[B" (.ref u) a (stA s) s s.heap ∧ va_T .byte u n (fun _ => .int b) (stA s) s s.heap
theorem st_tx {k n : Nat} {b : Int32} (hn : n ≤ 1) (hex : (Cond.exactly (tmS k) "java/lang/String").before args s = true) (hco : (Cond.eq (.field (tmS k) "java/lang/String" "coder" "B") (.int 0)).before args s = true)
    (har : (Cond.arrayOf (.field (tmS k) "java/lang/String" "value" "[B") .byte).before args s = true) (hle : (Cond.eq (.length (.field (tmS k) "java/lang/String" "value" "[B")) (.int (Int32.ofNat n))).before args s = true)
    (hel : 0 < n → (Cond.eq (.elem (.field (tmS k) "java/lang/String" "value" "[B") (.int (Int32.ofNat 0))) (.int b)).before args s = true) :
    ∃ a u, (tmS k).eval args s none [] s = some (.ref a) ∧ stTx s a u n b := by
  obtain ⟨a, c, cA, kA, q1, q2, q3, q4, q5, q6, -⟩ := Cond.exactly_spec (args := args) (first := s) (o := none) (s := s) (idx := []) (t := tmS k) (cls := "java/lang/String") hex
  obtain ⟨t, ht, hT⟩ := va_Tof (f := fun _ => .int b) (A := stA s) (N := n) (by omega) har (va_eqt hle) (fun j hj => by obtain rfl : j = 0 := by omega
                                                                                                                        exact va_eqt (hel (by omega))) st_hA
  exact ⟨a, t, q1, ⟨cA, q3, q5, by rw [q6]; exact q2, st_hA a (Array.getElem?_eq_some_iff.mp q3).1⟩, vk_OFof q1 (va_eqt hco) st_hA, vk_OFof q1 ht st_hA, hT⟩
theorem st_S5 (h : stH args s) : ∃ a u, (tmS 335).eval args s none [] s = some (.ref a) ∧ stTx s a u 1 44 := st_tx (Nat.le_refl 1) (h.fa (by decide +kernel)) (h.fa (by decide +kernel)) (h.fa (by decide +kernel)) (h.fa (by decide +kernel)) (fun _ => h.fa (by decide +kernel))
theorem st_S6 (h : stH args s) : ∃ a u, (tmS 337).eval args s none [] s = some (.ref a) ∧ stTx s a u 0 0 := st_tx (Nat.zero_le 1) (h.fa (by decide +kernel)) (h.fa (by decide +kernel)) (h.fa (by decide +kernel)) (h.fa (by decide +kernel)) (fun q => absurd q (Nat.lt_irrefl 0))
theorem st_S7 (h : stH args s) : ∃ a u, (tmS 343).eval args s none [] s = some (.ref a) ∧ stTx s a u 1 45 := st_tx (Nat.le_refl 1) (h.fa (by decide +kernel)) (h.fa (by decide +kernel)) (h.fa (by decide +kernel)) (h.fa (by decide +kernel)) (fun _ => h.fa (by decide +kernel))

/-- the heap that was there: what the run reads of it, by names under 1000 -/
def h0S (L : Nat) (xs : Nat → Int32) : XH := fun r => if 200 ≤ r ∧ r < 456 then some (2, 1, fun _ => .int (nI (r - 200) - 128)) else match r with
  | 0 => some (104, 0, fun _ => .null)
  | 1 => some (105, 256, fun j => .ref (200 + j))
  | 3 => some (300, 0, fun _ => .null)
  | 4 => some (102, 100, fun j => .int (stDg j))
  | 5 => some (0, 4, vp_V [.ref 8, .int 0, .int 0, .int 0])
  | 6 => some (0, 4, vp_V [.ref 9, .int 0, .int 0, .int 0])
  | 7 => some (0, 4, vp_V [.ref 10, .int 0, .int 0, .int 0])
  | 8 => some (102, 1, fun _ => .int 44)
  | 9 => some (102, 0, fun _ => .int 0)
  | 10 => some (102, 1, fun _ => .int 45)
  | 11 => some (100, L, fun j => .int (xs j))
  | _ => none
def stE (ad : Nat → Nat) (a0 a1 a3 a4 a5 a6 a7 a8 a9 a10 a11 : Nat) : Nat → Nat := fun r => if 200 ≤ r then ad (r - 200) else match r with
  | 0 => a0
  | 1 => a1
  | 3 => a3
  | 4 => a4
  | 5 => a5
  | 6 => a6
  | 7 => a7
  | 8 => a8
  | 9 => a9
  | 10 => a10
  | _ => a11
theorem h0S_cases {L : Nat} {xs : Nat → Int32} {r : Nat} {c : XC} (e : h0S L xs r = some c) : (∃ j, j < 256 ∧ r = 200 + j ∧ c = (2, 1, fun _ => .int (nI j - 128))) ∨ (r = 0 ∧ c = (104, 0, fun _ => .null)) ∨ (r = 1 ∧ c = (105, 256, fun j => .ref (200 + j))) ∨ (r = 3 ∧ c = (300, 0, fun _ => .null)) ∨ (r = 4 ∧ c = (102, 100, fun j => .int (stDg j))) ∨
    (r = 5 ∧ c = (0, 4, vp_V [.ref 8, .int 0, .int 0, .int 0])) ∨ (r = 6 ∧ c = (0, 4, vp_V [.ref 9, .int 0, .int 0, .int 0])) ∨ (r = 7 ∧ c = (0, 4, vp_V [.ref 10, .int 0, .int 0, .int 0])) ∨ (r = 8 ∧ c = (102, 1, fun _ => .int 44)) ∨ (r = 9 ∧ c = (102, 0, fun _ => .int 0)) ∨ (r = 10 ∧ c = (102, 1, fun _ => .int 45)) ∨ (r = 11 ∧ c = (100, L, fun j => .int (xs j))) := by
  unfold h0S at e
  split at e
  · rename_i q
    exact .inl ⟨r - 200, by omega, by omega, (Option.some.inj e).symm⟩
  · right
    split at e <;> first | (cases e; simp) | (cases e)
theorem st_z (h : stH args s) {C n d : String} {v : Value} (w1 : Cond.laysStatic C n d ∈ lw_tbl) (w2 : Cond.initialized C ∈ lw_tbl) (hv : (Term.static C n d).eval args s none [] s = some v) : va_Z C n d v (stA s) s s.heap := va_Zof (h.1 _ w1) (h.1 _ w2) hv st_hA
/-- an old array's cell -/
theorem st_oarr {D : XD} {ρ : Nat → Nat} {r t N a : Nat} {ty : FieldType} {f g : Nat → Value} (h1 : 100 ≤ t) (h2 : t < 200) (ho : xx_ota r = some t) (hr : ρ r = a) (hT : va_T ty a N g (stA s) s s.heap) (hf : ∀ j, j < N → xx_v ρ (f j) = g j) : xx_oldc D ρ r (t, N, f) s.heap := by
  unfold xx_oldc
  rw [if_neg (by show ¬ t < 100; omega), if_pos (show t < 200 by omega)]
  obtain ⟨cell, e1, e2, e3, e4, e5, e6, -⟩ := hT
  exact ⟨ho, cell, by rw [hr]; exact e1, e3, e4, e5, fun j hj => by rw [show (t, N, f).2.2 j = f j from rfl, hf j hj]; exact e6 j hj⟩
theorem st_oobj {D : XD} {ρ : Nat → Nat} {r ci N a : Nat} {C : String} {T : u_T} {f : Nat → Value} (hD : xd_cl D = vwCl) (hG : va_K (xd_G D) vwCl [] s) (hci : ci < 100) (hc : vwCl[ci]? = some (C, T, N)) (h0 : 0 < N) (hr : ρ r = a) (hO : va_O C a (stA s) s s.heap) (hF : ∀ k, k < N → (ci = 0 → k < 2) → va_OF (T k).1 (T k).2.1 (T k).2.2.1 (xx_v ρ (f k)) a (stA s) s s.heap) : xx_oldc D ρ r (ci, N, f) s.heap := by
  unfold xx_oldc
  rw [if_pos (show ci < 100 from hci)]
  obtain ⟨cell, e1, e2, e3, -⟩ := hO
  obtain ⟨hS, hfc, -⟩ := hG.1 ci _ hc
  obtain ⟨-, -, -, -, cell0, -, -, g3, g4, -, -⟩ := hF 0 h0 (fun _ => by decide)
  cases Option.some.inj (e1.symm.trans g3)
  refine ⟨_, cell, by rw [hD]; exact hc, rfl, by rw [hr]; exact e1, Option.some.inj (e3.symm.trans hfc), ⟨e2, g4⟩, fun k hk hk2 => ?_⟩
  obtain ⟨cf, kF, fi, fd, cell2, i1, i2, i3, i4, i5, i6⟩ := hF k hk hk2
  obtain ⟨_, _, _, fd2, j1, j2⟩ := hS k hk
  cases Option.some.inj (i1.symm.trans j1)
  cases Option.some.inj (e1.symm.trans i3)
  show cell.slots[(xd_G D).2 ci k]? = _
  rw [← j2]
  exact i5
theorem h0S_hi {L : Nat} {xs : Nat → Int32} {r : Nat} (h1 : 1000 ≤ r) : h0S L xs r = none := by
  cases e : h0S L xs r with
  | none => rfl
  | some c =>
    rcases h0S_cases e with ⟨j, hj, rfl, -⟩ | ⟨rfl, -⟩ | ⟨rfl, -⟩ | ⟨rfl, -⟩ | ⟨rfl, -⟩ | ⟨rfl, -⟩ | ⟨rfl, -⟩ | ⟨rfl, -⟩ | ⟨rfl, -⟩ | ⟨rfl, -⟩ | ⟨rfl, -⟩ | ⟨rfl, -⟩ <;> omega
theorem h0S_int {L : Nat} {xs : Nat → Int32} {j : Nat} (hj : j < 256) : h0S L xs (200 + j) = some (2, 1, fun _ => .int (nI j - 128)) := by
  unfold h0S
  rw [if_pos ⟨by omega, by omega⟩, Nat.add_sub_cancel_left]
theorem h0S_cls {L : Nat} {xs : Nat → Int32} : xx_cls (h0S L xs) := by
  intro r c j e hj
  rcases h0S_cases e with ⟨k, hk, rfl, rfl⟩ | ⟨rfl, rfl⟩ | ⟨rfl, rfl⟩ | ⟨rfl, rfl⟩ | ⟨rfl, rfl⟩ | ⟨rfl, rfl⟩ | ⟨rfl, rfl⟩ | ⟨rfl, rfl⟩ | ⟨rfl, rfl⟩ | ⟨rfl, rfl⟩ | ⟨rfl, rfl⟩ | ⟨rfl, rfl⟩
  · exact trivial
  · exact trivial
  · show (h0S L xs (200 + j)).isSome = true
    rw [h0S_int hj]
    rfl
  · exact trivial
  · exact trivial
  · match j, hj with
    | 0, _ => exact rfl
    | 1, _ => exact trivial
    | 2, _ => exact trivial
    | 3, _ => exact trivial
  · match j, hj with
    | 0, _ => exact rfl
    | 1, _ => exact trivial
    | 2, _ => exact trivial
    | 3, _ => exact trivial
  · match j, hj with
    | 0, _ => exact rfl
    | 1, _ => exact trivial
    | 2, _ => exact trivial
    | 3, _ => exact trivial
  · exact trivial
  · exact trivial
  · exact trivial
  · exact trivial
theorem h0S_ok {L : Nat} {xs : Nat → Int32} : okB (h0S L xs) := by
  refine ⟨⟨⟨_, rfl⟩, ⟨_, rfl⟩, rfl, fun j hj => h0S_int hj, h0S_hi (by decide), h0S_hi (by decide)⟩, ⟨⟨⟨⟨_, rfl, rfl, rfl⟩, rfl, fun j _ => ⟨44, rfl, rfl⟩, by decide⟩, ⟨⟨_, rfl, rfl, rfl⟩, rfl, fun j _ => ⟨0, rfl, rfl⟩, by decide⟩, ⟨⟨_, rfl, rfl, rfl⟩, rfl, fun j _ => ⟨45, rfl, rfl⟩, by decide⟩⟩, ⟨_, rfl, fun x hx => ?_⟩⟩, fun r hr => h0S_hi hr⟩
  show Value.int (stDg x) = _
  unfold stDg
  rw [Nat.mod_eq_of_lt hx]
  rfl
theorem st_ltT {a N : Nat} {ty : FieldType} {g : Nat → Value} (hT : va_T ty a N g (stA s) s s.heap) : a < s.heap.size := Nat.not_le.mp hT.out
theorem st_ltO {a : Nat} {C : String} (hO : va_O C a (stA s) s s.heap) : a < s.heap.size := by
  obtain ⟨_, _, _, _, hn⟩ := hO
  exact Nat.not_le.mp hn
theorem st_txo {D : XD} {r u a v n : Nat} {b : Int32} (hD : xd_cl D = vwCl) (hG : va_K (xd_G D) vwCl [] s) (hr : xd_E D r = a) (hu : xd_E D u = v) (X : stTx s a v n b) : xx_oldc D (xd_E D) r (0, 4, vp_V [.ref u, .int 0, .int 0, .int 0]) s.heap :=
  st_oobj (T := TJ0) (C := RJ0) hD hG (by decide) rfl (by decide) hr X.1 (fun k hk hk2 => by
    have h2 := hk2 rfl
    match k, h2 with
    | 0, _ => exact (by show va_OF _ _ _ (.ref (xd_E D u)) _ _ _ _; rw [hu]; exact X.2.2.1)
    | 1, _ => exact X.2.1)
set_option maxRecDepth 4000 in
theorem st_D (h : stH args s) {b L : Nat} {xs : Nat → Int32} (hX : va_X b L xs s s.heap) : ∃ D : XD, xd_H D = s.heap ∧ xd_E D 11 = b ∧ xx_K D s ∧ xx_N D s ∧ xx_S D (xd_E D) (fun _ => none) (h0S L xs) s.heap := by
  obtain ⟨G, hG⟩ := st_G h
  obtain ⟨a4, v4, T4⟩ := st_T4 h
  obtain ⟨a0, v0, T0⟩ := st_T0 h
  obtain ⟨a1, ad, v1, T1, C1⟩ := st_T1 h
  obtain ⟨a5, a8, v5, X5⟩ := st_S5 h
  obtain ⟨a6, a9, v6, X6⟩ := st_S6 h
  obtain ⟨a7, a10, v7, X7⟩ := st_S7 h
  obtain ⟨a3, M3⟩ := va_Mi.of (h.fa (w := .isRef (.mirror "[Ljava/lang/Object;")) (by decide +kernel))
  have h105 : ∃ c, ArrOfT s c (.object "java/lang/Integer") := by
    obtain ⟨cell, -, e2, -⟩ := T1
    obtain ⟨-, k, hk, comp, hkind⟩ := e2
    exact ⟨cell.cls, st_arr hk hkind⟩
  obtain ⟨A, hA⟩ := st_A h h105
  have T11 : va_T .int b L (fun j => .int (xs j)) (stA s) s s.heap := by
    obtain ⟨scr, e1, e2, e3, e4, e5⟩ := hX
    exact ⟨scr, e1, e2, e3, by omega, congrArg Nat.toInt32 e4, e5, st_hA _ (Array.getElem?_eq_some_iff.mp e1).1⟩
  have arrOf : ∀ {ty : FieldType} {a N : Nat} {g : Nat → Value}, va_T ty a N g (stA s) s s.heap → ∃ cell : Cell, s.heap[a]? = some cell ∧ s.isArrayOf cell ty := fun hT => by
    obtain ⟨cell, e1, e2, -⟩ := hT
    exact ⟨cell, e1, e2⟩
  have hEi : ∀ j, stE ad a0 a1 a3 a4 a5 a6 a7 a8 a9 a10 b (200 + j) = ad j := fun j => by
    unfold stE
    rw [if_pos (by omega), Nat.add_sub_cancel_left]
  refine ⟨(vwCl, G, A, s.heap, stE ad a0 a1 a3 a4 a5 a6 a7 a8 a9 a10 b), rfl, rfl, ⟨rfl, ⟨hG, h.1 (.arrayOver (.array .int)) (st_Y (by decide +kernel)), ?_, ?_, ?_, M3, h.1 (.arrayOver (.object "java/lang/Object")) (st_Y (by decide +kernel)), ?_⟩, hA⟩, st_N h ?_, Nat.le_refl _, fun a _ => rfl, fun a r e => (by cases e), fun r c e => ?_, h0S_cls⟩
  · exact vx_Zqof (h.1 _ (st_Y (by decide +kernel))) (h.1 _ (st_Y (by decide +kernel))) (h.fa (by decide +kernel)) st_hA
  · exact vx_Zqof (h.1 _ (st_Y (by decide +kernel))) (h.1 _ (st_Y (by decide +kernel))) (h.fa (by decide +kernel)) st_hA
  · refine List.forall_mem_cons.mpr ⟨?_, List.forall_mem_cons.mpr ⟨?_, List.forall_mem_cons.mpr ⟨?_, List.forall_mem_cons.mpr ⟨?_, List.forall_mem_cons.mpr ⟨?_, fun _ q => absurd q List.not_mem_nil⟩⟩⟩⟩⟩
    · exact st_z h (st_Y (by decide +kernel)) (st_Y (by decide +kernel)) (va_eqt (h.fa (by decide +kernel)))
    · exact st_z h (st_Y (by decide +kernel)) (st_Y (by decide +kernel)) (va_eqt (h.fa (by decide +kernel)))
    · exact st_z h (st_Y (by decide +kernel)) (st_Y (by decide +kernel)) v1
    · exact st_z h (st_Y (by decide +kernel)) (st_Y (by decide +kernel)) v0
    · exact st_z h (st_Y (by decide +kernel)) (st_Y (by decide +kernel)) v4
  · intro r t e
    unfold xx_ota at e
    split at e
    · rename_i q; subst q; cases e; exact arrOf T0
    split at e
    · rename_i q; subst q; cases e; exact arrOf T1
    split at e
    · rename_i q; subst q; cases e; exact arrOf T11
    split at e
    · rename_i q
      cases e
      rcases q with rfl | rfl | rfl | rfl
      · exact arrOf T4
      · exact arrOf X5.2.2.2
      · exact arrOf X6.2.2.2
      · exact arrOf X7.2.2.2
    · cases e
  · refine List.forall_mem_cons.mpr ⟨?_, List.forall_mem_cons.mpr ⟨?_, List.forall_mem_cons.mpr ⟨?_, fun _ q => absurd q List.not_mem_nil⟩⟩⟩
    · exact vk_R.of (h.tb _ (st_Yt (by decide +kernel))) v5
    · exact vk_R.of (h.tb _ (st_Yt (by decide +kernel))) v6
    · exact vk_R.of (h.tb _ (st_Yt (by decide +kernel))) v7
  · rcases h0S_cases e with ⟨j, hj, rfl, rfl⟩ | ⟨rfl, rfl⟩ | ⟨rfl, rfl⟩ | ⟨rfl, rfl⟩ | ⟨rfl, rfl⟩ | ⟨rfl, rfl⟩ | ⟨rfl, rfl⟩ | ⟨rfl, rfl⟩ | ⟨rfl, rfl⟩ | ⟨rfl, rfl⟩ | ⟨rfl, rfl⟩ | ⟨rfl, rfl⟩
    · refine ⟨.inl ⟨by omega, fun _ => ?_, rfl⟩, fun _ => ?_, fun q => absurd q (by omega)⟩
      · show stE ad a0 a1 a3 a4 a5 a6 a7 a8 a9 a10 b (200 + j) < _
        rw [hEi j]
        exact st_ltO (C1.1 j hj)
      · exact st_oobj (T := TJ6) (C := RJ6) rfl hG (by decide) rfl (by decide) (hEi j) (C1.1 j hj) (fun k hk _ => by
          obtain rfl : k = 0 := by omega
          exact C1.2 j hj)
    · exact ⟨.inl ⟨by decide, fun _ => st_ltT T0, rfl⟩, fun _ => st_oarr (by decide) (by decide) rfl rfl T0 (fun j hj => absurd hj (Nat.not_lt_zero j)), fun q => absurd q (by decide)⟩
    · exact ⟨.inl ⟨by decide, fun _ => st_ltT T1, rfl⟩, fun _ => st_oarr (by decide) (by decide) rfl rfl T1 (fun j hj => congrArg Value.ref (hEi j)), fun q => absurd q (by decide)⟩
    · exact ⟨.inl ⟨by decide, fun q => absurd q (by decide), rfl⟩, fun _ => (by show ¬ 300 < 300; decide), fun q => absurd q (by decide)⟩
    · exact ⟨.inl ⟨by decide, fun _ => st_ltT T4, rfl⟩, fun _ => st_oarr (by decide) (by decide) rfl rfl T4 (fun j hj => rfl), fun q => absurd q (by decide)⟩
    · exact ⟨.inl ⟨by decide, fun _ => st_ltO X5.1, rfl⟩, fun _ => st_txo rfl hG rfl rfl X5, fun q => absurd q (by decide)⟩
    · exact ⟨.inl ⟨by decide, fun _ => st_ltO X6.1, rfl⟩, fun _ => st_txo rfl hG rfl rfl X6, fun q => absurd q (by decide)⟩
    · exact ⟨.inl ⟨by decide, fun _ => st_ltO X7.1, rfl⟩, fun _ => st_txo rfl hG rfl rfl X7, fun q => absurd q (by decide)⟩
    · exact ⟨.inl ⟨by decide, fun _ => st_ltT X5.2.2.2, rfl⟩, fun _ => st_oarr (by decide) (by decide) rfl rfl X5.2.2.2 (fun j hj => rfl), fun q => absurd q (by decide)⟩
    · exact ⟨.inl ⟨by decide, fun _ => st_ltT X6.2.2.2, rfl⟩, fun _ => st_oarr (by decide) (by decide) rfl rfl X6.2.2.2 (fun j hj => rfl), fun q => absurd q (by decide)⟩
    · exact ⟨.inl ⟨by decide, fun _ => st_ltT X7.2.2.2, rfl⟩, fun _ => st_oarr (by decide) (by decide) rfl rfl X7.2.2.2 (fun j hj => rfl), fun q => absurd q (by decide)⟩
    · exact ⟨.inl ⟨by decide, fun _ => st_ltT T11, rfl⟩, fun _ => st_oarr (by decide) (by decide) rfl rfl T11 (fun j hj => rfl), fun q => absurd q (by decide)⟩
end
end
section
/-! ===== the law from its entry on ===== -/
theorem ct_X8_init {l : Launch} {h : XH} (hl : l.stackTraces = false) {r : Nat}  : XEx l m_X8_init 1 0 0 [.ref r] (h) (none) (h) := by
  refine XMet.of hl rfl rfl (Nat.le_of_ble_eq_true rfl) (fun Y O hh hQ => ?_)
  show SW Y 0 0 (h) 0 [.ref r] []
  refine sw_aload_n O (xx_dt dd_X8_init 0 rfl) rfl ?_
  refine sw_objInit O oi_X8_1 (xx_dt dd_X8_init 1 rfl) (by omega) (Nat.le_of_ble_eq_true rfl) ?_
  exact sw_ret O (xx_dt dd_X8_init 2 rfl) rfl (by rw [hQ]; exact ⟨rfl, rfl⟩)
theorem xx_bs.C {h : XH} {σ : XS9} (b : xx_bs h) : xx_bs (setC σ h) :=
  ⟨b.1.imp fun f0 e => (setC_out (by omega)).trans e, b.2.1.imp fun c3 e => (setC_out (by omega)).trans e, (setC_out (by omega)).trans b.2.2.1, fun j hj => (setC_out (by omega)).trans (b.2.2.2.1 j hj), (setC_out (by omega)).trans b.2.2.2.2.1, (setC_out (by omega)).trans b.2.2.2.2.2⟩
theorem setC_in {σ : XS9} {h : XH} {c : XC} : setC σ (xx_up h 1000 c) = setC σ h := by
  funext q
  unfold setC
  by_cases a : 1000 ≤ q ∧ q < 4000
  · rw [if_pos a, if_pos a]
  · rw [if_neg a, if_neg a]
    exact xx_up_ne (by omega)
theorem fO_new : (fun j => defaultValue (tyX8 j)) = fO 0 .null := by
  funext k
  match k with
  | 0 => rfl
  | 1 => rfl
  | k + 2 => rfl
section
variable {Y : XY} {l : Launch} {h0 : XH} {xs : Nat → Int32} {len : Nat} {LI : XS9 → XS9 → Prop}
theorem law_begin {k n : Nat} (O : xx_O Y m_L_law l 40) (hl : l.stackTraces = false) (hB : okB h0) (kk : SW Y k n (hL h0 0 s0M s0C 0 none) 27 [.ref 11, .ref 1000, .ref 5000, .ref 4500, .int (nI (5 * 0)), xx_d, xx_d] []) : SW Y (k + 511) (n + 3665) h0 0 [.ref 11, xx_d, xx_d, xx_d, xx_d, xx_d, xx_d] [] := by
  refine xx_wid (k' := k + 510 + 1) (n' := n + 3653 + 12) (by omega) (by omega) (sw_new (k := k + 510) (n := n + 3653) (r := 1000) O (xx_dt dd_L_law_0 0 rfl) cl_X7 nw_L_8 (hB.2.2 1000 (by omega)) (by omega) ?_)
  rw [xx_blk_up]
  refine sw_dup O (xx_dt dd_L_law_0 1 rfl) rfl ?_
  refine xx_wid (k' := k + 9 + 501) (n' := n + 48 + 3605) (by omega) (by omega) (sw_callIx (k := k + 9) (n := n + 48) (k' := 501) (n' := 3605) (as := []) (st := [.ref 1000]) (st2 := [.ref 1000]) O (ct_X7_init hl (fun q h1 h2 h3 => (xx_up_ne h3).trans (hB.2.2 q h1)) (xx_up_eq _ _ _)) ce_X7_init ml_L_136 ii_X7_init (xx_dt dd_L_law_0 2 rfl) (by decide) rfl rfl (Nat.le_of_ble_eq_true rfl) rfl ?_)
  rw [setC_in]
  refine sw_astore_n (ls2 := [.ref 11, .ref 1000, xx_d, xx_d, xx_d, xx_d, xx_d]) O (xx_dt dd_L_law_0 3 rfl) (by decide) rfl ?_
  have hbC : xx_bs (setC s0C h0) := hB.1.C
  have hfC : ∀ r, 4000 ≤ r → setC s0C h0 r = none := fun r hr => (setC_out (by omega)).trans (hB.2.2 r (by omega))
  refine xx_wid (k' := k + 8 + 1) (n' := n + 31 + 17) (by omega) (by omega) (sw_new (k := k + 8) (n := n + 31) (r := 5000) O (xx_dt dd_L_law_0 4 rfl) cl_X14 nw_L_137 (hfC 5000 (by omega)) (by omega) ?_)
  rw [xx_blk_up]
  refine sw_dup O (xx_dt dd_L_law_0 5 rfl) rfl ?_
  refine xx_wid (k' := k + 1 + 7) (n' := n + 2 + 29) (by omega) (by omega) (sw_callIx (k := k + 1) (n := n + 2) (k' := 7) (n' := 29) (as := []) (st := [.ref 5000]) (st2 := [.ref 5000]) O (ct_X14_init hl hbC (fun r h1 h2 => hfC r (by omega))) ce_X14_init ml_L_139 ii_X14_init (xx_dt dd_L_law_0 6 rfl) (by decide) rfl rfl (Nat.le_of_ble_eq_true rfl) rfl ?_)
  refine sw_astore_n (ls2 := [.ref 11, .ref 1000, .ref 5000, xx_d, xx_d, xx_d, xx_d]) O (xx_dt dd_L_law_0 7 rfl) (by decide) rfl ?_
  refine sw_new (k := k) (n := n) (r := 4500) O (xx_dt dd_L_law_0 8 rfl) cl_X8 nw_L_14 ((setM_out (by omega)).trans (hfC 4500 (by omega))) (by omega) ?_
  rw [xx_blk_up]
  refine sw_dup O (xx_dt dd_L_law_0 9 rfl) rfl ?_
  refine sw_callIx (k := k) (n := n) (k' := 0) (n' := 0) (as := []) (st := [.ref 4500]) (st2 := [.ref 4500]) O (ct_X8_init hl) ce_X8_init ml_L_140 ii_X8_init (xx_dt dd_L_law_0 10 rfl) (by decide) rfl rfl (Nat.le_of_ble_eq_true rfl) rfl ?_
  refine sw_astore_n (ls2 := [.ref 11, .ref 1000, .ref 5000, .ref 4500, xx_d, xx_d, xx_d]) O (xx_dt dd_L_law_0 11 rfl) (by decide) rfl ?_
  refine sw_iconst (x := 0) O (xx_dt dd_L_law_0 12 rfl) (by decide) ?_
  refine sw_istore (ls2 := [.ref 11, .ref 1000, .ref 5000, .ref 4500, .int (nI (5 * 0)), xx_d, xx_d]) O (xx_dt dd_L_law_0 13 rfl) (by decide) rfl ?_
  have e : hL h0 0 s0M s0C 0 none = xx_up (setM 0 s0M (setC s0C h0)) 4500 (14, 2, fun j => defaultValue (tyX8 j)) := by
    unfold hL hO
    rw [setC_up (by omega), setM_up (.inl (by omega)), fO_new]
  rw [e] at kk
  exact kk
theorem law_all (O : xx_O Y m_L_law l 40) (hl : l.stackTraces = false) (hB : okB h0) (h11 : h0 11 = some (100, len, fun j => .int (xs j))) (hlen : len ≤ 2560) (hc0 : xx_cls h0) (hcb : ∀ τ σ, LI τ σ → cbd (ctl τ)) (hmeI : ∀ τ σ, LI τ σ → mem_eq τ τ) (hY0 : ∀ r, (xy_h Y r).isSome = true → r < 1000 ∧ (h0 r).isSome = true) (hQ1 : ∀ g, xy_Q Y (.inl (some (.int 1))) g) (hI0 : LI s0M s0C) (i_region : IF_region l LI) (i_border : IF_border l LI) (i_bidder : IF_bidder l LI) (i_rules : IF_rules l LI) (i_step : IF_step l LI) (i_open : IF_open l LI) (i_wish : IF_wish l LI) (i_waive : IF_waive l LI) (i_close : IF_close l LI) (i_offer : IF_offer l LI) (i_settle : IF_settle l LI) (i_fail : IF_fail l LI) (i_station : IF_station l LI) (i_ask : IF_ask l LI) (i_packs : IF_packs l LI) (i_channel : IF_channel l LI) (i_clear : IF_clear l LI) (i_ofRegion : IF_ofRegion l LI) (i_ofBidder : IF_ofBidder l LI) (i_wants : IF_wants l LI) (i_priceIn : IF_priceIn l LI) (i_codeIn : IF_codeIn l LI) (i_ofPackage : IF_ofPackage l LI) (i_wins : IF_wins l LI) (i_pays : IF_pays l LI) (i_holder : IF_holder l LI) (i_chart : IF_chart l LI) (i_sale : IF_sale l LI) (i_worth : IF_worth l LI) (i_wouldPay : IF_wouldPay l LI) (i_objects : IF_objects l LI) (i_most : IF_most l LI) (i_contradicts : IF_contradicts l LI) (i_anew : IF_anew l LI) (i_knock : IF_knock l LI) (i_isSound : IF_isSound l LI) (i_digest : IF_digest l LI) : SW Y (700 * (len / 5) + 511) (10000 * (len / 5) + 3665) h0 0 [.ref 11, xx_d, xx_d, xx_d, xx_d, xx_d, xx_d] [] :=
  law_begin O hl hB (law_loop O hl hB h11 hlen hc0 hcb hmeI hY0 hQ1 i_region i_border i_bidder i_rules i_step i_open i_wish i_waive i_close i_offer i_settle i_fail i_station i_ask i_packs i_channel i_clear i_ofRegion i_ofBidder i_wants i_priceIn i_codeIn i_ofPackage i_wins i_pays i_holder i_chart i_sale i_worth i_wouldPay i_objects i_most i_contradicts i_anew i_knock i_isSound i_digest (len / 5) 0 (Nat.zero_add _) 0 s0M s0C 0 none hI0 (fun p e => by cases e))
end
end
section
/-! ===== the whole law over interfaces ===== -/
def R_law : String := "WavesaleLaw"
def lw_P (b : Addr) (xs : List Int32) (args : Array Value) (s : State) : Prop := args = #[.ref b] ∧ s.IntsAt b xs ∧ xs.length ≤ 5 ∧ (Jvm.Cond.and given_1 narrow_1).before args s = true
def lw_Q (_ : Array Value) (s : State) (o : Outcome) (t : State) : Prop := o = .returned (some (.int 1)) ∧ Framed s o t [] 600002 7302232
def lw_Z (below : List Frame) (a : Array Value) (s : State) : State → Prop := fun t => ∃ o, t.status = .running ∧ Ended t below o ∧ lw_Q a s o t
def lw_At (p : Program) (s : State) (m : MethodId) (meth : Method) (c : Code) (b L : Nat) (xs : Nat → Int32) : Prop :=
  p.tables.exec = Jvm.exec ∧ c.code = code ∧ meth.sig.returnType = ret ∧ c.maxLocals = 7 ∧ s.vm.findClass R_law = some m.cls ∧ (∀ w ∈ lw_tbl, w.before #[Value.ref b] s = true) ∧ va_X b L xs s s.heap ∧ b < s.heap.size ∧ meth.locks = false ∧ (Jvm.Cond.and given_1 narrow_1).before #[Value.ref b] s = true ∧ meth.name = "law"
set_option maxRecDepth 100000 in
theorem law_whole {p : Program} {e : Env} {s : State} {m : MethodId} {below : List Frame} {meth : Method} {c : Code} (l : Launch) (hflags : l.flags = flags0) {b L : Nat} {xs : Nat → Int32} (hL : L ≤ 2560) (C0 : lw_At p s m meth c b L xs) {LI : XS9 → XS9 → Prop} (hcb : ∀ τ σ, LI τ σ → cbd (ctl τ)) (hmeI : ∀ τ σ, LI τ σ → mem_eq τ τ) (hI0 : LI s0M s0C)
    (i_region : IF_region l LI) (i_border : IF_border l LI) (i_bidder : IF_bidder l LI) (i_rules : IF_rules l LI) (i_step : IF_step l LI) (i_open : IF_open l LI) (i_wish : IF_wish l LI) (i_waive : IF_waive l LI) (i_close : IF_close l LI) (i_offer : IF_offer l LI) (i_settle : IF_settle l LI) (i_fail : IF_fail l LI) (i_station : IF_station l LI) (i_ask : IF_ask l LI) (i_packs : IF_packs l LI) (i_channel : IF_channel l LI) (i_clear : IF_clear l LI) (i_ofRegion : IF_ofRegion l LI) (i_ofBidder : IF_ofBidder l LI) (i_wants : IF_wants l LI) (i_priceIn : IF_priceIn l LI) (i_codeIn : IF_codeIn l LI) (i_ofPackage : IF_ofPackage l LI) (i_wins : IF_wins l LI) (i_pays : IF_pays l LI) (i_holder : IF_holder l LI) (i_chart : IF_chart l LI) (i_sale : IF_sale l LI) (i_worth : IF_worth l LI) (i_wouldPay : IF_wouldPay l LI) (i_objects : IF_objects l LI) (i_most : IF_most l LI) (i_contradicts : IF_contradicts l LI) (i_anew : IF_anew l LI) (i_knock : IF_knock l LI) (i_isSound : IF_isSound l LI) (i_digest : IF_digest l LI) : W p l e room_1 s m #[Value.ref b] below meth c s.heap [] 0 0 (lw_Z below #[Value.ref b] s) (entryFrame m ([Value.ref b] : List Value).toArray 7) := by
  obtain ⟨hx, hb, hr, hml, hown, hts, hX, hbl, hlocks, hgv, hnm⟩ := C0
  have H : stH #[Value.ref b] s := ⟨hts, hgv⟩
  obtain ⟨D, hDH, hDE, hK, hN, hS⟩ := st_D H hX
  have hl : l.stackTraces = false := by
    unfold Launch.stackTraces
    rw [hflags]
    rfl
  have O : xx_O ((p, l, e, room_1, s, m, #[Value.ref b], below, meth, c), D, xd_E D, h0S L xs, fun o _ => o = .inl (some (.int 1))) m_L_law l 40 :=
    ⟨hx, hb, hml, hr, hlocks, H.gw, hown, hK, hN, hl, hnm, rfl, Nat.le_of_ble_eq_true rfl, Nat.le_of_ble_eq_true rfl, fun E h9 q => (by cases q), fun a ha => by rw [hDH]⟩
  have sw := law_all O hl h0S_ok rfl hL h0S_cls hcb hmeI (fun r hr => ⟨Nat.not_le.mp fun q => (by
    have hr : (h0S L xs r).isSome = true := hr
    rw [h0S_hi q] at hr
    cases hr), hr⟩) (fun g => rfl) hI0 i_region i_border i_bidder i_rules i_step i_open i_wish i_waive i_close i_offer i_settle i_fail i_station i_ask i_packs i_channel i_clear i_ofRegion i_ofBidder i_wants i_priceIn i_codeIn i_ofPackage i_wins i_pays i_holder i_chart i_sale i_worth i_wouldPay i_objects i_most i_contradicts i_anew i_knock i_isSound i_digest
  have e11 : ([Value.ref 11].map (xx_v (xd_E D))) = [Value.ref b] := by
    show [Value.ref (xd_E D 11)] = _
    rw [hDE]
  have hent := lv_entry [Value.ref b] (n := 7) (Nat.le_of_ble_eq_true rfl)
  have hent2 : lv_has ((lg_sl [Value.ref b] ++ List.replicate (7 - (lg_sl [Value.ref b]).length) Slot.unset).toArray) 7 (lv_args 0 ([Value.ref 11].map (xx_v (xd_E D)))) := by
    rw [e11]
    exact hent
  have hls : xx_L (xd_E D) c.maxLocals [.ref 11, xx_d, xx_d, xx_d, xx_d, xx_d, xx_d] ((lg_sl [Value.ref b] ++ List.replicate (7 - (lg_sl [Value.ref b]).length) Slot.unset).toArray) := by
    rw [hml]
    exact xx_L.entry hent2
  have hin : ∀ v ∈ [Value.ref 11, xx_d, xx_d, xx_d, xx_d, xx_d, xx_d], xx_in (h0S L xs) v := by
    intro v hv
    rcases List.mem_cons.mp hv with rfl | hv
    · exact rfl
    · have : v = xx_d := by simpa using hv
      rw [this]
      exact trivial
  have g1 : 0 + (700 * (L / 5) + 511) ≤ 600002 := by omega
  have g2 : 0 + (10000 * (L / 5) + 3665) ≤ 7302232 := by omega
  have hx9 := sw (xd_E D) (fun _ => none) s.heap [] 0 0 _ ⟨hS, fun r hr => ⟨hr, rfl⟩, fun z hz => absurd hz List.not_mem_nil, g1, g2, hls, hin, fun v hv => absurd hv List.not_mem_nil⟩
  rw [lg_entry_eq]
  intro T hT X
  obtain ⟨t, a1, o, b1, b2, b3⟩ := hx9 T hT X
  refine ⟨t, a1, o, b1, b2, ?_⟩
  rcases b3 with ⟨hq, Lc, hF, hfree⟩ | ⟨q, rfl, E, ce, L9, hXc, -⟩
  · obtain ⟨v, h', ρ', ow', rfl, hQ, -⟩ := hq
    cases hQ
    obtain ⟨s1, s2, s3, s4, s5, s6⟩ := hF.2.2
    refine ⟨rfl, ⟨_, rfl⟩, hF.2.1, s1, s2, s3, s4, s5, fun a c9 ha => ?_⟩
    obtain ⟨c', e1, e2, e3, e4⟩ := s6 a c9 ha
    refine ⟨c', e1, e2, e3, fun i _ => e4 i (fun hm => ?_)⟩
    have h8 : (xd_H D).size ≤ a := hfree _ hm
    have h9 := (Array.getElem?_eq_some_iff.mp ha).1
    rw [hDH] at h8
    exact absurd h9 (Nat.not_lt.mpr h8)
  · obtain ⟨h', ρ', ow', hQ, -⟩ := hXc
    cases hQ
end
section
/-! ===== pure facts: what holds of the class's memory at all times ===== -/
/-- a number from 0 to m -/
def bd (m : Nat) (v : Int32) : Prop := v = nI (cn v) ∧ cn v ≤ m
theorem bd.nat {m n : Nat} (h : n ≤ m) (hm : m < 2147483648) : bd m (nI n) := by
  have e : cn (nI n) = n := cn_nI (by omega)
  exact ⟨by rw [e], by rw [e]; exact h⟩
theorem bd.le {m n : Nat} {v : Int32} (h : bd m v) (hm : m ≤ n) : bd n v := ⟨h.1, Nat.le_trans h.2 hm⟩
theorem bd.zero {m : Nat} : bd m 0 := ⟨rfl, Nat.zero_le _⟩
theorem bd.bt {m : Nat} {v lo hi : Int32} (h : n_bt v lo hi) (hl : 0 ≤ lo) (hm : hi = nI m) (hm2 : m < 2147483648) : bd m v := by
  obtain ⟨e, e2⟩ := cn_of (Int32.le_trans hl h.1)
  refine ⟨e, ?_⟩
  have h2 := Int32.le_iff_toInt_le.mp h.2
  rw [hm, toI_nI hm2] at h2
  omega
theorem bd.lt {x : Int32} {R m : Nat} (h : n_lt x R) (hm : R ≤ m + 1) : bd m x := ⟨h.1, by have := h.2; omega⟩
/-- a block's holder: nobody, or a bidder -/
def hd (v : Int32) : Prop := v = -1 ∨ bd 9 v
/-- the places that the invariant speaks of -/
def ky (q i : Nat) : Prop := (q = 1000 ∧ i = 9) ∨ (q = 1001 ∧ (i = 4 ∨ i = 9)) ∨ (q = 1006 ∧ i = 1) ∨ q = 1010 ∨ q = 1017 ∨ (1020 ≤ q ∧ q ≤ 1036) ∨ (1141 ≤ q ∧ q ≤ 1145) ∨ q = 1151 ∨ (q = 2000 ∧ i = 9)
def JC (σ : XS9) : Prop := bd 5 (σ 1001 4) ∧ bd 6 (σ 1001 9) ∧ bd 60 (σ 2000 9) ∧ bd 10 (σ 1006 1) ∧ bd 2 (σ 1000 9) ∧ (∀ i, i < 6 → bd 3 (σ 1017 i)) ∧ (∀ i, i < 6 → bd 6 (σ 1020 i)) ∧ (∀ r, r < 5 → bd 5 (σ 1010 r)) ∧ XCD σ ∧ (∀ i, i < 10 → bd 4 (σ 1151 i)) ∧ (∀ i k, i < 6 → k < 6 → 0 ≤ σ (1031 + i) k) ∧ ∀ r k, r < 5 → k < 5 → hd (σ (1141 + r) k)
theorem JC.of {σ σ' : XS9} (h : JC σ) (e : ∀ q i, ky q i → σ' q i = σ q i) : JC σ' := by
  obtain ⟨h1, h2, h3, h4, h5, h6, h7, h8, h9, h10, h11, h12⟩ := h
  refine ⟨by rw [e _ _ (by unfold ky; omega)]; exact h1, by rw [e _ _ (by unfold ky; omega)]; exact h2, by rw [e _ _ (by unfold ky; omega)]; exact h3, by rw [e _ _ (by unfold ky; omega)]; exact h4, by rw [e _ _ (by unfold ky; omega)]; exact h5, fun i hi => ?_, fun i hi => ?_, fun i hi => ?_, fun i k hi hk => ?_, fun i hi => ?_, fun i k hi hk => ?_, fun r k hr hk => ?_⟩
  · rw [e _ _ (by unfold ky; omega)]; exact h6 i hi
  · rw [e _ _ (by unfold ky; omega)]; exact h7 i hi
  · rw [e _ _ (by unfold ky; omega)]; exact h8 i hi
  · rw [e _ _ (by unfold ky; omega)]; exact h9 i k hi hk
  · rw [e _ _ (by unfold ky; omega)]; exact h10 i hi
  · rw [e _ _ (by unfold ky; omega)]; exact h11 i k hi hk
  · rw [e _ _ (by unfold ky; omega)]; exact h12 r k hr hk
theorem JC.set {σ : XS9} (h : JC σ) {q i : Nat} {x : Int32} (hq : ¬ ky q i) : JC (u2 σ q i x) := h.of fun q9 i9 hk => by
  by_cases e : q9 = q
  · subst e
    exact u2_oi (fun e2 => hq (by rw [← e2]; exact hk))
  · rw [u2_ne e]
theorem JC.rows {σ σ' : XS9} (h : JC σ) (e : ∀ q, (q = 1000 ∨ q = 1001 ∨ q = 1006 ∨ q = 1010 ∨ q = 1017 ∨ (1020 ≤ q ∧ q ≤ 1036) ∨ (1141 ≤ q ∧ q ≤ 1145) ∨ q = 1151 ∨ q = 2000) → σ' q = σ q) : JC σ' := h.of fun q i hk => by
  rw [e q (by unfold ky at hk; omega)]
theorem JC.init : JC s0C := by
  refine ⟨⟨by decide, by decide⟩, ⟨by decide, by decide⟩, ⟨by decide, by decide⟩, ⟨by decide, by decide⟩, ⟨by decide, by decide⟩, fun i hi => ?_, fun i hi => ?_, fun i hi => ?_, fun i k hi hk => ?_, fun i hi => ?_, fun i k hi hk => ?_, fun r k hr hk => ?_⟩
  · rw [s0C_z (by decide) (by decide) (by omega) (by decide)]; exact bd.zero
  · rw [s0C_z (by decide) (by decide) (by omega) (by decide)]; exact bd.zero
  · rw [s0C_z (by decide) (by decide) (by omega) (by decide)]; exact bd.zero
  · rw [s0C_z (by omega) (by omega) (by omega) (by omega)]; exact Int32.le_refl _
  · rw [s0C_z (by decide) (by decide) (by omega) (by decide)]; exact bd.zero
  · rw [s0C_z (by omega) (by omega) (by omega) (by omega)]; exact Int32.le_refl _
  · left
    unfold s0C
    rw [if_neg (by omega), if_neg (by omega), if_pos (by omega)]
/-! the class's methods keep it -/
theorem ky.n {q i : Nat} (h : ¬ (q = 1000 ∨ q = 1001 ∨ q = 1006 ∨ q = 1010 ∨ q = 1017 ∨ (1020 ≤ q ∧ q ≤ 1036) ∨ (1141 ≤ q ∧ q ≤ 1145) ∨ q = 1151 ∨ q = 2000)) : ¬ ky q i := fun k => by
  unfold ky at k
  omega
section
variable {σ : XS9} {R B C K w : Nat}
theorem JC.begin (h : JC σ) : JC (g_begin σ 2000) := by
  have e : ∀ q, q ≠ 2000 → (q < 2001 ∨ 2006 < q) → g_begin σ 2000 q = σ q := fun q a b => fr_begin (by omega)
  have e9 : g_begin σ 2000 2000 9 = 0 := by
    unfold g_begin
    rw [u2_oi (by decide)]
    exact u2_at
  obtain ⟨h1, h2, h3, h4, h5, h6, h7, h8, h9, h10, h11, h12⟩ := h
  refine ⟨by rw [e _ (by omega) (by omega)]; exact h1, by rw [e _ (by omega) (by omega)]; exact h2, by rw [e9]; exact bd.zero, by rw [e _ (by omega) (by omega)]; exact h4, by rw [e _ (by omega) (by omega)]; exact h5, fun i hi => ?_, fun i hi => ?_, fun i hi => ?_, fun i k hi hk => ?_, fun i hi => ?_, fun i k hi hk => ?_, fun r k hr hk => ?_⟩
  · rw [e _ (by omega) (by omega)]; exact h6 i hi
  · rw [e _ (by omega) (by omega)]; exact h7 i hi
  · rw [e _ (by omega) (by omega)]; exact h8 i hi
  · rw [e _ (by omega) (by omega)]; exact h9 i k hi hk
  · rw [e _ (by omega) (by omega)]; exact h10 i hi
  · rw [e _ (by omega) (by omega)]; exact h11 i k hi hk
  · rw [e _ (by omega) (by omega)]; exact h12 r k hr hk
/-- one place of a row is written with what the row may hold -/
theorem JC.put {q i : Nat} {x : Int32} (h : JC σ) (hx : (q = 1001 ∧ i = 4 ∧ bd 5 x) ∨ (q = 1001 ∧ i = 9 ∧ bd 6 x) ∨ (q = 1006 ∧ i = 1 ∧ bd 10 x) ∨ (q = 1000 ∧ i = 9 ∧ bd 2 x) ∨ (q = 1017 ∧ bd 3 x) ∨ (q = 1020 ∧ bd 6 x) ∨ (q = 1010 ∧ bd 5 x) ∨ (1022 ≤ q ∧ q < 1028 ∧ 0 ≤ x) ∨ (q = 1151 ∧ bd 4 x) ∨ (1031 ≤ q ∧ q < 1037 ∧ 0 ≤ x) ∨ (1141 ≤ q ∧ q ≤ 1145 ∧ hd x)) : JC (u2 σ q i x) := by
  have e : ∀ q9 i9, (q9 = q → i9 ≠ i) → u2 σ q i x q9 i9 = σ q9 i9 := fun q9 i9 hn => by
    by_cases e : q9 = q
    · subst e
      exact u2_oi (hn rfl)
    · rw [u2_ne e]
  have g : ∀ (P : Int32 → Prop) q9 i9, P (σ q9 i9) → (q9 = q → i9 = i → P x) → P (u2 σ q i x q9 i9) := fun P q9 i9 h1 h2 => by
    by_cases e1 : q9 = q
    · by_cases e2 : i9 = i
      · subst e1
        subst e2
        rw [u2_at]
        exact h2 rfl rfl
      · rw [e _ _ (fun _ => e2)]
        exact h1
    · rw [e _ _ (fun z => absurd z e1)]
      exact h1
  obtain ⟨h1, h2, h3, h4, h5, h6, h7, h8, h9, h10, h11, h12⟩ := h
  refine ⟨g _ _ _ h1 (fun a b => ?_), g _ _ _ h2 (fun a b => ?_), g _ _ _ h3 (fun a b => ?_), g _ _ _ h4 (fun a b => ?_), g _ _ _ h5 (fun a b => ?_), fun i hi => g _ _ _ (h6 i hi) (fun a b => ?_), fun i hi => g _ _ _ (h7 i hi) (fun a b => ?_), fun i hi => g _ _ _ (h8 i hi) (fun a b => ?_), fun i k hi hk => g (fun v => 0 ≤ v) _ _ (h9 i k hi hk) (fun a b => ?_), fun i hi => g _ _ _ (h10 i hi) (fun a b => ?_), fun i k hi hk => g (fun v => 0 ≤ v) _ _ (h11 i k hi hk) (fun a b => ?_), fun r k hr hk => g _ _ _ (h12 r k hr hk) (fun a b => ?_)⟩ <;> (rcases hx with ⟨z1, z2, z⟩ | ⟨z1, z2, z⟩ | ⟨z1, z2, z⟩ | ⟨z1, z2, z⟩ | ⟨z1, z⟩ | ⟨z1, z⟩ | ⟨z1, z⟩ | ⟨z1, z2, z⟩ | ⟨z1, z⟩ | ⟨z1, z2, z⟩ | ⟨z1, z2, z⟩ <;> first | exact z | (exfalso; omega))
theorem JC.region {x y z : Int32} (h : JC σ) (hR6 : R ≤ 5) : JC (g_region σ x y z R) := by
  unfold g_region
  split
  · rename_i hx
    split
    · split
      · split
        · split
          · rename_i hR9
            have hR5 : R < 5 := (nI_ltI (a := R) (b := 5) (by omega) (by omega)).mp hR9
            refine JC.begin ?_
            unfold g_addRegion
            refine JC.put (JC.set (q := 1012) (JC.set (q := 1011) (JC.put h (.inr (.inr (.inr (.inr (.inr (.inr (.inl ⟨rfl, bd.bt hx (by decide) rfl (by decide)⟩)))))))) (ky.n (by decide))) (ky.n (by decide))) (.inl ⟨rfl, rfl, bd.nat (by omega) (by decide)⟩)
          · exact h
        · exact h
      · exact h
    · exact h
  · exact h
theorem JC.bidder {x y z v : Int32} (h : JC σ) (hB6 : B ≤ 6) : JC (g_bidder σ x y z v B) := by
  unfold g_bidder
  split
  · split
    · split
      · split
        · rename_i hv
          split
          · split
            · rename_i hB9
              have hB5 : B < 6 := (nI_ltI (a := B) (b := 6) (by omega) (by omega)).mp hB9
              refine JC.begin ?_
              unfold g_addBidder
              exact JC.put (JC.put (JC.set (q := 1016) (JC.set (q := 1015) (JC.set (q := 1014) h (ky.n (by decide))) (ky.n (by decide))) (ky.n (by decide))) (q := 1017) (.inr (.inr (.inr (.inr (.inl ⟨rfl, bd.bt hv (by decide) rfl (by decide)⟩)))))) (.inr (.inl ⟨rfl, rfl, bd.nat (by omega) (by decide)⟩))
            · exact h
          · exact h
        · exact h
      · exact h
    · exact h
  · exact h
theorem JC.border {x y : Int32} (h : JC σ) : JC (g_border σ x y R) := by
  unfold g_border
  split
  · split
    · split
      · exact h
      · split
        · unfold g_addBorder
          exact JC.set (q := 1013) (JC.set (q := 1013) h (ky.n (by decide))) (ky.n (by decide))
        · exact h
    · exact h
  · exact h
theorem JC.rules {x y : Int32} (h : JC σ) : JC (g_rules σ x y) := by
  have k1 : ∀ i, (i = 10 ∨ i = 11) → ¬ ky 1001 i := fun i hi k => by unfold ky at k; omega
  unfold g_rules
  split
  · split
    · exact JC.set (JC.set h (k1 10 (.inl rfl))) (k1 11 (.inr rfl))
    · exact h
  · exact h
theorem ky1000 {i : Nat} (hi : i ≠ 9) : ¬ ky 1000 i := fun k => by unfold ky at k; omega
theorem JC.step {x : Int32} (h : JC σ) : JC (g_step σ x) := by
  unfold g_step
  split
  · split
    · exact JC.set h (ky1000 (by decide))
    · split
      · exact JC.set h (ky1000 (by decide))
      · exact h
  · exact h
theorem JC.opn (h : JC σ) : JC (g_open σ R B) := by
  unfold g_open
  split
  · split
    · exact h
    · split
      · exact h
      · exact JC.set h (ky1000 (by decide))
  · exact h
theorem JC.wish {x y z : Int32} (h : JC σ) : JC (g_wish σ x y z R B) := by
  unfold g_wish
  split
  · split
    · split
      · split
        · split
          · exact h
          · exact JC.set (q := 2003) h (ky.n (by decide))
        · exact h
      · exact h
    · exact h
  · exact h
theorem JC.waive {x : Int32} (h : JC σ) : JC (g_waive σ x B) := by
  have k1 : ¬ ky 2000 12 := fun k => by unfold ky at k; omega
  unfold g_waive
  split
  · split
    · split
      · exact h
      · split
        · unfold g_useWaiver
          exact JC.set (q := 2000) (JC.set (q := 2005) h (ky.n (by decide))) k1
        · exact h
    · exact h
  · exact h
theorem JC.station {x y : Int32} (h : JC σ) (hR5 : R ≤ 5) (hC10 : C ≤ 10) : JC (g_station σ x y R C) := by
  unfold g_station
  split
  · rename_i hx
    split
    · split
      · rename_i hC9
        have hC5 : C < 10 := (nI_ltI (a := C) (b := 10) (by omega) (by omega)).mp hC9
        unfold g_add
        refine JC.put (JC.set (q := 1150) (JC.put h (q := 1151) (.inr (.inr (.inr (.inr (.inr (.inr (.inr (.inr (.inl ⟨rfl, ?_⟩)))))))))) (ky.n (by decide))) (.inr (.inr (.inl ⟨rfl, rfl, bd.nat (by omega) (by decide)⟩)))
        exact bd.nat (by have := hx.2; omega) (by decide)
      · exact h
    · exact h
  · exact h
theorem JC.ask {x y : Int32} (h : JC σ) : JC (g_ask σ x y C) := by
  unfold g_ask
  split
  · split
    · exact JC.set (q := 1150) h (ky.n (by decide))
    · exact h
  · exact h
theorem JC.pack {x : Int32} {ch : Nat} {rg : Nat → Nat} (h : JC σ) : JC (g_pack σ x ch C rg) := h.rows fun q hq => fr_packM (by omega)
theorem JC.cheapest {ch : Nat} {rg : Nat → Nat} (h : JC σ) : JC (g_cheapest σ ch C rg) := h.rows fun q hq => fr_cheapest (by omega)
theorem JC.packs {x y : Int32} {rg : Nat → Nat} (h : JC σ) : JC (g_packs σ x y C rg) := by
  unfold g_packs
  split
  · split
    · exact h.pack
    · exact h
  · exact h
theorem JC.channel {x y z : Int32} {rg : Nat → Nat} (h : JC σ) : JC (g_channel σ x y z C rg) := by
  unfold g_channel
  split
  · split
    · split
      · exact h.pack
      · exact h
    · exact h
  · exact h
theorem JC.clear {x : Int32} {rg : Nat → Nat} (h : JC σ) : JC (g_clear σ x C rg) := by
  unfold g_clear
  split
  · exact h.cheapest
  · exact h
theorem JC.runLog {x y : Int32} {j r : Nat} (h : JC σ) (hK60 : K ≤ 60) : JC (g_runLog σ 3000 2000 x j r y B R K) := h.rows fun q hq => fr_runLog hK60 (by omega)
theorem JC.anew {x y z v : Int32} (h : JC σ) (hK60 : K ≤ 60) : JC (g_anew σ x y z v R B K) := by
  unfold g_anew
  split
  · split
    · split
      · split
        · exact h.runLog hK60
        · exact h
      · exact h
    · exact h
  · exact h
theorem JC.isSound (h : JC σ) (hK60 : K ≤ 60) : JC (g_isSound σ R B w K) := h.runLog hK60
theorem JC.digest {rg : Nat → Nat} (h : JC σ) (hK60 : K ≤ 60) : JC (g_digest σ K B R C w rg) := by
  unfold g_digest g_dgS
  split
  · exact JC.isSound h.cheapest.cheapest hK60
  · exact JC.isSound h hK60
theorem JC.knock (h : JC σ) : JC (g_knock σ) := JC.set h (ky1000 (by decide))
theorem JC.addM {i : Nat} {x y : Int32} {gr cnt : Nat → Nat} (h : JC σ) (hi : i < 6) (hg : ∀ i, i < 6 → gr i < 4) (hc : cnt i ≤ 6) (hx : 0 ≤ x) (hy : 0 ≤ y) : JC (g_addM σ i x y R B gr cnt) := by
  have hgi := hg i hi
  have hp : 2 ^ i < 64 := by
    have := Nat.pow_lt_pow_right (a := 2) (by decide) hi
    exact this
  unfold g_addM
  split
  · rename_i q
    have hc6 : cnt i < 6 := (nI_ltI (a := cnt i) (b := 6) (by omega) (by omega)).mp q
    have A : JC (u2 (u2 (u2 σ (1022 + i) (cnt i) x) (1031 + i) (cnt i) y) 1020 i (nI (cnt i + 1))) :=
      JC.put (JC.put (JC.put h (.inr (.inr (.inr (.inr (.inr (.inr (.inr (.inl ⟨by omega, by omega, hx⟩))))))))) (.inr (.inr (.inr (.inr (.inr (.inr (.inr (.inr (.inr (.inl ⟨by omega, by omega, hy⟩))))))))))) (.inr (.inr (.inr (.inr (.inr (.inl ⟨rfl, bd.nat (by omega) (by decide)⟩))))))
    generalize u2 (u2 (u2 σ (1022 + i) (cnt i) x) (1031 + i) (cnt i) y) 1020 i (nI (cnt i + 1)) = s at A ⊢
    split
    · exact A.rows fun q hq => fr_findWinners (by omega)
    · refine A.rows fun q hq => ?_
      rw [fr_findWinners (by omega), fr_giveBack (by omega), fr_pickFrom ⟨hg, hp, by omega, by omega, by omega, by omega, by omega⟩, fr_take (by omega)]
  · exact h
theorem JC.find (h : JC σ) : JC (g_find σ) := h.rows fun q hq => fr_find (by omega)
theorem JC.offer {x y z : Int32} {gr cnt : Nat → Nat} (h : JC σ) (hB6 : B ≤ 6) (hg : ∀ i, i < 6 → gr i < 4) (hc : ∀ i, i < 6 → cnt i ≤ 6) : JC (g_offer σ x y z R B gr cnt) := by
  unfold g_offer
  split
  · rename_i hx
    have hx6 : cn x < 6 := by have := hx.2; omega
    split
    · exact h
    · rename_i hy
      have hy0 : 0 ≤ y := by
        refine Int32.not_lt.mp fun q => hy ?_
        unfold f_isCode
        rw [if_pos q]
      split
      · rename_i hz
        split
        · split
          · exact h
          · split
            · exact h
            · exact (h.addM hx6 hg (hc _ hx6) hy0 hz).find
        · exact h
      · exact h
  · exact h
def hdI (s : XS9) : Prop := ∀ r k, r < 5 → k < 5 → hd (s (1141 + r) k)
theorem hd.six {n : Nat} : hd (nI (n % 6)) := .inr (bd.nat (by omega) (by decide))
theorem hdI.u2 {s : XS9} (h : hdI s) {q k : Nat} {x : Int32} (hx : hd x) : hdI (u2 s q k x) := fun r9 k9 hr hk => by
  by_cases e : 1141 + r9 = q
  · by_cases e2 : k9 = k
    · rw [e, e2, u2_at]
      exact hx
    · rw [e, u2_oi e2, ← e]
      exact h r9 k9 hr hk
  · rw [u2_ne e]
    exact h r9 k9 hr hk
theorem hdI.fill {s : XS9} (h : hdI s) {a n : Nat} {x : Int32} (hx : hd x) : hdI (g_fill s a n x) := by
  unfold g_fill x_fill_5
  exact xit_inv hdI (N := n) (fun i3 s3 _ hP3 => hP3.u2 hx) n 0 _ (Nat.zero_add _) h
theorem hdI.turn62 {s s0 : XS9} {s2 : XS9 × Nat} {i : Nat} (h : hdI s0) {r t : Nat} {sp : Nat → Nat} : hdI (x_giveByTurn_62 s r t sp i s2 s0) := by
  unfold x_giveByTurn_62
  generalize min (s2.2 + cbw s2.1 ((t + i) % 6) r) (sp r) - s2.2 = n9
  exact xit_inv hdI (N := n9) (fun i3 s3 _ hP3 => hP3.u2 hd.six) n9 0 _ (Nat.zero_add _) h
theorem hdI.turn {s : XS9} (h : hdI s) {r t : Nat} {sp : Nat → Nat} : hdI (g_giveByTurn s r t sp) := by
  unfold g_giveByTurn x_giveByTurn_20
  generalize 6 = n9
  exact xit_inv (fun s : XS9 × Nat => hdI s.1) (N := n9) (fun i s2 _ hP => hdI.turn62 (s := s) hP) n9 0 _ (Nat.zero_add _) (hdI.fill h (.inl rfl))
theorem hdI.give25 {s : XS9} {s0 : XS9 × Nat × Int32} (h : hdI s0.1) {sp : Nat → Nat} {i : Nat} : hdI (x_give_25 s R sp i s0).1 := by
  unfold x_give_25
  generalize 6 = n9
  refine xit_inv (fun s : XS9 × Nat × Int32 => hdI s.1) (N := n9) (fun i3 s3 _ hP3 => ?_) n9 0 _ (Nat.zero_add _) h
  have e := hP3.turn (r := i) (t := i3) (sp := sp)
  generalize g_giveByTurn s3.1 i i3 sp = g9 at e ⊢
  split
  · exact e
  · exact e
theorem hdI.give {s : XS9} (h : hdI s) {sp : Nat → Nat} : hdI (g_give s R sp) := by
  unfold g_give x_give_7
  refine xit_inv hdI (N := R) (fun i s2 _ hP => ?_) R 0 _ (Nat.zero_add _) (fun r k hr hk => by rw [u2_ne (by omega)]; exact h r k hr hk)
  have e : hdI (x_give_25 s R sp i (s2, 0, 25)).1 := hdI.give25 hP
  generalize x_give_25 s R sp i (s2, 0, 25) = y9 at e ⊢
  have e2 := e.turn (r := i) (t := y9.2.1) (sp := sp)
  generalize g_giveByTurn y9.1 i y9.2.1 sp = z9 at e2 ⊢
  intro r k hr hk
  rw [u2_ne (by omega)]
  exact e2 r k hr hk
theorem JC.give {sp : Nat → Nat} (h : JC σ) (hR5 : R ≤ 5) : JC (g_give σ R sp) := by
  have e : ∀ q, q ≠ 1005 → (q < 1141 ∨ 1145 < q) → g_give σ R sp q = σ q := fun q a b => fr_give hR5 ⟨a, b⟩
  have hh : hdI (g_give σ R sp) := hdI.give (s := σ) (R := R) h.2.2.2.2.2.2.2.2.2.2.2
  obtain ⟨h1, h2, h3, h4, h5, h6, h7, h8, h9, h10, h11, h12⟩ := h
  refine ⟨by rw [e _ (by omega) (by omega)]; exact h1, by rw [e _ (by omega) (by omega)]; exact h2, by rw [e _ (by omega) (by omega)]; exact h3, by rw [e _ (by omega) (by omega)]; exact h4, by rw [e _ (by omega) (by omega)]; exact h5, fun i hi => ?_, fun i hi => ?_, fun i hi => ?_, fun i k hi hk => ?_, fun i hi => ?_, fun i k hi hk => ?_, hh⟩
  · rw [e _ (by omega) (by omega)]; exact h6 i hi
  · rw [e _ (by omega) (by omega)]; exact h7 i hi
  · rw [e _ (by omega) (by omega)]; exact h8 i hi
  · rw [e _ (by omega) (by omega)]; exact h9 i k hi hk
  · rw [e _ (by omega) (by omega)]; exact h10 i hi
  · rw [e _ (by omega) (by omega)]; exact h11 i k hi hk
theorem JC.settle {x : Int32} {sp : Nat → Nat} (h : JC σ) (hR5 : R ≤ 5) : JC (g_settle σ x R sp) := by
  unfold g_settle
  split
  · rename_i hx
    split
    · exact JC.give (JC.set (JC.put h (.inr (.inr (.inr (.inl ⟨rfl, rfl, bd.bt hx (by decide) rfl (by decide)⟩))))) (ky1000 (by decide))) hR5
    · exact h
  · exact h
theorem JC.leaveOut {i : Nat} (h : JC σ) : JC (g_leaveOut σ i) := h.rows fun q hq => fr_leaveOut (by omega)
theorem JC.fail {x : Int32} {sp : Nat → Nat} (h : JC σ) (hR5 : R ≤ 5) : JC (g_fail σ x R B sp) := by
  unfold g_fail
  split
  · split
    · split
      · exact h
      · exact JC.give (JC.set h (ky1000 (by decide))).leaveOut.find hR5
    · exact h
  · exact h
end
end
section
/-! ===== pure facts: the class's clock ===== -/
theorem many_eq {n r : Nat} (hn : n ≤ 7775) (hr : r < 5) : f_many (nI n) r = nI (n / 6 ^ r % 6) := by
  have d : ∀ a, a ≤ 7775 → nI a / 6 = nI (a / 6) := fun a ha => div6 (by omega)
  have e : ∀ a, a ≤ 7775 → nI a - nI a / 6 * 6 = nI (a % 6) := fun a ha => mod6x (by omega)
  match r, hr with
  | 0, _ =>
    show nI n - nI n / 6 * 6 = _
    rw [e n hn, Nat.pow_zero, Nat.div_one]
  | 1, _ =>
    show nI n / 6 - nI n / 6 / 6 * 6 = _
    rw [d n hn, e _ (by omega), Nat.pow_one]
  | 2, _ =>
    show nI n / 6 / 6 - nI n / 6 / 6 / 6 * 6 = _
    rw [d n hn, d _ (by omega), e _ (by omega), Nat.div_div_eq_div_mul]
  | 3, _ =>
    show nI n / 6 / 6 / 6 - nI n / 6 / 6 / 6 / 6 * 6 = _
    rw [d n hn, d _ (by omega), d _ (by omega), e _ (by omega), Nat.div_div_eq_div_mul, Nat.div_div_eq_div_mul]
  | 4, _ =>
    show nI n / 6 / 6 / 6 / 6 - nI n / 6 / 6 / 6 / 6 / 6 * 6 = _
    rw [d n hn, d _ (by omega), d _ (by omega), d _ (by omega), e _ (by omega), Nat.div_div_eq_div_mul, Nat.div_div_eq_div_mul, Nat.div_div_eq_div_mul]
theorem rep_eq {n k p d : Nat} (hd : d * p ≤ n) : nI n + (nI k - nI d) * nI p = nI (n - d * p + k * p) := by
  rw [Int32.sub_mul, nI_mul, nI_mul, ← nI_plus, ← nI_minus hd, Int32.sub_eq_add_neg, Int32.sub_eq_add_neg, Int32.add_assoc, Int32.add_comm (nI (k * p))]
theorem bd.many {c : Int32} (h : bd 7775 c) {r : Nat} (hr : r < 5) : bd 5 (f_many c r) := by
  rw [h.1, many_eq h.2 hr]
  exact bd.nat (by omega) (by decide)
theorem bd.replaced {c m : Int32} (h : bd 7775 c) {r : Nat} (hr : r < 5) (hm : bd 5 m) : bd 7775 (f_replaced c r m) := by
  unfold f_replaced
  have h2 := h.2
  have m2 := hm.2
  rw [h.1, many_eq h2 hr, hm.1]
  generalize cn c = n at h2
  generalize cn m = k at m2
  match r, hr with
  | 0, _ =>
    rw [show x_replaced_5 (nI n) 0 (nI k) 1 = nI 1 from rfl, rep_eq (by simp only [Nat.pow_zero]; omega)]
    exact bd.nat (by simp only [Nat.pow_zero]; omega) (by decide)
  | 1, _ =>
    rw [show x_replaced_5 (nI n) 1 (nI k) 1 = nI 6 from rfl, rep_eq (by simp only [Nat.pow_one]; omega)]
    exact bd.nat (by simp only [Nat.pow_one]; omega) (by decide)
  | 2, _ =>
    rw [show x_replaced_5 (nI n) 2 (nI k) 1 = nI 36 from rfl, rep_eq (by show n / 36 % 6 * 36 ≤ n; omega)]
    exact bd.nat (by show n - n / 36 % 6 * 36 + k * 36 ≤ 7775; omega) (by decide)
  | 3, _ =>
    rw [show x_replaced_5 (nI n) 3 (nI k) 1 = nI 216 from rfl, rep_eq (by show n / 216 % 6 * 216 ≤ n; omega)]
    exact bd.nat (by show n - n / 216 % 6 * 216 + k * 216 ≤ 7775; omega) (by decide)
  | 4, _ =>
    rw [show x_replaced_5 (nI n) 4 (nI k) 1 = nI 1296 from rfl, rep_eq (by show n / 1296 % 6 * 1296 ≤ n; omega)]
    exact bd.nat (by show n - n / 1296 % 6 * 1296 + k * 1296 ≤ 7775; omega) (by decide)
theorem tot_step {c a p : Int32} {m : Nat} (hc : bd 7775 c) (ha : bd m a) (hp : bd 9999 p) (hm : m ≤ 1000000) : bd 7775 (c / 6) ∧ bd (m + 49995) (a + (c - c / 6 * 6) * p) := by
  have c2 := hc.2
  have a2 := ha.2
  have p2 := hp.2
  rw [hc.1, ha.1, hp.1]
  generalize cn c = n at c2
  generalize cn a = k at a2
  generalize cn p = q at p2
  rw [mod6x (by omega), div6 (by omega), nI_mul, nI_plus]
  have h6 : n % 6 ≤ 5 := by omega
  have hmul : n % 6 * q ≤ 5 * 9999 := Nat.mul_le_mul h6 p2
  exact ⟨bd.nat (by omega) (by decide), bd.nat (by omega) (by omega)⟩
theorem bd.total {c : Int32} (h : bd 7775 c) {f : Nat → Int32} (hf : ∀ r, r < 5 → bd 9999 (f r)) : bd 249975 (f_total c 5 f) := by
  have s0 := tot_step h (bd.zero (m := 0)) (hf 0 (by decide)) (by decide)
  have s1 := tot_step s0.1 s0.2 (hf 1 (by decide)) (by decide)
  have s2 := tot_step s1.1 s1.2 (hf 2 (by decide)) (by decide)
  have s3 := tot_step s2.1 s2.2 (hf 3 (by decide)) (by decide)
  have s4 := tot_step s3.1 s3.2 (hf 4 (by decide)) (by decide)
  exact s4.2
/-- the clock's numbers: codes that are held and wished, prices now and in the log; first prices and the step -/
def KB (σ : XS9) : Prop := (∀ i, i < 6 → bd 7775 (σ 2002 i)) ∧ (∀ i, i < 6 → bd 7775 (σ 2003 i)) ∧ (∀ r, r < 5 → bd 9999 (σ 2001 r)) ∧ (∀ k r, k < 60 → r < 5 → bd 9999 (σ (2101 + k) r)) ∧ (∀ r, r < 5 → bd 999 (σ 1012 r)) ∧ bd 20 (σ 1000 8)
theorem KB.of {σ σ' : XS9} (h : KB σ) (e : ∀ q, (q = 2001 ∨ q = 2002 ∨ q = 2003 ∨ (2101 ≤ q ∧ q ≤ 2160) ∨ q = 1012) → σ' q = σ q) (e8 : σ' 1000 8 = σ 1000 8) : KB σ' := by
  obtain ⟨h1, h2, h3, h4, h5, h6⟩ := h
  refine ⟨fun i hi => ?_, fun i hi => ?_, fun i hi => ?_, fun k r hk hr => ?_, fun r hr => ?_, by rw [e8]; exact h6⟩
  · rw [e _ (by omega)]; exact h1 i hi
  · rw [e _ (by omega)]; exact h2 i hi
  · rw [e _ (by omega)]; exact h3 i hi
  · rw [e _ (by omega)]; exact h4 k r hk hr
  · rw [e _ (by omega)]; exact h5 r hr
theorem KB.rows {σ σ' : XS9} (h : KB σ) (e : ∀ q, (q = 2001 ∨ q = 2002 ∨ q = 2003 ∨ (2101 ≤ q ∧ q ≤ 2160) ∨ q = 1012 ∨ q = 1000) → σ' q = σ q) : KB σ' := h.of (fun q hq => e q (by omega)) (by rw [e _ (by omega)])
theorem KB.set {σ : XS9} (h : KB σ) {q i : Nat} {x : Int32} (hq : ¬ (q = 2001 ∨ q = 2002 ∨ q = 2003 ∨ (2101 ≤ q ∧ q ≤ 2160) ∨ q = 1012 ∨ (q = 1000 ∧ i = 8))) : KB (u2 σ q i x) := by
  refine h.of (fun q9 h9 => u2_ne (by omega)) ?_
  by_cases e : q = 1000
  · subst e
    exact u2_oi (by omega)
  · rw [u2_ne (by omega)]
theorem KB.put {σ : XS9} {q i : Nat} {x : Int32} (h : KB σ) (hx : ((q = 2002 ∨ q = 2003) ∧ bd 7775 x) ∨ ((q = 2001 ∨ (2101 ≤ q ∧ q ≤ 2160)) ∧ bd 9999 x) ∨ (q = 1012 ∧ bd 999 x) ∨ (q = 1000 ∧ i = 8 ∧ bd 20 x)) : KB (u2 σ q i x) := by
  have g : ∀ (P : Int32 → Prop) q9 i9, P (σ q9 i9) → (q9 = q → i9 = i → P x) → P (u2 σ q i x q9 i9) := fun P q9 i9 h1 h2 => by
    by_cases e1 : q9 = q
    · by_cases e2 : i9 = i
      · subst e1
        subst e2
        rw [u2_at]
        exact h2 rfl rfl
      · rw [show u2 σ q i x q9 i9 = σ q9 i9 from by subst e1; exact u2_oi e2]
        exact h1
    · rw [u2_ne e1]
      exact h1
  obtain ⟨h1, h2, h3, h4, h5, h6⟩ := h
  refine ⟨fun i hi => g _ _ _ (h1 i hi) (fun a b => ?_), fun i hi => g _ _ _ (h2 i hi) (fun a b => ?_), fun i hi => g _ _ _ (h3 i hi) (fun a b => ?_), fun k r hk hr => g _ _ _ (h4 k r hk hr) (fun a b => ?_), fun r hr => g _ _ _ (h5 r hr) (fun a b => ?_), g _ _ _ h6 (fun a b => ?_)⟩ <;> (rcases hx with ⟨z1, z⟩ | ⟨z1, z⟩ | ⟨z1, z⟩ | ⟨z1, z2, z⟩ <;> first | exact z | (exfalso; omega))
theorem KB.row {σ : XS9} {q : Nat} {f : Nat → Int32} (h : KB σ) (hx : ¬ (q = 2001 ∨ q = 2002 ∨ q = 2003 ∨ (2101 ≤ q ∧ q ≤ 2160) ∨ q = 1012 ∨ q = 1000) ∨ ((q = 2002 ∨ q = 2003) ∧ ∀ i, i < 6 → bd 7775 (f i)) ∨ ((q = 2001 ∨ (2101 ≤ q ∧ q ≤ 2160)) ∧ ∀ i, i < 5 → bd 9999 (f i))) : KB (uR σ q f) := by
  have g : ∀ (P : Int32 → Prop) q9 i9, P (σ q9 i9) → (q9 = q → P (f i9)) → P (uR σ q f q9 i9) := fun P q9 i9 h1 h2 => by
    by_cases e1 : q9 = q
    · subst e1
      rw [uR_eq]
      exact h2 rfl
    · rw [uR_ne e1]
      exact h1
  obtain ⟨h1, h2, h3, h4, h5, h6⟩ := h
  refine ⟨fun i hi => g _ _ _ (h1 i hi) (fun a => ?_), fun i hi => g _ _ _ (h2 i hi) (fun a => ?_), fun i hi => g _ _ _ (h3 i hi) (fun a => ?_), fun k r hk hr => g _ _ _ (h4 k r hk hr) (fun a => ?_), fun r hr => g _ _ _ (h5 r hr) (fun a => ?_), g _ _ _ h6 (fun a => ?_)⟩ <;> (rcases hx with z | ⟨z1, z⟩ | ⟨z1, z⟩ <;> first | exact z _ ‹_› | (exfalso; omega))
theorem cpy_lo {f g : Nat → Int32} {n j : Nat} (h : j < n) : va_cpy f g 0 0 n j = f j := by
  unfold va_cpy
  rw [if_pos (by omega), Nat.zero_add, Nat.sub_zero]
theorem KB.fill {s : XS9} (h : KB s) {a n : Nat} {x : Int32} (ha : ((a = 2002 ∨ a = 2003) ∧ bd 7775 x) ∨ ¬ (a = 2001 ∨ a = 2002 ∨ a = 2003 ∨ (2101 ≤ a ∧ a ≤ 2160) ∨ a = 1012 ∨ a = 1000)) : KB (g_fill s a n x) := by
  unfold g_fill x_fill_5
  refine xit_inv KB (N := n) (fun i3 s3 _ hP3 => ?_) n 0 _ (Nat.zero_add _) h
  rcases ha with ha | ha
  · exact hP3.put (.inl ha)
  · exact hP3.set (by omega)
theorem KB.begin {s : XS9} (h : KB s) : KB (g_begin s 2000) := by
  have z : bd 7775 0 := bd.zero
  unfold g_begin
  refine KB.set (q := 2000) (KB.set (q := 2000) (KB.fill (KB.fill (KB.fill (KB.fill (KB.row (KB.row h (q := 2001) ?_) (q := 2004) (.inl (by decide))) (.inl ⟨.inl rfl, z⟩)) (.inl ⟨.inr rfl, z⟩)) (.inr (by decide))) (.inr (by decide))) (by decide)) (by decide)
  exact .inr (.inr ⟨.inl rfl, fun i hi => by rw [cpy_lo hi]; exact (h.2.2.2.2.1 i hi).le (by decide)⟩)
theorem KB.undo {s : XS9} (h : KB s) {B K : Nat} (hB6 : B ≤ 6) : KB (g_undoContradictions s 2000 B K) := by
  unfold g_undoContradictions x_undoContradictions_2
  refine xit_inv KB (N := B) (fun i s2 hi hP => ?_) B 0 _ (Nat.zero_add _) h
  (try dsimp only)
  split
  · exact hP
  · exact (hP.set (q := 2006) (by omega)).put (.inl ⟨.inr rfl, hP.1 i (by omega)⟩)
theorem KB.lower {s : XS9} (h : KB s) {B : Nat} : KB (g_lowerEligible s 2000 B) := h.rows fun q hq => fr_lowerEligible (by omega)
theorem KB.held2 {s s0 : XS9} (h : KB s0) {r B : Nat} (hr : r < 5) (hB6 : B ≤ 6) : KB (x_moveHeld_2 s 2000 r B s0) := by
  unfold x_moveHeld_2
  refine xit_inv KB (N := B) (fun i s2 hi hP => ?_) B 0 _ (Nat.zero_add _) h
  (try dsimp only)
  split
  · exact hP
  · exact hP.put (.inl ⟨.inl rfl, (hP.1 i (by omega)).replaced hr ((hP.2.1 i (by omega)).many hr)⟩)
theorem held_amt {h w o : Int32} (hh : bd 5 h) (hw : bd 5 w) (ho : ¬ o ≤ 0) : bd 5 (h - (if (h - w) < o then (h - w) else o)) := by
  have h2 := hh.2
  have w2 := hw.2
  have o0 : 0 ≤ o := Int32.le_of_lt (Int32.not_le.mp ho)
  obtain ⟨e1, e2⟩ := cn_of o0
  rw [hh.1, hw.1]
  generalize cn h = a at h2
  generalize cn w = b at w2
  by_cases hab : b ≤ a
  · rw [nI_minus hab]
    split
    · rw [nI_minus (by omega)]
      exact bd.nat (by omega) (by decide)
    · rename_i q
      have q2 : o ≤ nI (a - b) := Int32.not_lt.mp q
      have q3 := Int32.le_iff_toInt_le.mp q2
      rw [toI_nI (by omega)] at q3
      rw [e1, nI_minus (by omega)]
      exact bd.nat (by omega) (by decide)
  · have e : nI a - nI b = - nI (b - a) := by
      rw [← nI_minus (by omega : a ≤ b), Int32.neg_sub]
    have lt : nI a - nI b < o := by
      rw [e]
      have hb : -nI (b - a) ≤ 0 := by
        have : ∀ k : Fin 6, -nI k.1 ≤ 0 := by decide
        exact this ⟨b - a, by omega⟩
      exact Int32.lt_of_le_of_lt hb (Int32.not_le.mp ho)
    rw [if_pos lt, e, Int32.sub_neg, nI_plus]
    exact bd.nat (by omega) (by decide)
theorem KB.held80 {s : XS9} {s0 : XS9 × Int32} (h : KB s0.1) {r B : Nat} (hr : r < 5) (hB6 : B ≤ 6) : KB (x_moveHeld_80 s 2000 r B s0).1 := by
  unfold x_moveHeld_80
  refine xitB_inv (fun s : XS9 × Int32 => KB s.1) (N := B) (fun i s2 hi hP => ⟨fun s' e => ?_, fun s' e => ?_⟩) B 0 _ (Nat.zero_add _) h
  · (try dsimp only at e)
    split at e
    · cases e
    · rename_i q
      rw [← Sum.inl.inj e]
      exact hP.put (.inl ⟨.inl rfl, (hP.1 i (by omega)).replaced hr (held_amt ((hP.1 i (by omega)).many hr) ((hP.2.1 i (by omega)).many hr) q)⟩)
  · (try dsimp only at e)
    split at e
    · rw [← Sum.inr.inj e]
      exact hP
    · cases e
theorem KB.held {s : XS9} (h : KB s) {r B : Nat} (hr : r < 5) (hB6 : B ≤ 6) : KB (g_moveHeld s 2000 r B) := by
  unfold g_moveHeld
  exact KB.held80 (KB.held2 (s := s) h hr hB6) hr hB6
theorem raise_amt {p x : Int32} (hp : bd 9999 p) (hx : bd 20 x) : bd 9999 (if (p + (if 1 < ((p * x) / 100) then ((p * x) / 100) else 1)) < 9999 then (p + (if 1 < ((p * x) / 100) then ((p * x) / 100) else 1)) else 9999) := by
  have p2 := hp.2
  have x2 := hx.2
  rw [hp.1, hx.1]
  generalize cn p = a at p2
  generalize cn x = b at x2
  have hab : a * b ≤ 9999 * 20 := Nat.mul_le_mul p2 x2
  rw [nI_mul, show (100 : Int32) = nI 100 from rfl, nI_div (by omega) (by decide) (by decide)]
  have hv : ∃ v, v ≤ 2000 ∧ (if 1 < nI (a * b / 100) then nI (a * b / 100) else 1) = nI v := by
    split
    · exact ⟨a * b / 100, by omega, rfl⟩
    · exact ⟨1, by decide, rfl⟩
  obtain ⟨v, hv1, hv2⟩ := hv
  rw [hv2, nI_plus]
  split
  · rename_i q
    exact bd.nat (Nat.le_of_lt ((nI_ltI (a := a + v) (b := 9999) (by omega) (by omega)).mp q)) (by decide)
  · exact bd.nat (n := 9999) (Nat.le_refl _) (by decide)
theorem KB.raise {s : XS9} (h : KB s) {x : Int32} {R : Nat} (hx : bd 20 x) (hR5 : R ≤ 5) : KB (g_raisePrices s 2000 x R) := by
  unfold g_raisePrices x_raisePrices_5
  refine xit_inv (fun s : XS9 × Int32 => KB s.1) (N := R) (fun i s2 hi hP => ?_) R 0 _ (Nat.zero_add _) h
  (try dsimp only)
  split
  · exact hP
  · exact hP.put (.inr (.inl ⟨.inl rfl, raise_amt (hP.2.2.1 i (by omega)) hx⟩))
theorem KB.held92 {s s0 : XS9} (h : KB s0) {x : Int32} {B R K : Nat} (hR5 : R ≤ 5) (hB6 : B ≤ 6) : KB (x_closeRound_92 s 2000 x B R K s0) := by
  unfold x_closeRound_92
  exact xit_inv KB (N := R) (fun i s2 hi hP => hP.held (by omega) hB6) R 0 _ (Nat.zero_add _) h
theorem KB.closeRound {s : XS9} (h : KB s) {x : Int32} {B R K : Nat} (hx : bd 20 x) (hR5 : R ≤ 5) (hB6 : B ≤ 6) (hK60 : K ≤ 60) : KB (g_closeRound s 2000 x B R K) := by
  unfold g_closeRound
  split
  · rename_i hK
    have A : K < 60 → KB (uR (uR (u2 (u2 s (2000 + 7) K x) (2000 + 8) K (s 2000 12)) (2000 + 101 + K) (va_cpy (s (2000 + 1)) (s (2000 + 101 + K)) 0 0 5)) (2000 + 201 + K) (va_cpy (s (2000 + 3)) (s (2000 + 201 + K)) 0 0 6)) := fun hk =>
      KB.row (KB.row (KB.set (q := 2008) (KB.set (q := 2007) h (by omega)) (by omega)) (.inr (.inr ⟨.inr (by omega), fun i hi => by rw [cpy_lo hi]; exact h.2.2.1 i hi⟩))) (.inl (by omega))
    have hk : K < 60 := (nI_ltI (a := K) (b := 60) (by omega) (by omega)).mp hK
    have A := A hk
    generalize uR (uR (u2 (u2 s (2000 + 7) K x) (2000 + 8) K (s 2000 12)) (2000 + 101 + K) (va_cpy (s (2000 + 1)) (s (2000 + 101 + K)) 0 0 5)) (2000 + 201 + K) (va_cpy (s (2000 + 3)) (s (2000 + 201 + K)) 0 0 6) = t at A ⊢
    have fin : ∀ u, KB u → KB (u2 (u2 (uR (uR (g_raisePrices u 2000 x R) (2000 + 301 + K) (va_cpy (u (2000 + 2)) (u (2000 + 301 + K)) 0 0 6)) (2000 + 3) (va_cpy (u (2000 + 2)) (u (2000 + 3)) 0 0 6)) 2000 12 0) 2000 9 (nI (K + 1))) := fun u hu =>
      KB.set (KB.set (KB.row (KB.row (hu.raise hx hR5) (.inl (by omega))) (.inr (.inl ⟨.inr rfl, fun i hi => by rw [cpy_lo hi]; exact hu.1 i hi⟩))) (by decide)) (by decide)
    split
    · exact fin _ (KB.held92 A.lower hR5 hB6)
    · exact fin _ (KB.held92 (A.undo hB6).lower hR5 hB6)
  · exact h
theorem bd.ge0 {m : Nat} {v : Int32} (h : bd m v) (hm : m < 2147483648) : 0 ≤ v := by
  rw [h.1]
  exact xx_ge0 _ (by have := h.2; omega)
theorem JC.closeRound {s : XS9} (h : JC s) {x : Int32} {B R : Nat} : JC (g_closeRound s 2000 x B R (cn (s 2000 9))) := by
  have h60 := h.2.2.1.2
  have e : ∀ q, q ≠ 2000 → q < 2001 → g_closeRound s 2000 x B R (cn (s 2000 9)) q = s q := fun q a b => fr_closeRound (by omega)
  obtain ⟨h1, h2, h3, h4, h5, h6, h7, h8, h9, h10, h11, h12⟩ := h
  refine ⟨by rw [e _ (by omega) (by omega)]; exact h1, by rw [e _ (by omega) (by omega)]; exact h2, by rw [rounds_closeRound' h60 h3.1]; exact bd.nat (by omega) (by decide), by rw [e _ (by omega) (by omega)]; exact h4, by rw [e _ (by omega) (by omega)]; exact h5, fun i hi => ?_, fun i hi => ?_, fun i hi => ?_, fun i k hi hk => ?_, fun i hi => ?_, fun i k hi hk => ?_, fun r k hr hk => ?_⟩
  · rw [e _ (by omega) (by omega)]; exact h6 i hi
  · rw [e _ (by omega) (by omega)]; exact h7 i hi
  · rw [e _ (by omega) (by omega)]; exact h8 i hi
  · rw [e _ (by omega) (by omega)]; exact h9 i k hi hk
  · rw [e _ (by omega) (by omega)]; exact h10 i hi
  · rw [e _ (by omega) (by omega)]; exact h11 i k hi hk
  · rw [e _ (by omega) (by omega)]; exact h12 r k hr hk
theorem KB.addM {s : XS9} (h : KB s) {i : Nat} {x y : Int32} {R B : Nat} {gr cnt : Nat → Nat} (hi : i < 6) (hg : ∀ i, i < 6 → gr i < 4) (hc : cnt i ≤ 6) : KB (g_addM s i x y R B gr cnt) := h.rows fun q hq => fr_addM ⟨hi, by omega, hg⟩ hc
theorem KB.find {s : XS9} (h : KB s) : KB (g_find s) := h.rows fun q hq => fr_find (by omega)
theorem JK.endClock {s : XS9} (hJ : JC s) (hK : KB s) {R B K : Nat} {gr : Nat → Nat} (hB6 : B ≤ 6) (hK60 : K < 60) (hg : ∀ i, i < 6 → gr i < 4) : JC (g_endClock s R B K gr) ∧ KB (g_endClock s R B K gr) := by
  unfold g_endClock
  have e : JC (x_endClock_7 s R B K gr (u2 s 1000 7 2)) ∧ KB (x_endClock_7 s R B K gr (u2 s 1000 7 2)) := by
    unfold x_endClock_7
    refine xit_inv (fun s => JC s ∧ KB s) (N := B) (fun i s7 hi hP => ?_) B 0 _ (Nat.zero_add _) ⟨hJ.set (ky1000 (by decide)), hK.set (by decide)⟩
    (try dsimp only)
    split
    · exact hP
    · have hi6 : i < 6 := by omega
      have h2 := hP.2.1 i hi6
      have hc := (hP.1.2.2.2.2.2.2.1 i hi6).2
      refine ⟨hP.1.addM hi6 hg hc (h2.ge0 (by decide)) (bd.ge0 (m := 249975) ?_ (by decide)), hP.2.addM hi6 hg hc⟩
      unfold f_lastValue
      exact h2.total (fun r hr => hP.2.2.2.2.1 K r hK60 hr)
  exact ⟨e.1.find, e.2.find⟩
theorem JK.close {σ : XS9} (hJ : JC σ) (hK : KB σ) {x : Int32} {R B : Nat} {gr : Nat → Nat} (hR5 : R ≤ 5) (hB6 : B ≤ 6) (hg : ∀ i, i < 6 → gr i < 4) : JC (g_close σ x R B gr) ∧ KB (g_close σ x R B gr) := by
  unfold g_close
  split
  · split
    · unfold x_close_14
      refine xitB_inv (fun s => JC s ∧ KB s) (N := cn x) (fun i s hi hP => ?_) (cn x) 0 _ (Nat.zero_add _) ⟨hJ, hK⟩
      have C1 : JC (g_closeRound s 2000 (s 1000 8) B R (cn (s 2000 9))) ∧ KB (g_closeRound s 2000 (s 1000 8) B R (cn (s 2000 9))) := ⟨hP.1.closeRound, hP.2.closeRound hP.2.2.2.2.2.2 hR5 hB6 hP.1.2.2.1.2⟩
      refine ⟨fun s' e => ?_, fun s' e => ?_⟩
      · by_cases c1 : s 1000 7 = 1
        · rw [if_pos c1] at e
          by_cases c2 : f_closeRound s 2000 (s 1000 8) B R (cn (s 2000 9)) = 0
          · rw [if_pos c2] at e
            rw [← Sum.inl.inj e]
            exact C1
          · rw [if_neg c2] at e
            rw [← Sum.inl.inj e]
            exact JK.endClock C1.1 C1.2 hB6 (by omega) hg
        · rw [if_neg c1] at e
          exact absurd e (by intro e; cases e)
      · by_cases c1 : s 1000 7 = 1
        · rw [if_pos c1] at e
          by_cases c2 : f_closeRound s 2000 (s 1000 8) B R (cn (s 2000 9)) = 0
          · rw [if_pos c2] at e
            exact absurd e (by intro e; cases e)
          · rw [if_neg c2] at e
            exact absurd e (by intro e; cases e)
        · rw [if_neg c1] at e
          rw [← Sum.inr.inj e]
          exact hP
    · exact ⟨hJ, hK⟩
  · exact ⟨hJ, hK⟩
theorem KB.init : KB s0C := by
  have z : ∀ q, q ≠ 1001 → q ≠ 1042 → ¬ ((1051 ≤ q ∧ q ≤ 1114) ∨ q = 1043 ∨ q = 1040 ∨ (1141 ≤ q ∧ q ≤ 1145)) → q ≠ 1000 → ∀ i m, bd m (s0C q i) := fun q a b c d i m => by
    rw [s0C_z a b c d]
    exact bd.zero
  refine ⟨fun i _ => z _ (by omega) (by omega) (by omega) (by omega) _ _, fun i _ => z _ (by omega) (by omega) (by omega) (by omega) _ _, fun i _ => z _ (by omega) (by omega) (by omega) (by omega) _ _, fun k r _ _ => z _ (by omega) (by omega) (by omega) (by omega) _ _, fun i _ => z _ (by omega) (by omega) (by omega) (by omega) _ _, ?_⟩
  exact ⟨by decide, by decide⟩
section
variable {σ : XS9} {R B C K w : Nat}
theorem KB.region {x y z : Int32} (h : KB σ) : KB (g_region σ x y z R) := by
  unfold g_region
  split
  · split
    · split
      · rename_i hz
        split
        · split
          · refine KB.begin ?_
            unfold g_addRegion
            exact KB.set (q := 1001) (KB.put (KB.set (q := 1011) (KB.set (q := 1010) h (by omega)) (by omega)) (.inr (.inr (.inl ⟨rfl, bd.bt hz (by decide) rfl (by decide)⟩)))) (by omega)
          · exact h
        · exact h
      · exact h
    · exact h
  · exact h
theorem KB.bidder {x y z v : Int32} (h : KB σ) : KB (g_bidder σ x y z v B) := by
  unfold g_bidder
  split
  · split
    · split
      · split
        · split
          · split
            · refine KB.begin ?_
              unfold g_addBidder
              exact KB.set (q := 1001) (KB.set (q := 1017) (KB.set (q := 1016) (KB.set (q := 1015) (KB.set (q := 1014) h (by omega)) (by omega)) (by omega)) (by omega)) (by omega)
            · exact h
          · exact h
        · exact h
      · exact h
    · exact h
  · exact h
theorem KB.border {x y : Int32} (h : KB σ) : KB (g_border σ x y R) := by
  unfold g_border
  split
  · split
    · split
      · exact h
      · split
        · unfold g_addBorder
          exact KB.set (q := 1013) (KB.set (q := 1013) h (by omega)) (by omega)
        · exact h
    · exact h
  · exact h
theorem KB.rules {x y : Int32} (h : KB σ) : KB (g_rules σ x y) := by
  unfold g_rules
  split
  · split
    · exact KB.set (q := 1001) (KB.set (q := 1001) h (by omega)) (by omega)
    · exact h
  · exact h
theorem KB.step {x : Int32} (h : KB σ) : KB (g_step σ x) := by
  unfold g_step
  split
  · rename_i hx
    have p : KB (u2 σ 1000 8 x) := h.put (.inr (.inr (.inr ⟨rfl, rfl, bd.bt hx (by decide) rfl (by decide)⟩)))
    split
    · exact p
    · split
      · exact p
      · exact h
  · exact h
theorem KB.opn (h : KB σ) : KB (g_open σ R B) := by
  unfold g_open
  split
  · split
    · exact h
    · split
      · exact h
      · exact KB.set (q := 1000) h (by omega)
  · exact h
theorem KB.wish {x y z : Int32} (h : KB σ) (hR5 : R ≤ 5) (hB6 : B ≤ 6) : KB (g_wish σ x y z R B) := by
  unfold g_wish
  split
  · rename_i hx
    split
    · rename_i hy
      split
      · rename_i hz
        have z1 : bd 5 (nI (cn z)) := by
          have b := bd.bt hz (by decide) (m := 5) rfl (by decide)
          rw [← b.1]
          exact b
        split
        · split
          · exact h
          · have hx2 := hx.2
            have hy2 := hy.2
            exact h.put (.inl ⟨.inr rfl, (h.2.1 (cn x) (by omega)).replaced (by omega) z1⟩)
        · exact h
      · exact h
    · exact h
  · exact h
theorem KB.waive {x : Int32} (h : KB σ) : KB (g_waive σ x B) := by
  unfold g_waive
  split
  · split
    · split
      · exact h
      · split
        · unfold g_useWaiver
          exact KB.set (q := 2000) (KB.set (q := 2005) h (by omega)) (by omega)
        · exact h
    · exact h
  · exact h
theorem KB.station {x y : Int32} (h : KB σ) : KB (g_station σ x y R C) := by
  unfold g_station
  split
  · split
    · split
      · unfold g_add
        exact KB.set (q := 1006) (KB.set (q := 1150) (KB.set (q := 1151) h (by omega)) (by omega)) (by omega)
      · exact h
    · exact h
  · exact h
theorem KB.ask {x y : Int32} (h : KB σ) : KB (g_ask σ x y C) := by
  unfold g_ask
  split
  · split
    · exact KB.set (q := 1150) h (by omega)
    · exact h
  · exact h
theorem KB.pack {x : Int32} {ch : Nat} {rg : Nat → Nat} (h : KB σ) : KB (g_pack σ x ch C rg) := h.rows fun q hq => fr_packM (by omega)
theorem KB.cheapest {ch : Nat} {rg : Nat → Nat} (h : KB σ) : KB (g_cheapest σ ch C rg) := h.rows fun q hq => fr_cheapest (by omega)
theorem KB.packs {x y : Int32} {rg : Nat → Nat} (h : KB σ) : KB (g_packs σ x y C rg) := by
  unfold g_packs
  split
  · split
    · exact h.pack
    · exact h
  · exact h
theorem KB.channel {x y z : Int32} {rg : Nat → Nat} (h : KB σ) : KB (g_channel σ x y z C rg) := by
  unfold g_channel
  split
  · split
    · split
      · exact h.pack
      · exact h
    · exact h
  · exact h
theorem KB.clear {x : Int32} {rg : Nat → Nat} (h : KB σ) : KB (g_clear σ x C rg) := by
  unfold g_clear
  split
  · exact h.cheapest
  · exact h
theorem KB.runLog {x y : Int32} {j r : Nat} (h : KB σ) (hK60 : K ≤ 60) : KB (g_runLog σ 3000 2000 x j r y B R K) := h.rows fun q hq => fr_runLog hK60 (by omega)
theorem KB.anew {x y z v : Int32} (h : KB σ) (hK60 : K ≤ 60) : KB (g_anew σ x y z v R B K) := by
  unfold g_anew
  split
  · split
    · split
      · split
        · exact h.runLog hK60
        · exact h
      · exact h
    · exact h
  · exact h
theorem KB.isSound (h : KB σ) (hK60 : K ≤ 60) : KB (g_isSound σ R B w K) := h.runLog hK60
theorem KB.digest {rg : Nat → Nat} (h : KB σ) (hK60 : K ≤ 60) : KB (g_digest σ K B R C w rg) := by
  unfold g_digest g_dgS
  split
  · exact KB.isSound h.cheapest.cheapest hK60
  · exact KB.isSound h hK60
theorem KB.knock (h : KB σ) : KB (g_knock σ) := KB.set (q := 1000) h (by omega)
theorem KB.offer {x y z : Int32} {gr cnt : Nat → Nat} (h : KB σ) (hB6 : B ≤ 6) (hg : ∀ i, i < 6 → gr i < 4) (hc : ∀ i, i < 6 → cnt i ≤ 6) : KB (g_offer σ x y z R B gr cnt) := by
  unfold g_offer
  split
  · rename_i hx
    have hx6 : cn x < 6 := by have := hx.2; omega
    split
    · exact h
    · split
      · split
        · split
          · exact h
          · split
            · exact h
            · exact (h.addM hx6 hg (hc _ hx6)).find
        · exact h
      · exact h
  · exact h
theorem KB.give {sp : Nat → Nat} (h : KB σ) (hR5 : R ≤ 5) : KB (g_give σ R sp) := h.rows fun q hq => fr_give hR5 ⟨by omega, by omega⟩
theorem KB.settle {x : Int32} {sp : Nat → Nat} (h : KB σ) (hR5 : R ≤ 5) : KB (g_settle σ x R sp) := by
  unfold g_settle
  split
  · split
    · exact KB.give (KB.set (q := 1000) (KB.set (q := 1000) h (by omega)) (by omega)) hR5
    · exact h
  · exact h
theorem KB.leaveOut {i : Nat} (h : KB σ) : KB (g_leaveOut σ i) := h.rows fun q hq => fr_leaveOut (by omega)
theorem KB.fail {x : Int32} {sp : Nat → Nat} (h : KB σ) (hR5 : R ≤ 5) : KB (g_fail σ x R B sp) := by
  unfold g_fail
  split
  · split
    · split
      · exact h
      · exact KB.give (KB.set (q := 1000) h (by omega)).leaveOut.find hR5
    · exact h
  · exact h
end
end
section
/-! ===== pure facts: counts and flags of the reference's memory ===== -/
def ev (m : Nat) (v : Int32) : Prop := v = nI (2 * (cn v / 2)) ∧ cn v / 2 ≤ m
theorem ev.nat {m n : Nat} (h : n ≤ m) (hm : m < 1073741824) : ev m (nI (2 * n)) := by
  have e : cn (nI (2 * n)) = 2 * n := cn_nI (by omega)
  unfold ev
  rw [e, show 2 * n / 2 = n by omega]
  exact ⟨rfl, h⟩
theorem ev.zero {m : Nat} : ev m 0 := ⟨rfl, Nat.zero_le _⟩
def JA (σ : XS9) : Prop := bd 5 (σ 5001 900) ∧ bd 6 (σ 5002 900) ∧ bd 60 (σ 5003 900) ∧ (σ 5000 1 = 0 → σ 7000 20 = 0 ∧ σ 5003 900 = 0) ∧ (σ 7000 25 = 0 ∨ (σ 7000 25 = 1 ∧ σ 7000 20 = 1)) ∧ (σ 5000 1 = 1 → σ 7000 25 = 1 ∧ σ 7000 20 = 1) ∧
  (∀ b, (b = 7000 ∨ b = 8000) → bd 60 (σ b 21) ∧ bd 60 (σ b 22) ∧ bd 199 (σ b 23) ∧ bd 199 (σ b 24)) ∧ σ 7000 22 = σ 7000 21 ∧ (∀ j, j < 10 → ev 6 (σ (5030 + j) 900)) ∧ (∀ j, j < 6 → bd 3 (σ (5020 + j) 3)) ∧ (∀ j k, j < 6 → k < 6 → bd 7775 (σ (5030 + j) (2 * k))) ∧
  ev 10 (σ 5004 900) ∧ (∀ q, q < cn (σ 5004 900) / 2 → n_lt (σ 5004 (2 * q)) (cn (σ 5001 900))) ∧ (∀ r, r < 5 → bd 5 (σ 5007 r)) ∧ (∀ r, r < 5 → bd 5 (σ (5010 + r) 0)) ∧ (σ 5000 1 = 3 → ∀ j, j < cn (σ 5002 900) → σ 5005 j = -1 ∨ n_lt (σ 5005 j) (cn (σ (5030 + j) 900) / 2)) ∧ bd 2 (σ 5000 7)
def JF (σ : XS9) : Prop := (σ 9000 20 = 0 ∧ σ 8000 20 = 0) ∧ ∀ q, 20000 ≤ q → q < 20010 → σ q 20 = 0
theorem JF.mem {σ : XS9} (h : JF σ) : mem_eq σ σ := ⟨fun _ _ _ _ _ => rfl, ⟨⟨h.1.1, h.1.1⟩, h.1.2, h.1.2⟩, fun q a b => ⟨h.2 q a b, h.2 q a b⟩⟩
/-- the places that JA speaks of -/
def kr (q i : Nat) : Prop := (q = 5000 ∧ (i = 1 ∨ i = 7)) ∨ ((q = 5001 ∨ q = 5002 ∨ q = 5003) ∧ i = 900) ∨ (q = 5004 ∧ (i = 900 ∨ i % 2 = 0)) ∨ q = 5005 ∨ q = 5007 ∨ (5010 ≤ q ∧ q ≤ 5014 ∧ i = 0) ∨ (5020 ≤ q ∧ q ≤ 5025 ∧ i = 3) ∨ (5030 ≤ q ∧ q ≤ 5039 ∧ (i = 900 ∨ i % 2 = 0)) ∨ (q = 7000 ∧ 20 ≤ i ∧ i ≤ 25) ∨ (q = 8000 ∧ 21 ≤ i ∧ i ≤ 24)
theorem kr_5000_1 : kr 5000 1 := by unfold kr; omega
theorem kr_5000_7 : kr 5000 7 := by unfold kr; omega
theorem kr_5001_900 : kr 5001 900 := by unfold kr; omega
theorem kr_5002_900 : kr 5002 900 := by unfold kr; omega
theorem kr_5003_900 : kr 5003 900 := by unfold kr; omega
theorem kr_5004_900 : kr 5004 900 := by unfold kr; omega
theorem kr_7000_20 : kr 7000 20 := by unfold kr; omega
theorem kr_7000_21 : kr 7000 21 := by unfold kr; omega
theorem kr_7000_22 : kr 7000 22 := by unfold kr; omega
theorem kr_7000_23 : kr 7000 23 := by unfold kr; omega
theorem kr_7000_24 : kr 7000 24 := by unfold kr; omega
theorem kr_7000_25 : kr 7000 25 := by unfold kr; omega
theorem kr_07 {r : Nat} : kr 5007 r := by unfold kr; omega
theorem kr_05 {j : Nat} : kr 5005 j := by unfold kr; omega
theorem kr_04 {q : Nat} : kr 5004 (2 * q) := by unfold kr; omega
theorem kr_30 {j : Nat} (h : j < 10) : kr (5030 + j) 900 := by unfold kr; omega
theorem kr_3k {j k : Nat} (h : j < 10) : kr (5030 + j) (2 * k) := by unfold kr; omega
theorem kr_20 {j : Nat} (h : j < 6) : kr (5020 + j) 3 := by unfold kr; omega
theorem kr_10 {r : Nat} (h : r < 5) : kr (5010 + r) 0 := by unfold kr; omega
theorem kr_bj {b j : Nat} (hb : b = 7000 ∨ b = 8000) (h1 : 21 ≤ j) (h2 : j ≤ 24) : kr b j := by
  rcases hb with rfl | rfl
  · unfold kr; omega
  · unfold kr; omega
theorem JA.of {σ σ' : XS9} (h : JA σ) (e : ∀ q i, kr q i → σ' q i = σ q i) : JA σ' := by
  have k : ∀ q i, kr q i → σ' q i = σ q i := e
  obtain ⟨h1, h2, h3, h4, h5, h6, h7, h8, h9, h10, h11, h12, h13, h14, h15, h16, h17⟩ := h
  have e1 := e 5001 900 kr_5001_900
  have e2 := e 5002 900 kr_5002_900
  have e3 := e 5003 900 kr_5003_900
  have e4 := e 5004 900 kr_5004_900
  have s1 := e 5000 1 kr_5000_1
  have s7 := e 5000 7 kr_5000_7
  have f20 := e 7000 20 kr_7000_20
  have f21 := e 7000 21 kr_7000_21
  have f22 := e 7000 22 kr_7000_22
  have f25 := e 7000 25 kr_7000_25
  refine ⟨by rw [e1]; exact h1, by rw [e2]; exact h2, by rw [e3]; exact h3, by rw [s1, f20, e3]; exact h4, by rw [f25, f20]; exact h5, by rw [s1, f25, f20]; exact h6, fun b hb => ?_, by rw [f22, f21]; exact h8, fun j hj => ?_, fun j hj => ?_, fun j k hj hk => ?_, by rw [e4]; exact h12, fun q hq => ?_, fun r hr => ?_, fun r hr => ?_, fun hs j hj => ?_, by rw [s7]; exact h17⟩
  · rw [e b 21 (kr_bj hb (by decide) (by decide)), e b 22 (kr_bj hb (by decide) (by decide)), e b 23 (kr_bj hb (by decide) (by decide)), e b 24 (kr_bj hb (by decide) (by decide))]
    exact h7 b hb
  · rw [e _ _ (kr_30 (by omega))]; exact h9 j hj
  · rw [e _ _ (kr_20 (by omega))]; exact h10 j hj
  · rw [e _ _ (kr_3k (by omega))]; exact h11 j k hj hk
  · rw [e4] at hq
    rw [e _ _ kr_04, e1]
    exact h13 q hq
  · rw [e _ _ kr_07]; exact h14 r hr
  · rw [e _ _ (kr_10 (by omega))]; exact h15 r hr
  · rw [s1] at hs
    rw [e2] at hj
    have hj6 : j < 6 := by have := h2.2; omega
    rw [e 5005 j kr_05, e (5030 + j) 900 (kr_30 (by omega))]
    exact h16 hs j hj
theorem JA.set {σ : XS9} (h : JA σ) {q i : Nat} {x : Int32} (hq : ¬ kr q i) : JA (u2 σ q i x) := h.of fun q9 i9 hk => by
  by_cases e : q9 = q
  · subst e
    exact u2_oi (fun e2 => hq (by rw [← e2]; exact hk))
  · rw [u2_ne e]
theorem JF.set {σ : XS9} (h : JF σ) {q i : Nat} {x : Int32} (hq : (i ≠ 20 ∨ (q ≠ 9000 ∧ q ≠ 8000 ∧ (q < 20000 ∨ 20010 ≤ q))) ∨ x = 0) : JF (u2 σ q i x) := by
  have g : ∀ q9, (q9 = 9000 ∨ q9 = 8000 ∨ (20000 ≤ q9 ∧ q9 < 20010)) → σ q9 20 = 0 → u2 σ q i x q9 20 = 0 := fun q9 h9 z => by
    by_cases e1 : q9 = q
    · by_cases e2 : 20 = i
      · subst e1
        subst e2
        rw [u2_at]
        rcases hq with w | w
        · omega
        · exact w
      · rw [show u2 σ q i x q9 20 = σ q9 20 from by subst e1; exact u2_oi e2]
        exact z
    · rw [u2_ne e1]
      exact z
  exact ⟨⟨g _ (.inl rfl) h.1.1, g _ (.inr (.inl rfl)) h.1.2⟩, fun q9 a b => g _ (.inr (.inr ⟨a, b⟩)) (h.2 q9 a b)⟩
theorem JF.rows {σ σ' : XS9} (h : JF σ) (e : ∀ q, (q = 9000 ∨ q = 8000 ∨ (20000 ≤ q ∧ q < 20010)) → σ' q 20 = σ q 20) : JF σ' := ⟨⟨(e _ (.inl rfl)).trans h.1.1, (e _ (.inr (.inl rfl))).trans h.1.2⟩, fun q a b => (e q (.inr (.inr ⟨a, b⟩))).trans (h.2 q a b)⟩
def JR (σ : XS9) : Prop := JA σ ∧ JF σ
theorem kr50 {i : Nat} (hi : i ≠ 1 ∧ i ≠ 7) : ¬ kr 5000 i := fun k => by unfold kr at k; omega
theorem JR.set {σ : XS9} (h : JR σ) {q i : Nat} {x : Int32} (hq : ¬ kr q i) (h9 : i ≠ 20 ∨ (q ≠ 9000 ∧ q ≠ 8000 ∧ (q < 20000 ∨ 20010 ≤ q))) : JR (u2 σ q i x) := ⟨h.1.set hq, h.2.set (.inl h9)⟩
theorem JR.s0 {σ : XS9} (h : JR σ) {x : Int32} : JR (u2 σ 5000 0 x) := h.set (kr50 (by decide)) (.inl (by decide))
theorem JR.s00 {σ : XS9} (h : JR σ) {x : Int32} : JR (u2 (u2 σ 5000 0 0) 5000 0 x) := h.s0.s0
/-- what is made in rows from 9000 on and dropped behind -/
theorem JR.hi {σ σ' : XS9} (h : JR σ) (e : ∀ q, q < 8000 ∨ q = 8000 → σ' q = σ q) (f : JF σ') : JR σ' := ⟨h.1.of fun q i hk => by rw [e q (by unfold kr at hk; omega)], f⟩
theorem u2_o {σ : XS9} {r i q j : Nat} {x : Int32} (h : q = r → j = i → False) : u2 σ r i x q j = σ q j := by
  by_cases e : q = r
  · subst e
    exact u2_oi (fun e2 => h rfl e2)
  · rw [u2_ne e]
/-! the reference's methods keep it -/
theorem JA.addRegion {σ σ2 : XS9} {R : Nat} {x : Int32} (hR : σ 5001 900 = nI R) (hR5 : R < 5) (hx : bd 5 x) (n1 : σ2 5001 900 = nI (R + 1)) (n2 : σ2 (5010 + R) 0 = x) (h : JA σ) (e : ∀ q i, kr q i → (¬ (q = 5001 ∧ i = 900) ∧ ¬ (q = 5010 + R ∧ i = 0)) → σ2 q i = σ q i) : JA σ2 := by
  obtain ⟨h1, h2, h3, h4, h5, h6, h7, h8, h9, h10, h11, h12, h13, h14, h15, h16, h17⟩ := h
  refine ⟨?_, ?_, ?_, ?_, ?_, ?_, ?_, ?_, ?_, ?_, ?_, ?_, ?_, ?_, ?_, ?_, ?_⟩
  · rw [n1]; exact bd.nat (by omega) (by decide)
  · rw [e 5002 900 kr_5002_900 (by omega)]; exact h2
  · rw [e 5003 900 kr_5003_900 (by omega)]; exact h3
  · rw [e 5000 1 kr_5000_1 (by omega), e 7000 20 kr_7000_20 (by omega), e 5003 900 kr_5003_900 (by omega)]; exact h4
  · rw [e 7000 25 kr_7000_25 (by omega), e 7000 20 kr_7000_20 (by omega)]; exact h5
  · rw [e 5000 1 kr_5000_1 (by omega), e 7000 25 kr_7000_25 (by omega), e 7000 20 kr_7000_20 (by omega)]; exact h6
  · intro b hb
    rw [e b 21 (kr_bj hb (by decide) (by decide)) (by omega), e b 22 (kr_bj hb (by decide) (by decide)) (by omega), e b 23 (kr_bj hb (by decide) (by decide)) (by omega), e b 24 (kr_bj hb (by decide) (by decide)) (by omega)]; exact h7 b hb
  · rw [e 7000 22 kr_7000_22 (by omega), e 7000 21 kr_7000_21 (by omega)]; exact h8
  · intro j hj
    rw [e (5030 + j) 900 (kr_30 (by omega)) (by omega)]; exact h9 j hj
  · intro j hj
    rw [e (5020 + j) 3 (kr_20 (by omega)) (by omega)]; exact h10 j hj
  · intro j k hj hk
    rw [e (5030 + j) (2 * k) (kr_3k (by omega)) (by omega)]; exact h11 j k hj hk
  · rw [e 5004 900 kr_5004_900 (by omega)]; exact h12
  · intro q hq
    rw [e 5004 900 kr_5004_900 (by omega)] at hq
    have hq10 : q < 10 := by have := h12.2; omega
    have h9 := h13 q hq
    rw [hR, cn_nI (by omega)] at h9
    rw [e 5004 (2 * q) kr_04 (by omega), n1, cn_nI (by omega)]; exact ⟨h9.1, by have := h9.2; omega⟩
  · intro r hr
    rw [e 5007 r kr_07 (by omega)]; exact h14 r hr
  · intro r hr
    by_cases er : r = R
    · rw [er, n2]; exact hx
    · rw [e (5010 + r) 0 (kr_10 (by omega)) (by omega)]; exact h15 r hr
  · intro hs j hj
    rw [e 5000 1 kr_5000_1 (by omega)] at hs
    rw [e 5002 900 kr_5002_900 (by omega)] at hj
    have hj6 : j < 6 := by have := h2.2; omega
    rw [e 5005 j kr_05 (by omega), e (5030 + j) 900 (kr_30 (by omega)) (by omega)]; exact h16 hs j hj
  · rw [e 5000 7 kr_5000_7 (by omega)]; exact h17
theorem JA.addBidder {σ σ2 : XS9} {B : Nat} {u : Int32} (hB6 : B < 6) (hu : bd 3 u) (hs0 : σ 5000 1 = 0) (n1 : σ2 5002 900 = nI (B + 1)) (n2 : σ2 (5020 + B) 3 = u) (n3 : σ2 (5030 + B) 900 = 0) (h : JA σ) (e : ∀ q i, kr q i → (¬ (q = 5002 ∧ i = 900) ∧ ¬ (q = 5020 + B ∧ i = 3) ∧ ¬ (q = 5030 + B ∧ i = 900)) → σ2 q i = σ q i) : JA σ2 := by
  obtain ⟨h1, h2, h3, h4, h5, h6, h7, h8, h9, h10, h11, h12, h13, h14, h15, h16, h17⟩ := h
  refine ⟨?_, ?_, ?_, ?_, ?_, ?_, ?_, ?_, ?_, ?_, ?_, ?_, ?_, ?_, ?_, ?_, ?_⟩
  · rw [e 5001 900 kr_5001_900 (by omega)]; exact h1
  · rw [n1]; exact bd.nat (by omega) (by decide)
  · rw [e 5003 900 kr_5003_900 (by omega)]; exact h3
  · rw [e 5000 1 kr_5000_1 (by omega), e 7000 20 kr_7000_20 (by omega), e 5003 900 kr_5003_900 (by omega)]; exact h4
  · rw [e 7000 25 kr_7000_25 (by omega), e 7000 20 kr_7000_20 (by omega)]; exact h5
  · rw [e 5000 1 kr_5000_1 (by omega), e 7000 25 kr_7000_25 (by omega), e 7000 20 kr_7000_20 (by omega)]; exact h6
  · intro b hb
    rw [e b 21 (kr_bj hb (by decide) (by decide)) (by omega), e b 22 (kr_bj hb (by decide) (by decide)) (by omega), e b 23 (kr_bj hb (by decide) (by decide)) (by omega), e b 24 (kr_bj hb (by decide) (by decide)) (by omega)]; exact h7 b hb
  · rw [e 7000 22 kr_7000_22 (by omega), e 7000 21 kr_7000_21 (by omega)]; exact h8
  · intro j hj
    by_cases er : j = B
    · rw [er, n3]; exact ev.zero
    · rw [e (5030 + j) 900 (kr_30 (by omega)) (by omega)]; exact h9 j hj
  · intro j hj
    by_cases er : j = B
    · rw [er, n2]; exact hu
    · rw [e (5020 + j) 3 (kr_20 (by omega)) (by omega)]; exact h10 j hj
  · intro j k hj hk
    rw [e (5030 + j) (2 * k) (kr_3k (by omega)) (by omega)]; exact h11 j k hj hk
  · rw [e 5004 900 kr_5004_900 (by omega)]; exact h12
  · intro q hq
    rw [e 5004 900 kr_5004_900 (by omega)] at hq
    have hq10 : q < 10 := by have := h12.2; omega
    rw [e 5004 (2 * q) kr_04 (by omega), e 5001 900 kr_5001_900 (by omega)]; exact h13 q hq
  · intro r hr
    rw [e 5007 r kr_07 (by omega)]; exact h14 r hr
  · intro r hr
    rw [e (5010 + r) 0 (kr_10 (by omega)) (by omega)]; exact h15 r hr
  · intro hs
    rw [e 5000 1 kr_5000_1 (by omega), hs0] at hs
    exact absurd hs (by decide)
  · rw [e 5000 7 kr_5000_7 (by omega)]; exact h17
theorem JA.addStation {σ σ2 : XS9} {R C : Nat} {x : Int32} (hS : σ 5004 900 = nI (2 * C)) (hC : C < 10) (hR : σ 5001 900 = nI R) (hR5 : R ≤ 5) (hx : n_lt x R) (n1 : σ2 5004 900 = nI (2 * (C + 1))) (n2 : σ2 5004 (2 * C) = x) (h : JA σ) (e : ∀ q i, kr q i → (¬ (q = 5004 ∧ i = 900) ∧ ¬ (q = 5004 ∧ i = 2 * C)) → σ2 q i = σ q i) : JA σ2 := by
  obtain ⟨h1, h2, h3, h4, h5, h6, h7, h8, h9, h10, h11, h12, h13, h14, h15, h16, h17⟩ := h
  refine ⟨?_, ?_, ?_, ?_, ?_, ?_, ?_, ?_, ?_, ?_, ?_, ?_, ?_, ?_, ?_, ?_, ?_⟩
  · rw [e 5001 900 kr_5001_900 (by omega)]; exact h1
  · rw [e 5002 900 kr_5002_900 (by omega)]; exact h2
  · rw [e 5003 900 kr_5003_900 (by omega)]; exact h3
  · rw [e 5000 1 kr_5000_1 (by omega), e 7000 20 kr_7000_20 (by omega), e 5003 900 kr_5003_900 (by omega)]; exact h4
  · rw [e 7000 25 kr_7000_25 (by omega), e 7000 20 kr_7000_20 (by omega)]; exact h5
  · rw [e 5000 1 kr_5000_1 (by omega), e 7000 25 kr_7000_25 (by omega), e 7000 20 kr_7000_20 (by omega)]; exact h6
  · intro b hb
    rw [e b 21 (kr_bj hb (by decide) (by decide)) (by omega), e b 22 (kr_bj hb (by decide) (by decide)) (by omega), e b 23 (kr_bj hb (by decide) (by decide)) (by omega), e b 24 (kr_bj hb (by decide) (by decide)) (by omega)]; exact h7 b hb
  · rw [e 7000 22 kr_7000_22 (by omega), e 7000 21 kr_7000_21 (by omega)]; exact h8
  · intro j hj
    rw [e (5030 + j) 900 (kr_30 (by omega)) (by omega)]; exact h9 j hj
  · intro j hj
    rw [e (5020 + j) 3 (kr_20 (by omega)) (by omega)]; exact h10 j hj
  · intro j k hj hk
    rw [e (5030 + j) (2 * k) (kr_3k (by omega)) (by omega)]; exact h11 j k hj hk
  · rw [n1]; exact ev.nat (by omega) (by decide)
  · intro q hq
    rw [n1, cn_nI (by omega)] at hq
    rw [e 5001 900 kr_5001_900 (by omega)]
    by_cases er : q = C
    · rw [er, n2, hR, cn_nI (by omega)]; exact hx
    · rw [e 5004 (2 * q) kr_04 (by omega)]; exact h13 q (by rw [hS, cn_nI (by omega)]; omega)
  · intro r hr
    rw [e 5007 r kr_07 (by omega)]; exact h14 r hr
  · intro r hr
    rw [e (5010 + r) 0 (kr_10 (by omega)) (by omega)]; exact h15 r hr
  · intro hs j hj
    rw [e 5000 1 kr_5000_1 (by omega)] at hs
    rw [e 5002 900 kr_5002_900 (by omega)] at hj
    have hj6 : j < 6 := by have := h2.2; omega
    rw [e 5005 j kr_05 (by omega), e (5030 + j) 900 (kr_30 (by omega)) (by omega)]; exact h16 hs j hj
  · rw [e 5000 7 kr_5000_7 (by omega)]; exact h17
theorem JA.addOffer {σ σ2 : XS9} {j9 p : Nat} {c : Int32} (hj9 : j9 < 6) (hp : p < 6) (hc : bd 7775 c) (hs2 : σ 5000 1 = 2) (n1 : σ2 (5030 + j9) 900 = nI (2 * (p + 1))) (n2 : σ2 (5030 + j9) (2 * p) = c) (h : JA σ) (e : ∀ q i, kr q i → (¬ (q = 5030 + j9 ∧ i = 900) ∧ ¬ (q = 5030 + j9 ∧ i = 2 * p)) → σ2 q i = σ q i) : JA σ2 := by
  obtain ⟨h1, h2, h3, h4, h5, h6, h7, h8, h9, h10, h11, h12, h13, h14, h15, h16, h17⟩ := h
  refine ⟨?_, ?_, ?_, ?_, ?_, ?_, ?_, ?_, ?_, ?_, ?_, ?_, ?_, ?_, ?_, ?_, ?_⟩
  · rw [e 5001 900 kr_5001_900 (by omega)]; exact h1
  · rw [e 5002 900 kr_5002_900 (by omega)]; exact h2
  · rw [e 5003 900 kr_5003_900 (by omega)]; exact h3
  · rw [e 5000 1 kr_5000_1 (by omega), e 7000 20 kr_7000_20 (by omega), e 5003 900 kr_5003_900 (by omega)]; exact h4
  · rw [e 7000 25 kr_7000_25 (by omega), e 7000 20 kr_7000_20 (by omega)]; exact h5
  · rw [e 5000 1 kr_5000_1 (by omega), e 7000 25 kr_7000_25 (by omega), e 7000 20 kr_7000_20 (by omega)]; exact h6
  · intro b hb
    rw [e b 21 (kr_bj hb (by decide) (by decide)) (by omega), e b 22 (kr_bj hb (by decide) (by decide)) (by omega), e b 23 (kr_bj hb (by decide) (by decide)) (by omega), e b 24 (kr_bj hb (by decide) (by decide)) (by omega)]; exact h7 b hb
  · rw [e 7000 22 kr_7000_22 (by omega), e 7000 21 kr_7000_21 (by omega)]; exact h8
  · intro j hj
    by_cases er : j = j9
    · rw [er, n1]; exact ev.nat (by omega) (by decide)
    · rw [e (5030 + j) 900 (kr_30 (by omega)) (by omega)]; exact h9 j hj
  · intro j hj
    rw [e (5020 + j) 3 (kr_20 (by omega)) (by omega)]; exact h10 j hj
  · intro j k hj hk
    by_cases er : j = j9 ∧ k = p
    · rw [er.1, er.2, n2]; exact hc
    · rw [e (5030 + j) (2 * k) (kr_3k (by omega)) (by omega)]; exact h11 j k hj hk
  · rw [e 5004 900 kr_5004_900 (by omega)]; exact h12
  · intro q hq
    rw [e 5004 900 kr_5004_900 (by omega)] at hq
    have hq10 : q < 10 := by have := h12.2; omega
    rw [e 5004 (2 * q) kr_04 (by omega), e 5001 900 kr_5001_900 (by omega)]; exact h13 q hq
  · intro r hr
    rw [e 5007 r kr_07 (by omega)]; exact h14 r hr
  · intro r hr
    rw [e (5010 + r) 0 (kr_10 (by omega)) (by omega)]; exact h15 r hr
  · intro hs
    rw [e 5000 1 kr_5000_1 (by omega), hs2] at hs
    exact absurd hs (by decide)
  · rw [e 5000 7 kr_5000_7 (by omega)]; exact h17
section
variable {σ : XS9} {R B C K g w : Nat}
theorem JR.region {x y v : Int32} (h : JR σ) (hR : σ 5001 900 = nI R) (hR5 : R ≤ 5) : JR (g_Mregion σ x y v R) := by
  unfold g_Mregion
  split
  · rename_i hx
    split
    · split
      · split
        · split
          · exact h.s00
          · rename_i hn
            have hR6 : R < 5 := Nat.lt_of_le_of_ne hR5 (fun q => hn (by rw [q]; rfl))
            refine ⟨h.1.addRegion hR hR6 (bd.bt hx (by decide) rfl (by decide)) u2_at (by rw [u2_ne (by omega), uR_eq]; rfl) (fun q i hk hn9 => ?_), (h.2.set (q := 5000) (i := 0) (x := 0) (.inl (.inl (by decide)))).rows fun q hq => by rw [u2_ne (by omega), uR_ne (by omega)]⟩
            rw [u2_o (fun a b => hn9.1 ⟨a, b⟩)]
            by_cases e1 : q = 5010 + R
            · first | (have h9 := hn9.2; clear hn9; unfold kr at hk; omega) | (unfold kr at hk; omega)
            · rw [uR_ne e1, u2_o (fun a b => by first | (clear hn9; unfold kr at hk; omega) | (unfold kr at hk; omega))]
        · exact h.s00
      · exact h.s00
    · exact h.s00
  · exact h.s00
theorem JR.bidder {x y v u : Int32} (h : JR σ) (hB6 : B ≤ 6) : JR (g_Mbidder σ x y v u B) := by
  unfold g_Mbidder
  split
  · split
    · split
      · split
        · rename_i hu
          split
          · rename_i hs0
            split
            · exact h.s00
            · rename_i hn
              have hB5 : B < 6 := Nat.lt_of_le_of_ne hB6 (fun q => hn (by rw [q]; rfl))
              refine ⟨h.1.addBidder hB5 (bd.bt hu (by decide) rfl (by decide)) hs0 u2_at (by rw [u2_ne (by omega), u2_ne (by omega), uR_eq]; rfl) (by rw [u2_ne (by omega), u2_at]) (fun q i hk hn9 => ?_), (h.2.set (q := 5000) (i := 0) (x := 0) (.inl (.inl (by decide)))).rows fun q hq => by rw [u2_ne (by omega), u2_ne (by omega), uR_ne (by omega)]⟩
              rw [u2_o (fun a b => hn9.1 ⟨a, b⟩), u2_o (fun a b => hn9.2.2 ⟨a, b⟩)]
              by_cases e1 : q = 5020 + B
              · first | (have h9 := hn9.2.1; clear hn9; unfold kr at hk; omega) | (unfold kr at hk; omega)
              · rw [uR_ne e1, u2_o (fun a b => by first | (clear hn9; unfold kr at hk; omega) | (unfold kr at hk; omega))]
          · exact h.s00
        · exact h.s00
      · exact h.s00
    · exact h.s00
  · exact h.s00
theorem JR.border {x y : Int32} (h : JR σ) (hR5 : R ≤ 5) : JR (g_Mborder σ x y R) := by
  have k1 : ∀ c, c < R → ¬ kr (5010 + c) 3 := fun c hc k => by unfold kr at k; omega
  unfold g_Mborder
  split
  · rename_i hx
    split
    · rename_i hy
      split
      · exact h.s00
      · split
        · exact (h.s0.set (k1 _ hx.2) (.inl (by decide))).set (k1 _ hy.2) (.inl (by decide))
        · exact h.s00
    · exact h.s00
  · exact h.s00
theorem JR.rules {x y : Int32} (h : JR σ) : JR (g_Mrules σ x y) := by
  unfold g_Mrules
  split
  · split
    · exact (h.s0.set (kr50 (by decide)) (.inl (by decide))).set (kr50 (by decide)) (.inl (by decide))
    · exact h.s00
  · exact h.s00
theorem JR.step {x : Int32} (h : JR σ) : JR (g_Mstep σ x) := by
  unfold g_Mstep
  split
  · split
    · exact h.s0.set (kr50 (by decide)) (.inl (by decide))
    · exact h.s00
  · exact h.s00
theorem JR.wish {x y v : Int32} (h : JR σ) (hg : g < 200) : JR (g_Mwish σ x y v R B g) := by
  unfold g_Mwish
  split
  · split
    · split
      · split
        · split
          · exact h.s00
          · exact h.s0.set (q := 7000 + 500 + g) (fun k => by unfold kr at k; omega) (.inr (by omega))
        · exact h.s00
      · exact h.s00
    · exact h.s00
  · exact h.s00
theorem JR.waive {x : Int32} (h : JR σ) (hw : w < 200) : JR (g_Mwaive σ x B g w) := by
  unfold g_Mwaive
  split
  · split
    · split
      · exact h.s00
      · split
        · exact (h.s0.set (q := 7000 + 4) (fun k => by unfold kr at k; omega) (.inr (by omega))).set (q := 7000 + 700 + w) (fun k => by unfold kr at k; omega) (.inr (by omega))
        · exact h.s00
    · exact h.s00
  · exact h.s00
theorem JR.knock (h : JR σ) : JR (g_Mknock σ) := h.s0.set (kr50 (by decide)) (.inl (by decide))
theorem JR.station {x y : Int32} (h : JR σ) (hR : σ 5001 900 = nI R) (hR5 : R ≤ 5) (hS : σ 5004 900 = nI (2 * C)) (hC10 : C ≤ 10) : JR (g_Mstation σ x y R C) := by
  unfold g_Mstation
  split
  · rename_i hx
    split
    · split
      · exact h.s00
      · rename_i hn
        have hC : C < 10 := Nat.lt_of_le_of_ne hC10 (fun q => hn (by rw [q]; rfl))
        have hx1 : n_lt (nI (cn x)) R := by rw [← hx.1]; exact hx
        unfold g_addI
        refine ⟨JA.addStation (x := nI (cn x)) (R := R) (C := C) hS hC hR hR5 hx1 ?_ ?_ h.1 (fun q i hk hn9 => ?_), h.2.rows fun q hq => by rw [u2_ne (by omega), u2_ne (by omega), u2_ne (by omega), u2_ne (by omega), u2_ne (by omega)]⟩
        · rw [u2_at]
          congr 1
        · rw [u2_oi (by omega), u2_oi (by omega), u2_oi (by omega), u2_at]
        · rw [u2_o (fun a b => hn9.1 ⟨a, b⟩), u2_o (fun a b => by first | (clear hn9; unfold kr at hk; omega) | (unfold kr at hk; omega)), u2_o (fun a b => hn9.1 ⟨a, b⟩), u2_o (fun a b => hn9.2 ⟨a, b⟩), u2_o (fun a b => by first | (clear hn9; unfold kr at hk; omega) | (unfold kr at hk; omega))]
    · exact h.s00
  · exact h.s00
theorem JR.ask {x y : Int32} (h : JR σ) : JR (g_Mask σ x y C) := by
  have k1 : ∀ c, ¬ kr 5004 (2 * c + 1) ∨ 2 * c + 1 = 900 := fun c => .inl fun k => by unfold kr at k; omega
  unfold g_Mask
  split
  · split
    · unfold g_setS
      exact (h.s0.set (q := 5004) (fun k => by unfold kr at k; omega) (.inr (by omega))).set (q := 5004) (fun k => by unfold kr at k; omega) (.inr (by omega))
    · exact h.s00
  · exact h.s00
theorem power_ok : ∀ R, R ≤ 5 → ∃ p, p ≤ 7776 ∧ f_power R = nI p := by
  intro R hR
  match R, hR with
  | 0, _ => exact ⟨1, by decide, rfl⟩
  | 1, _ => exact ⟨6, by decide, rfl⟩
  | 2, _ => exact ⟨36, by decide, rfl⟩
  | 3, _ => exact ⟨216, by decide, rfl⟩
  | 4, _ => exact ⟨1296, by decide, rfl⟩
  | 5, _ => exact ⟨7776, by decide, rfl⟩
theorem JR.offer {x y v : Int32} {pk : Nat → Nat} (h : JR σ) (hR5 : R ≤ 5) (hB6 : B ≤ 6) (hpk : ∀ j, j < B → σ (5030 + j) 900 = nI (2 * pk j) ∧ pk j ≤ 6) : JR (g_Moffer σ x y v R B pk) := by
  unfold g_Moffer
  split
  · rename_i hx
    have hx2 := hx.2
    obtain ⟨p1, p2⟩ := hpk (cn x) hx2
    split
    · exact h.s00
    · rename_i hy0
      split
      · exact h.s00
      · rename_i hyp
        have hc : bd 7775 y := by
          obtain ⟨p, hp1, hp2⟩ := power_ok R hR5
          obtain ⟨e1, e2⟩ := cn_of (Int32.not_lt.mp hy0)
          refine ⟨e1, ?_⟩
          rw [hp2] at hyp
          have h3 := Int32.lt_iff_toInt_lt.mp (Int32.not_le.mp hyp)
          rw [toI_nI (by omega)] at h3
          omega
        split
        · split
          · rename_i hs2
            split
            · exact h.s00
            · rename_i h6
              have hp6 : pk (cn x) < 6 := (nI_ltI (a := pk (cn x)) (b := 6) (by omega) (by omega)).mp (Int32.not_le.mp h6)
              split
              · exact h.s00
              · split
                · exact h.s00
                · split
                  · exact h.s00
                  · split
                    · unfold g_Madd g_addI
                      refine ⟨JA.addOffer (j9 := cn x) (p := pk (cn x)) (c := y) (by omega) hp6 hc hs2 ?_ ?_ h.1 (fun q i hk hn9 => ?_), h.2.rows fun q hq => by rw [u2_ne (by omega), u2_ne (by omega), u2_ne (by omega), u2_ne (by omega), u2_ne (by omega)]⟩
                      · rw [u2_at]
                        congr 1
                      · rw [u2_oi (by omega), u2_oi (by omega), u2_oi (by omega), u2_at]
                      · rw [u2_o (fun a b => hn9.1 ⟨a, b⟩), u2_o (fun a b => by first | (clear hn9; unfold kr at hk; omega) | (unfold kr at hk; omega)), u2_o (fun a b => hn9.1 ⟨a, b⟩), u2_o (fun a b => hn9.2 ⟨a, b⟩), u2_o (fun a b => by first | (clear hn9; unfold kr at hk; omega) | (unfold kr at hk; omega))]
                    · exact h.s00
          · exact h.s00
        · exact h.s00
  · exact h.s00
end
end
