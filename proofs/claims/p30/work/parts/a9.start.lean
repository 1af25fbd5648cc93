/-! ===== the start: what the statement gives of the machine's own ===== -/
abbrev stC : Cond := Jvm.Cond.and given_1 narrow_1
abbrev stFlat : List Cond := flatC stC
/-- the words of the tables and the facts of the start -/
def stH (args : Array Value) (s : State) : Prop := (∀ w ∈ lw_tbl, w.before args s = true) ∧ stC.before args s = true
section
variable {args : Array Value} {s : State}
theorem stH.gw (h : stH args s) : ∀ w ∈ xx_gws, w.before args s = true := fun w hw => h.1 w (List.mem_filter.mp hw).1
theorem stH.tb (h : stH args s) : ∀ w ∈ tables_1, w.before args s = true := fun w hw => h.1 w (List.mem_append_right _ hw)
theorem stH.fl (h : stH args s) {w : Cond} (hw : w ∈ stFlat) : w.before args s = true := flat_of_before _ h.2 w hw
def st_flat : Cond → List Cond → List Cond
  | .and a b, acc => st_flat a (st_flat b acc)
  | c, acc => c :: acc
theorem st_flatE : ∀ (c : Cond) (acc : List Cond), st_flat c acc = flatC c ++ acc := by
  intro c
  induction c with
  | and a b iha ihb =>
    intro acc
    show st_flat a (st_flat b acc) = (flatC a ++ flatC b) ++ acc
    rw [iha, ihb, List.append_assoc]
  | _ => intro acc; rfl
def st_X : List Cond := [(Jvm.Cond.isRef (Jvm.Term.arg (0 : Nat))), (Jvm.Cond.arrayOf (Jvm.Term.arg (0 : Nat)) Jvm.ClassFile.FieldType.int), (Jvm.Cond.le (Jvm.Term.length (Jvm.Term.arg (0 : Nat))) (Jvm.Term.int (2560 : Int32))), (Jvm.Cond.eq (Jvm.Term.static "java/lang/String" "COMPACT_STRINGS" "Z") (Jvm.Term.int (1 : Int32))), (Jvm.Cond.isRef (Jvm.Term.static "jdk/internal/util/Preconditions" "SIOOBE_FORMATTER" "Ljava/util/function/BiFunction;")), (Jvm.Cond.eq (Jvm.Term.static "java/lang/StringUTF16" "$assertionsDisabled" "Z") (Jvm.Term.int (1 : Int32))), (Jvm.Cond.eq (Jvm.Term.static "java/lang/StringUTF16" "HI_BYTE_SHIFT" "I") (Jvm.Term.int (0 : Int32))), (Jvm.Cond.eq (Jvm.Term.static "java/lang/StringUTF16" "LO_BYTE_SHIFT" "I") (Jvm.Term.int (8 : Int32))), (Jvm.Cond.isRef (Jvm.Term.static "java/lang/Integer" "DigitOnes" "[B")), (Jvm.Cond.arrayOf (Jvm.Term.static "java/lang/Integer" "DigitOnes" "[B") Jvm.ClassFile.FieldType.byte), (Jvm.Cond.eq (Jvm.Term.length (Jvm.Term.static "java/lang/Integer" "DigitOnes" "[B")) (Jvm.Term.int (100 : Int32))), (Jvm.Cond.eq (Jvm.Term.elem (Jvm.Term.static "java/lang/Integer" "DigitOnes" "[B") (Jvm.Term.int (0 : Int32))) (Jvm.Term.int (48 : Int32))), (Jvm.Cond.eq (Jvm.Term.elem (Jvm.Term.static "java/lang/Integer" "DigitOnes" "[B") (Jvm.Term.int (1 : Int32))) (Jvm.Term.int (49 : Int32))), (Jvm.Cond.eq (Jvm.Term.elem (Jvm.Term.static "java/lang/Integer" "DigitOnes" "[B") (Jvm.Term.int (2 : Int32))) (Jvm.Term.int (50 : Int32))), (Jvm.Cond.eq (Jvm.Term.elem (Jvm.Term.static "java/lang/Integer" "DigitOnes" "[B") (Jvm.Term.int (3 : Int32))) (Jvm.Term.int (51 : Int32))), (Jvm.Cond.eq (Jvm.Term.elem (Jvm.Term.static "java/lang/Integer" "DigitOnes" "[B") (Jvm.Term.int (4 : Int32))) (Jvm.Term.int (52 : Int32))), (Jvm.Cond.eq (Jvm.Term.elem (Jvm.Term.static "java/lang/Integer" "DigitOnes" "[B") (Jvm.Term.int (5 : Int32))) (Jvm.Term.int (53 : Int32))), (Jvm.Cond.eq (Jvm.Term.elem (Jvm.Term.static "java/lang/Integer" "DigitOnes" "[B") (Jvm.Term.int (6 : Int32))) (Jvm.Term.int (54 : Int32))), (Jvm.Cond.eq (Jvm.Term.elem (Jvm.Term.static "java/lang/Integer" "DigitOnes" "[B") (Jvm.Term.int (7 : Int32))) (Jvm.Term.int (55 : Int32))), (Jvm.Cond.eq (Jvm.Term.elem (Jvm.Term.static "java/lang/Integer" "DigitOnes" "[B") (Jvm.Term.int (8 : Int32))) (Jvm.Term.int (56 : Int32))), (Jvm.Cond.eq (Jvm.Term.elem (Jvm.Term.static "java/lang/Integer" "DigitOnes" "[B") (Jvm.Term.int (9 : Int32))) (Jvm.Term.int (57 : Int32))), (Jvm.Cond.eq (Jvm.Term.elem (Jvm.Term.static "java/lang/Integer" "DigitOnes" "[B") (Jvm.Term.int (10 : Int32))) (Jvm.Term.int (48 : Int32))), (Jvm.Cond.eq (Jvm.Term.elem (Jvm.Term.static "java/lang/Integer" "DigitOnes" "[B") (Jvm.Term.int (11 : Int32))) (Jvm.Term.int (49 : Int32))), (Jvm.Cond.eq (Jvm.Term.elem (Jvm.Term.static "java/lang/Integer" "DigitOnes" "[B") (Jvm.Term.int (12 : Int32))) (Jvm.Term.int (50 : Int32))), (Jvm.Cond.eq (Jvm.Term.elem (Jvm.Term.static "java/lang/Integer" "DigitOnes" "[B") (Jvm.Term.int (13 : Int32))) (Jvm.Term.int (51 : Int32))), (Jvm.Cond.eq (Jvm.Term.elem (Jvm.Term.static "java/lang/Integer" "DigitOnes" "[B") (Jvm.Term.int (14 : Int32))) (Jvm.Term.int (52 : Int32))), (Jvm.Cond.eq (Jvm.Term.elem (Jvm.Term.static "java/lang/Integer" "DigitOnes" "[B") (Jvm.Term.int (15 : Int32))) (Jvm.Term.int (53 : Int32))), (Jvm.Cond.eq (Jvm.Term.elem (Jvm.Term.static "java/lang/Integer" "DigitOnes" "[B") (Jvm.Term.int (16 : Int32))) (Jvm.Term.int (54 : Int32))), (Jvm.Cond.eq (Jvm.Term.elem (Jvm.Term.static "java/lang/Integer" "DigitOnes" "[B") (Jvm.Term.int (17 : Int32))) (Jvm.Term.int (55 : Int32))), (Jvm.Cond.eq (Jvm.Term.elem (Jvm.Term.static "java/lang/Integer" "DigitOnes" "[B") (Jvm.Term.int (18 : Int32))) (Jvm.Term.int (56 : Int32))), (Jvm.Cond.eq (Jvm.Term.elem (Jvm.Term.static "java/lang/Integer" "DigitOnes" "[B") (Jvm.Term.int (19 : Int32))) (Jvm.Term.int (57 : Int32))), (Jvm.Cond.eq (Jvm.Term.elem (Jvm.Term.static "java/lang/Integer" "DigitOnes" "[B") (Jvm.Term.int (20 : Int32))) (Jvm.Term.int (48 : Int32))), (Jvm.Cond.eq (Jvm.Term.elem (Jvm.Term.static "java/lang/Integer" "DigitOnes" "[B") (Jvm.Term.int (21 : Int32))) (Jvm.Term.int (49 : Int32))), (Jvm.Cond.eq (Jvm.Term.elem (Jvm.Term.static "java/lang/Integer" "DigitOnes" "[B") (Jvm.Term.int (22 : Int32))) (Jvm.Term.int (50 : Int32))), (Jvm.Cond.eq (Jvm.Term.elem (Jvm.Term.static "java/lang/Integer" "DigitOnes" "[B") (Jvm.Term.int (23 : Int32))) (Jvm.Term.int (51 : Int32))), (Jvm.Cond.eq (Jvm.Term.elem (Jvm.Term.static "java/lang/Integer" "DigitOnes" "[B") (Jvm.Term.int (24 : Int32))) (Jvm.Term.int (52 : Int32))), (Jvm.Cond.eq (Jvm.Term.elem (Jvm.Term.static "java/lang/Integer" "DigitOnes" "[B") (Jvm.Term.int (25 : Int32))) (Jvm.Term.int (53 : Int32))), (Jvm.Cond.eq (Jvm.Term.elem (Jvm.Term.static "java/lang/Integer" "DigitOnes" "[B") (Jvm.Term.int (26 : Int32))) (Jvm.Term.int (54 : Int32))), (Jvm.Cond.eq (Jvm.Term.elem (Jvm.Term.static "java/lang/Integer" "DigitOnes" "[B") (Jvm.Term.int (27 : Int32))) (Jvm.Term.int (55 : Int32))), (Jvm.Cond.eq (Jvm.Term.elem (Jvm.Term.static "java/lang/Integer" "DigitOnes" "[B") (Jvm.Term.int (28 : Int32))) (Jvm.Term.int (56 : Int32))), (Jvm.Cond.eq (Jvm.Term.elem (Jvm.Term.static "java/lang/Integer" "DigitOnes" "[B") (Jvm.Term.int (29 : Int32))) (Jvm.Term.int (57 : Int32))), (Jvm.Cond.eq (Jvm.Term.elem (Jvm.Term.static "java/lang/Integer" "DigitOnes" "[B") (Jvm.Term.int (30 : Int32))) (Jvm.Term.int (48 : Int32))), (Jvm.Cond.eq (Jvm.Term.elem (Jvm.Term.static "java/lang/Integer" "DigitOnes" "[B") (Jvm.Term.int (31 : Int32))) (Jvm.Term.int (49 : Int32))), (Jvm.Cond.eq (Jvm.Term.elem (Jvm.Term.static "java/lang/Integer" "DigitOnes" "[B") (Jvm.Term.int (32 : Int32))) (Jvm.Term.int (50 : Int32))), (Jvm.Cond.eq (Jvm.Term.elem (Jvm.Term.static "java/lang/Integer" "DigitOnes" "[B") (Jvm.Term.int (33 : Int32))) (Jvm.Term.int (51 : Int32))), (Jvm.Cond.eq (Jvm.Term.elem (Jvm.Term.static "java/lang/Integer" "DigitOnes" "[B") (Jvm.Term.int (34 : Int32))) (Jvm.Term.int (52 : Int32))), (Jvm.Cond.eq (Jvm.Term.elem (Jvm.Term.static "java/lang/Integer" "DigitOnes" "[B") (Jvm.Term.int (35 : Int32))) (Jvm.Term.int (53 : Int32))), (Jvm.Cond.eq (Jvm.Term.elem (Jvm.Term.static "java/lang/Integer" "DigitOnes" "[B") (Jvm.Term.int (36 : Int32))) (Jvm.Term.int (54 : Int32))), (Jvm.Cond.eq (Jvm.Term.elem (Jvm.Term.static "java/lang/Integer" "DigitOnes" "[B") (Jvm.Term.int (37 : Int32))) (Jvm.Term.int (55 : Int32))), (Jvm.Cond.eq (Jvm.Term.elem (Jvm.Term.static "java/lang/Integer" "DigitOnes" "[B") (Jvm.Term.int (38 : Int32))) (Jvm.Term.int (56 : Int32))), (Jvm.Cond.eq (Jvm.Term.elem (Jvm.Term.static "java/lang/Integer" "DigitOnes" "[B") (Jvm.Term.int (39 : Int32))) (Jvm.Term.int (57 : Int32))), (Jvm.Cond.eq (Jvm.Term.elem (Jvm.Term.static "java/lang/Integer" "DigitOnes" "[B") (Jvm.Term.int (40 : Int32))) (Jvm.Term.int (48 : Int32))), (Jvm.Cond.eq (Jvm.Term.elem (Jvm.Term.static "java/lang/Integer" "DigitOnes" "[B") (Jvm.Term.int (41 : Int32))) (Jvm.Term.int (49 : Int32))), (Jvm.Cond.eq (Jvm.Term.elem (Jvm.Term.static "java/lang/Integer" "DigitOnes" "[B") (Jvm.Term.int (42 : Int32))) (Jvm.Term.int (50 : Int32))), (Jvm.Cond.eq (Jvm.Term.elem (Jvm.Term.static "java/lang/Integer" "DigitOnes" "[B") (Jvm.Term.int (43 : Int32))) (Jvm.Term.int (51 : Int32))), (Jvm.Cond.eq (Jvm.Term.elem (Jvm.Term.static "java/lang/Integer" "DigitOnes" "[B") (Jvm.Term.int (44 : Int32))) (Jvm.Term.int (52 : Int32))), (Jvm.Cond.eq (Jvm.Term.elem (Jvm.Term.static "java/lang/Integer" "DigitOnes" "[B") (Jvm.Term.int (45 : Int32))) (Jvm.Term.int (53 : Int32))), (Jvm.Cond.eq (Jvm.Term.elem (Jvm.Term.static "java/lang/Integer" "DigitOnes" "[B") (Jvm.Term.int (46 : Int32))) (Jvm.Term.int (54 : Int32))), (Jvm.Cond.eq (Jvm.Term.elem (Jvm.Term.static "java/lang/Integer" "DigitOnes" "[B") (Jvm.Term.int (47 : Int32))) (Jvm.Term.int (55 : Int32))), (Jvm.Cond.eq (Jvm.Term.elem (Jvm.Term.static "java/lang/Integer" "DigitOnes" "[B") (Jvm.Term.int (48 : Int32))) (Jvm.Term.int (56 : Int32))), (Jvm.Cond.eq (Jvm.Term.elem (Jvm.Term.static "java/lang/Integer" "DigitOnes" "[B") (Jvm.Term.int (49 : Int32))) (Jvm.Term.int (57 : Int32))), (Jvm.Cond.eq (Jvm.Term.elem (Jvm.Term.static "java/lang/Integer" "DigitOnes" "[B") (Jvm.Term.int (50 : Int32))) (Jvm.Term.int (48 : Int32))), (Jvm.Cond.eq (Jvm.Term.elem (Jvm.Term.static "java/lang/Integer" "DigitOnes" "[B") (Jvm.Term.int (51 : Int32))) (Jvm.Term.int (49 : Int32))), (Jvm.Cond.eq (Jvm.Term.elem (Jvm.Term.static "java/lang/Integer" "DigitOnes" "[B") (Jvm.Term.int (52 : Int32))) (Jvm.Term.int (50 : Int32))), (Jvm.Cond.eq (Jvm.Term.elem (Jvm.Term.static "java/lang/Integer" "DigitOnes" "[B") (Jvm.Term.int (53 : Int32))) (Jvm.Term.int (51 : Int32))), (Jvm.Cond.eq (Jvm.Term.elem (Jvm.Term.static "java/lang/Integer" "DigitOnes" "[B") (Jvm.Term.int (54 : Int32))) (Jvm.Term.int (52 : Int32))), (Jvm.Cond.eq (Jvm.Term.elem (Jvm.Term.static "java/lang/Integer" "DigitOnes" "[B") (Jvm.Term.int (55 : Int32))) (Jvm.Term.int (53 : Int32))), (Jvm.Cond.eq (Jvm.Term.elem (Jvm.Term.static "java/lang/Integer" "DigitOnes" "[B") (Jvm.Term.int (56 : Int32))) (Jvm.Term.int (54 : Int32))), (Jvm.Cond.eq (Jvm.Term.elem (Jvm.Term.static "java/lang/Integer" "DigitOnes" "[B") (Jvm.Term.int (57 : Int32))) (Jvm.Term.int (55 : Int32))), (Jvm.Cond.eq (Jvm.Term.elem (Jvm.Term.static "java/lang/Integer" "DigitOnes" "[B") (Jvm.Term.int (58 : Int32))) (Jvm.Term.int (56 : Int32))), (Jvm.Cond.eq (Jvm.Term.elem (Jvm.Term.static "java/lang/Integer" "DigitOnes" "[B") (Jvm.Term.int (59 : Int32))) (Jvm.Term.int (57 : Int32))), (Jvm.Cond.eq (Jvm.Term.elem (Jvm.Term.static "java/lang/Integer" "DigitOnes" "[B") (Jvm.Term.int (60 : Int32))) (Jvm.Term.int (48 : Int32))), (Jvm.Cond.eq (Jvm.Term.elem (Jvm.Term.static "java/lang/Integer" "DigitOnes" "[B") (Jvm.Term.int (61 : Int32))) (Jvm.Term.int (49 : Int32))), (Jvm.Cond.eq (Jvm.Term.elem (Jvm.Term.static "java/lang/Integer" "DigitOnes" "[B") (Jvm.Term.int (62 : Int32))) (Jvm.Term.int (50 : Int32))), (Jvm.Cond.eq (Jvm.Term.elem (Jvm.Term.static "java/lang/Integer" "DigitOnes" "[B") (Jvm.Term.int (63 : Int32))) (Jvm.Term.int (51 : Int32))), (Jvm.Cond.eq (Jvm.Term.elem (Jvm.Term.static "java/lang/Integer" "DigitOnes" "[B") (Jvm.Term.int (64 : Int32))) (Jvm.Term.int (52 : Int32))), (Jvm.Cond.eq (Jvm.Term.elem (Jvm.Term.static "java/lang/Integer" "DigitOnes" "[B") (Jvm.Term.int (65 : Int32))) (Jvm.Term.int (53 : Int32))), (Jvm.Cond.eq (Jvm.Term.elem (Jvm.Term.static "java/lang/Integer" "DigitOnes" "[B") (Jvm.Term.int (66 : Int32))) (Jvm.Term.int (54 : Int32))), (Jvm.Cond.eq (Jvm.Term.elem (Jvm.Term.static "java/lang/Integer" "DigitOnes" "[B") (Jvm.Term.int (67 : Int32))) (Jvm.Term.int (55 : Int32))), (Jvm.Cond.eq (Jvm.Term.elem (Jvm.Term.static "java/lang/Integer" "DigitOnes" "[B") (Jvm.Term.int (68 : Int32))) (Jvm.Term.int (56 : Int32))), (Jvm.Cond.eq (Jvm.Term.elem (Jvm.Term.static "java/lang/Integer" "DigitOnes" "[B") (Jvm.Term.int (69 : Int32))) (Jvm.Term.int (57 : Int32))), (Jvm.Cond.eq (Jvm.Term.elem (Jvm.Term.static "java/lang/Integer" "DigitOnes" "[B") (Jvm.Term.int (70 : Int32))) (Jvm.Term.int (48 : Int32))), (Jvm.Cond.eq (Jvm.Term.elem (Jvm.Term.static "java/lang/Integer" "DigitOnes" "[B") (Jvm.Term.int (71 : Int32))) (Jvm.Term.int (49 : Int32))), (Jvm.Cond.eq (Jvm.Term.elem (Jvm.Term.static "java/lang/Integer" "DigitOnes" "[B") (Jvm.Term.int (72 : Int32))) (Jvm.Term.int (50 : Int32))), (Jvm.Cond.eq (Jvm.Term.elem (Jvm.Term.static "java/lang/Integer" "DigitOnes" "[B") (Jvm.Term.int (73 : Int32))) (Jvm.Term.int (51 : Int32))), (Jvm.Cond.eq (Jvm.Term.elem (Jvm.Term.static "java/lang/Integer" "DigitOnes" "[B") (Jvm.Term.int (74 : Int32))) (Jvm.Term.int (52 : Int32))), (Jvm.Cond.eq (Jvm.Term.elem (Jvm.Term.static "java/lang/Integer" "DigitOnes" "[B") (Jvm.Term.int (75 : Int32))) (Jvm.Term.int (53 : Int32))), (Jvm.Cond.eq (Jvm.Term.elem (Jvm.Term.static "java/lang/Integer" "DigitOnes" "[B") (Jvm.Term.int (76 : Int32))) (Jvm.Term.int (54 : Int32))), (Jvm.Cond.eq (Jvm.Term.elem (Jvm.Term.static "java/lang/Integer" "DigitOnes" "[B") (Jvm.Term.int (77 : Int32))) (Jvm.Term.int (55 : Int32))), (Jvm.Cond.eq (Jvm.Term.elem (Jvm.Term.static "java/lang/Integer" "DigitOnes" "[B") (Jvm.Term.int (78 : Int32))) (Jvm.Term.int (56 : Int32))), (Jvm.Cond.eq (Jvm.Term.elem (Jvm.Term.static "java/lang/Integer" "DigitOnes" "[B") (Jvm.Term.int (79 : Int32))) (Jvm.Term.int (57 : Int32))), (Jvm.Cond.eq (Jvm.Term.elem (Jvm.Term.static "java/lang/Integer" "DigitOnes" "[B") (Jvm.Term.int (80 : Int32))) (Jvm.Term.int (48 : Int32))), (Jvm.Cond.eq (Jvm.Term.elem (Jvm.Term.static "java/lang/Integer" "DigitOnes" "[B") (Jvm.Term.int (81 : Int32))) (Jvm.Term.int (49 : Int32))), (Jvm.Cond.eq (Jvm.Term.elem (Jvm.Term.static "java/lang/Integer" "DigitOnes" "[B") (Jvm.Term.int (82 : Int32))) (Jvm.Term.int (50 : Int32))), (Jvm.Cond.eq (Jvm.Term.elem (Jvm.Term.static "java/lang/Integer" "DigitOnes" "[B") (Jvm.Term.int (83 : Int32))) (Jvm.Term.int (51 : Int32))), (Jvm.Cond.eq (Jvm.Term.elem (Jvm.Term.static "java/lang/Integer" "DigitOnes" "[B") (Jvm.Term.int (84 : Int32))) (Jvm.Term.int (52 : Int32))), (Jvm.Cond.eq (Jvm.Term.elem (Jvm.Term.static "java/lang/Integer" "DigitOnes" "[B") (Jvm.Term.int (85 : Int32))) (Jvm.Term.int (53 : Int32))), (Jvm.Cond.eq (Jvm.Term.elem (Jvm.Term.static "java/lang/Integer" "DigitOnes" "[B") (Jvm.Term.int (86 : Int32))) (Jvm.Term.int (54 : Int32))), (Jvm.Cond.eq (Jvm.Term.elem (Jvm.Term.static "java/lang/Integer" "DigitOnes" "[B") (Jvm.Term.int (87 : Int32))) (Jvm.Term.int (55 : Int32))), (Jvm.Cond.eq (Jvm.Term.elem (Jvm.Term.static "java/lang/Integer" "DigitOnes" "[B") (Jvm.Term.int (88 : Int32))) (Jvm.Term.int (56 : Int32))), (Jvm.Cond.eq (Jvm.Term.elem (Jvm.Term.static "java/lang/Integer" "DigitOnes" "[B") (Jvm.Term.int (89 : Int32))) (Jvm.Term.int (57 : Int32))), (Jvm.Cond.eq (Jvm.Term.elem (Jvm.Term.static "java/lang/Integer" "DigitOnes" "[B") (Jvm.Term.int (90 : Int32))) (Jvm.Term.int (48 : Int32))), (Jvm.Cond.eq (Jvm.Term.elem (Jvm.Term.static "java/lang/Integer" "DigitOnes" "[B") (Jvm.Term.int (91 : Int32))) (Jvm.Term.int (49 : Int32))), (Jvm.Cond.eq (Jvm.Term.elem (Jvm.Term.static "java/lang/Integer" "DigitOnes" "[B") (Jvm.Term.int (92 : Int32))) (Jvm.Term.int (50 : Int32))), (Jvm.Cond.eq (Jvm.Term.elem (Jvm.Term.static "java/lang/Integer" "DigitOnes" "[B") (Jvm.Term.int (93 : Int32))) (Jvm.Term.int (51 : Int32))), (Jvm.Cond.eq (Jvm.Term.elem (Jvm.Term.static "java/lang/Integer" "DigitOnes" "[B") (Jvm.Term.int (94 : Int32))) (Jvm.Term.int (52 : Int32))), (Jvm.Cond.eq (Jvm.Term.elem (Jvm.Term.static "java/lang/Integer" "DigitOnes" "[B") (Jvm.Term.int (95 : Int32))) (Jvm.Term.int (53 : Int32))), (Jvm.Cond.eq (Jvm.Term.elem (Jvm.Term.static "java/lang/Integer" "DigitOnes" "[B") (Jvm.Term.int (96 : Int32))) (Jvm.Term.int (54 : Int32))), (Jvm.Cond.eq (Jvm.Term.elem (Jvm.Term.static "java/lang/Integer" "DigitOnes" "[B") (Jvm.Term.int (97 : Int32))) (Jvm.Term.int (55 : Int32))), (Jvm.Cond.eq (Jvm.Term.elem (Jvm.Term.static "java/lang/Integer" "DigitOnes" "[B") (Jvm.Term.int (98 : Int32))) (Jvm.Term.int (56 : Int32))), (Jvm.Cond.eq (Jvm.Term.elem (Jvm.Term.static "java/lang/Integer" "DigitOnes" "[B") (Jvm.Term.int (99 : Int32))) (Jvm.Term.int (57 : Int32))), (Jvm.Cond.isRef (Jvm.Term.static "java/lang/Throwable" "UNASSIGNED_STACK" "[Ljava/lang/StackTraceElement;")), (Jvm.Cond.isRef (Jvm.Term.static "java/lang/Throwable" "SUPPRESSED_SENTINEL" "Ljava/util/List;")), (Jvm.Cond.isRef (Jvm.Term.static "java/util/ArrayList" "DEFAULTCAPACITY_EMPTY_ELEMENTDATA" "[Ljava/lang/Object;")), (Jvm.Cond.arrayOf (Jvm.Term.static "java/util/ArrayList" "DEFAULTCAPACITY_EMPTY_ELEMENTDATA" "[Ljava/lang/Object;") (Jvm.ClassFile.FieldType.object "java/lang/Object")), (Jvm.Cond.exactly (Jvm.Term.static "java/util/ArrayList" "DEFAULTCAPACITY_EMPTY_ELEMENTDATA" "[Ljava/lang/Object;") "[Ljava/lang/Object;"), (Jvm.Cond.eq (Jvm.Term.length (Jvm.Term.static "java/util/ArrayList" "DEFAULTCAPACITY_EMPTY_ELEMENTDATA" "[Ljava/lang/Object;")) (Jvm.Term.int (0 : Int32))), (Jvm.Cond.eq (Jvm.Term.static "java/lang/Integer$IntegerCache" "high" "I") (Jvm.Term.int (127 : Int32))), (Jvm.Cond.isRef (Jvm.Term.static "java/lang/Integer$IntegerCache" "cache" "[Ljava/lang/Integer;")), (Jvm.Cond.arrayOf (Jvm.Term.static "java/lang/Integer$IntegerCache" "cache" "[Ljava/lang/Integer;") (Jvm.ClassFile.FieldType.object "java/lang/Integer")), (Jvm.Cond.eq (Jvm.Term.length (Jvm.Term.static "java/lang/Integer$IntegerCache" "cache" "[Ljava/lang/Integer;")) (Jvm.Term.int (256 : Int32))), (Jvm.Cond.all (Jvm.Term.static "java/lang/Integer$IntegerCache" "cache" "[Ljava/lang/Integer;") (Jvm.Cond.and (Jvm.Cond.exactly (Jvm.Term.elem (Jvm.Term.static "java/lang/Integer$IntegerCache" "cache" "[Ljava/lang/Integer;") (Jvm.Term.index (0 : Nat))) "java/lang/Integer") (Jvm.Cond.eq (Jvm.Term.field (Jvm.Term.elem (Jvm.Term.static "java/lang/Integer$IntegerCache" "cache" "[Ljava/lang/Integer;") (Jvm.Term.index (0 : Nat))) "java/lang/Integer" "value" "I") (Jvm.Term.sub (Jvm.Term.index (0 : Nat)) (Jvm.Term.int (128 : Int32)))))), (Jvm.Cond.not (Jvm.Cond.castable "Wavesale" "java/lang/IllegalArgumentException")), (Jvm.Cond.not (Jvm.Cond.castable "Wavesale$Terms" "java/lang/IllegalArgumentException")), (Jvm.Cond.not (Jvm.Cond.castable "Wavesale$Clock" "java/lang/IllegalArgumentException")), (Jvm.Cond.not (Jvm.Cond.castable "Wavesale$Market" "java/lang/IllegalArgumentException")), (Jvm.Cond.not (Jvm.Cond.castable "Wavesale$Payments" "java/lang/IllegalArgumentException")), (Jvm.Cond.not (Jvm.Cond.castable "Wavesale$Names" "java/lang/IllegalArgumentException")), (Jvm.Cond.not (Jvm.Cond.castable "Wavesale$Stations" "java/lang/IllegalArgumentException")), (Jvm.Cond.not (Jvm.Cond.castable "WavesaleModel" "java/lang/IllegalArgumentException")), (Jvm.Cond.not (Jvm.Cond.castable "java/util/ArrayList" "java/lang/IllegalArgumentException")), (Jvm.Cond.not (Jvm.Cond.castable "WavesaleLaw$Out" "java/lang/IllegalArgumentException")), (Jvm.Cond.not (Jvm.Cond.castable "java/lang/IllegalStateException" "java/lang/IllegalArgumentException")), (Jvm.Cond.not (Jvm.Cond.castable "WavesaleModel$Region" "java/lang/IllegalArgumentException")), (Jvm.Cond.not (Jvm.Cond.castable "java/lang/IndexOutOfBoundsException" "java/lang/IllegalArgumentException")), (Jvm.Cond.not (Jvm.Cond.castable "java/util/ArrayList$Itr" "java/lang/IllegalArgumentException")), (Jvm.Cond.not (Jvm.Cond.castable "WavesaleModel$Bidder" "java/lang/IllegalArgumentException")), (Jvm.Cond.not (Jvm.Cond.castable "WavesaleModel$Clock" "java/lang/IllegalArgumentException")), (Jvm.Cond.not (Jvm.Cond.castable "WavesaleModel$Round" "java/lang/IllegalArgumentException")), (Jvm.Cond.not (Jvm.Cond.castable "java/lang/Integer" "java/lang/IllegalArgumentException")), (Jvm.Cond.not (Jvm.Cond.castable "WavesaleModel$Choice" "java/lang/IllegalArgumentException")), (Jvm.Cond.not (Jvm.Cond.castable "java/lang/StringBuilder" "java/lang/IllegalArgumentException")), (Jvm.Cond.not (Jvm.Cond.castable "java/lang/String" "java/lang/IllegalArgumentException")), (Jvm.Cond.not (Jvm.Cond.castable "java/lang/StringIndexOutOfBoundsException" "java/lang/IllegalArgumentException")), (Jvm.Cond.not (Jvm.Cond.castable "java/lang/ArrayIndexOutOfBoundsException" "java/lang/IllegalArgumentException")), (Jvm.Cond.not (Jvm.Cond.castable "Wavesale" "java/lang/IllegalStateException")), (Jvm.Cond.not (Jvm.Cond.castable "Wavesale$Terms" "java/lang/IllegalStateException")), (Jvm.Cond.not (Jvm.Cond.castable "Wavesale$Clock" "java/lang/IllegalStateException")), (Jvm.Cond.not (Jvm.Cond.castable "Wavesale$Market" "java/lang/IllegalStateException")), (Jvm.Cond.not (Jvm.Cond.castable "Wavesale$Payments" "java/lang/IllegalStateException")), (Jvm.Cond.not (Jvm.Cond.castable "Wavesale$Names" "java/lang/IllegalStateException")), (Jvm.Cond.not (Jvm.Cond.castable "Wavesale$Stations" "java/lang/IllegalStateException")), (Jvm.Cond.not (Jvm.Cond.castable "WavesaleModel" "java/lang/IllegalStateException")), (Jvm.Cond.not (Jvm.Cond.castable "java/util/ArrayList" "java/lang/IllegalStateException")), (Jvm.Cond.not (Jvm.Cond.castable "WavesaleLaw$Out" "java/lang/IllegalStateException")), (Jvm.Cond.not (Jvm.Cond.castable "java/lang/IllegalArgumentException" "java/lang/IllegalStateException")), (Jvm.Cond.not (Jvm.Cond.castable "WavesaleModel$Region" "java/lang/IllegalStateException")), (Jvm.Cond.not (Jvm.Cond.castable "java/lang/IndexOutOfBoundsException" "java/lang/IllegalStateException")), (Jvm.Cond.not (Jvm.Cond.castable "java/util/ArrayList$Itr" "java/lang/IllegalStateException")), (Jvm.Cond.not (Jvm.Cond.castable "WavesaleModel$Bidder" "java/lang/IllegalStateException")), (Jvm.Cond.not (Jvm.Cond.castable "WavesaleModel$Clock" "java/lang/IllegalStateException")), (Jvm.Cond.not (Jvm.Cond.castable "WavesaleModel$Round" "java/lang/IllegalStateException")), (Jvm.Cond.not (Jvm.Cond.castable "java/lang/Integer" "java/lang/IllegalStateException")), (Jvm.Cond.not (Jvm.Cond.castable "WavesaleModel$Choice" "java/lang/IllegalStateException")), (Jvm.Cond.not (Jvm.Cond.castable "java/lang/StringBuilder" "java/lang/IllegalStateException")), (Jvm.Cond.not (Jvm.Cond.castable "java/lang/String" "java/lang/IllegalStateException")), (Jvm.Cond.not (Jvm.Cond.castable "java/lang/StringIndexOutOfBoundsException" "java/lang/IllegalStateException")), (Jvm.Cond.not (Jvm.Cond.castable "java/lang/ArrayIndexOutOfBoundsException" "java/lang/IllegalStateException")), (Jvm.Cond.not (Jvm.Cond.castable "Wavesale" "java/lang/IndexOutOfBoundsException")), (Jvm.Cond.not (Jvm.Cond.castable "Wavesale$Terms" "java/lang/IndexOutOfBoundsException")), (Jvm.Cond.not (Jvm.Cond.castable "Wavesale$Clock" "java/lang/IndexOutOfBoundsException")), (Jvm.Cond.not (Jvm.Cond.castable "Wavesale$Market" "java/lang/IndexOutOfBoundsException")), (Jvm.Cond.not (Jvm.Cond.castable "Wavesale$Payments" "java/lang/IndexOutOfBoundsException")), (Jvm.Cond.not (Jvm.Cond.castable "Wavesale$Names" "java/lang/IndexOutOfBoundsException")), (Jvm.Cond.not (Jvm.Cond.castable "Wavesale$Stations" "java/lang/IndexOutOfBoundsException")), (Jvm.Cond.not (Jvm.Cond.castable "WavesaleModel" "java/lang/IndexOutOfBoundsException")), (Jvm.Cond.not (Jvm.Cond.castable "java/util/ArrayList" "java/lang/IndexOutOfBoundsException")), (Jvm.Cond.not (Jvm.Cond.castable "WavesaleLaw$Out" "java/lang/IndexOutOfBoundsException")), (Jvm.Cond.not (Jvm.Cond.castable "java/lang/IllegalArgumentException" "java/lang/IndexOutOfBoundsException")), (Jvm.Cond.not (Jvm.Cond.castable "java/lang/IllegalStateException" "java/lang/IndexOutOfBoundsException")), (Jvm.Cond.not (Jvm.Cond.castable "WavesaleModel$Region" "java/lang/IndexOutOfBoundsException")), (Jvm.Cond.not (Jvm.Cond.castable "java/util/ArrayList$Itr" "java/lang/IndexOutOfBoundsException")), (Jvm.Cond.not (Jvm.Cond.castable "WavesaleModel$Bidder" "java/lang/IndexOutOfBoundsException")), (Jvm.Cond.not (Jvm.Cond.castable "WavesaleModel$Clock" "java/lang/IndexOutOfBoundsException")), (Jvm.Cond.not (Jvm.Cond.castable "WavesaleModel$Round" "java/lang/IndexOutOfBoundsException")), (Jvm.Cond.not (Jvm.Cond.castable "java/lang/Integer" "java/lang/IndexOutOfBoundsException")), (Jvm.Cond.not (Jvm.Cond.castable "WavesaleModel$Choice" "java/lang/IndexOutOfBoundsException")), (Jvm.Cond.not (Jvm.Cond.castable "java/lang/StringBuilder" "java/lang/IndexOutOfBoundsException")), (Jvm.Cond.not (Jvm.Cond.castable "java/lang/String" "java/lang/IndexOutOfBoundsException")), (Jvm.Cond.isRef (Jvm.Term.mirror "[Ljava/lang/Object;")), (Jvm.Cond.exactly (Jvm.Term.string "WavesaleModel" (335 : Nat)) "java/lang/String"), (Jvm.Cond.eq (Jvm.Term.field (Jvm.Term.string "WavesaleModel" (335 : Nat)) "java/lang/String" "coder" "B") (Jvm.Term.int (0 : Int32))), (Jvm.Cond.arrayOf (Jvm.Term.field (Jvm.Term.string "WavesaleModel" (335 : Nat)) "java/lang/String" "value" "[B") Jvm.ClassFile.FieldType.byte), (Jvm.Cond.eq (Jvm.Term.length (Jvm.Term.field (Jvm.Term.string "WavesaleModel" (335 : Nat)) "java/lang/String" "value" "[B")) (Jvm.Term.int (1 : Int32))), (Jvm.Cond.eq (Jvm.Term.elem (Jvm.Term.field (Jvm.Term.string "WavesaleModel" (335 : Nat)) "java/lang/String" "value" "[B") (Jvm.Term.int (0 : Int32))) (Jvm.Term.int (44 : Int32))), (Jvm.Cond.exactly (Jvm.Term.string "WavesaleModel" (337 : Nat)) "java/lang/String"), (Jvm.Cond.eq (Jvm.Term.field (Jvm.Term.string "WavesaleModel" (337 : Nat)) "java/lang/String" "coder" "B") (Jvm.Term.int (0 : Int32))), (Jvm.Cond.arrayOf (Jvm.Term.field (Jvm.Term.string "WavesaleModel" (337 : Nat)) "java/lang/String" "value" "[B") Jvm.ClassFile.FieldType.byte), (Jvm.Cond.eq (Jvm.Term.length (Jvm.Term.field (Jvm.Term.string "WavesaleModel" (337 : Nat)) "java/lang/String" "value" "[B")) (Jvm.Term.int (0 : Int32))), (Jvm.Cond.exactly (Jvm.Term.string "WavesaleModel" (343 : Nat)) "java/lang/String"), (Jvm.Cond.eq (Jvm.Term.field (Jvm.Term.string "WavesaleModel" (343 : Nat)) "java/lang/String" "coder" "B") (Jvm.Term.int (0 : Int32))), (Jvm.Cond.arrayOf (Jvm.Term.field (Jvm.Term.string "WavesaleModel" (343 : Nat)) "java/lang/String" "value" "[B") Jvm.ClassFile.FieldType.byte), (Jvm.Cond.eq (Jvm.Term.length (Jvm.Term.field (Jvm.Term.string "WavesaleModel" (343 : Nat)) "java/lang/String" "value" "[B")) (Jvm.Term.int (1 : Int32))), (Jvm.Cond.eq (Jvm.Term.elem (Jvm.Term.field (Jvm.Term.string "WavesaleModel" (343 : Nat)) "java/lang/String" "value" "[B") (Jvm.Term.int (0 : Int32))) (Jvm.Term.int (45 : Int32))), (Jvm.Cond.exactly (Jvm.Term.static "java/lang/Integer" "DigitOnes" "[B") "[B"), (Jvm.Cond.exactly (Jvm.Term.field (Jvm.Term.string "WavesaleModel" (335 : Nat)) "java/lang/String" "value" "[B") "[B"), (Jvm.Cond.exactly (Jvm.Term.field (Jvm.Term.string "WavesaleModel" (337 : Nat)) "java/lang/String" "value" "[B") "[B"), (Jvm.Cond.exactly (Jvm.Term.field (Jvm.Term.string "WavesaleModel" (343 : Nat)) "java/lang/String" "value" "[B") "[B")]
theorem st_Xs : st_X.isSublist (st_flat stC []) = true := by decide +kernel
theorem stH.fa (h : stH args s) {w : Cond} (hw : w ∈ st_X) : w.before args s = true := by
  have e := st_flatE stC []
  rw [List.append_nil] at e
  exact h.fl (show w ∈ flatC stC by rw [← e]; exact (List.isSublist_iff_sublist.mp st_Xs).subset hw)
def st_isY : Cond → Bool
  | .laysStatic _ _ _ => true
  | .initialized _ => true
  | .arrayClass _ => true
  | .arrayOver _ => true
  | .stringRef _ _ _ => true
  | _ => false
theorem st_Y {w : Cond} (hw : w ∈ tables_1.filter st_isY) : w ∈ lw_tbl := List.mem_append_right _ (List.mem_filter.mp hw).1
theorem st_Yt {w : Cond} (hw : w ∈ tables_1.filter st_isY) : w ∈ tables_1 := (List.mem_filter.mp hw).1
theorem st_kn (h : stH args s) {ci n : Nat} {C : String} {T : u_T} {N : Nat} {ty : Nat → FieldType} (K : xx_cl ci C T N ty) (hi : Cond.instantiable C n ∈ xx_gws) : ∃ p : ClassId × (Nat → Nat), ∀ q : vw_C, vwCl[ci]? = some q → u_Kn s q.1 q.2.1 q.2.2 p.1 p.2 := by
  obtain ⟨cC, iS, h1⟩ := u_known h.gw K.2.2.1 (h.gw _ hi)
  exact ⟨(cC, iS), fun q hq => by cases Option.some.inj (hq.symm.trans K.2.1); exact h1⟩
theorem st_G (h : stH args s) : ∃ G : va_G, va_K G vwCl [] s := by
  have h1 : ∀ ci : Nat, ∃ p : ClassId × (Nat → Nat), ∀ q : vw_C, vwCl[ci]? = some q → u_Kn s q.1 q.2.1 q.2.2 p.1 p.2 := fun ci =>
    match ci with
    | 0 => st_kn h cl_J0 nw_J4_18.2.1
    | 1 => st_kn h cl_J4 nw_J7_45.2.1
    | 2 => st_kn h cl_J6 nw_J6_1.2.1
    | 3 => st_kn h cl_Jx00060 nw_J7_68.2.1
    | 4 => st_kn h cl_Jx7c733 nw_J5_129.2.1
    | 5 => st_kn h cl_Jx35411 nw_Jx4a65c_267.2.1
    | 6 => st_kn h cl_Jx4a65c nw_X14_20.2.1
    | 7 => st_kn h cl_X1 nw_X7_16.2.1
    | 8 => st_kn h cl_X2 nw_X7_26.2.1
    | 9 => st_kn h cl_X3 nw_X7_40.2.1
    | 10 => st_kn h cl_X4 nw_X7_33.2.1
    | 11 => st_kn h cl_X5 nw_X7_47.2.1
    | 12 => st_kn h cl_X6 nw_X7_9.2.1
    | 13 => st_kn h cl_X7 nw_L_8.2.1
    | 14 => st_kn h cl_X8 nw_L_14.2.1
    | 15 => st_kn h cl_X9 nw_X14_118.2.1
    | 16 => st_kn h cl_X10 nw_X14_218.2.1
    | 17 => st_kn h cl_X11 nw_X14_136.2.1
    | 18 => st_kn h cl_X12 nw_X14_65.2.1
    | 19 => st_kn h cl_X13 nw_X14_172.2.1
    | 20 => st_kn h cl_X14 nw_L_137.2.1
    | n + 21 => (st_kn h cl_J0 nw_J4_18.2.1).imp fun p _ q hq => absurd (List.getElem?_eq_some_iff.mp hq).1 (by show ¬ n + 21 < 21; omega)
  obtain ⟨p, hp⟩ := Classical.axiomOfChoice h1
  exact ⟨(fun c => (p c).1, fun c => (p c).2), fun c q hq => hp c q hq, fun k q hq => by simp at hq⟩
theorem st_arr {c : ClassId} {k : Class} {comp : ClassId} {ty : FieldType} (hk : s.vm.classes[c]? = some k) (hkind : k.kind = .array comp ty) : ArrOfT s c ty := fun N f => ⟨fun q hq => (by cases hq), k, hk, comp, hkind⟩
theorem st_A (h : stH args s) (h5 : ∃ c, ArrOfT s c (.object "java/lang/Integer")) : ∃ A : Nat → ClassId, ∀ t, 100 ≤ t → t < 106 → ArrOfT s (A t) (xx_aty t) ∧ (t < 105 → va_RA s (A t) (xx_aty t)) := by
  obtain ⟨c0, k0, p0, a0, b0, d0⟩ := Cond.arrayClass_spec (args := args) (first := s) (o := none) (s := s) (idx := []) (h.1 (.arrayClass .int) (st_Y (by decide +kernel)))
  obtain ⟨c1, k1, p1, a1, b1, d1⟩ := Cond.arrayClass_spec (args := args) (first := s) (o := none) (s := s) (idx := []) (h.1 (.arrayClass .boolean) (st_Y (by decide +kernel)))
  obtain ⟨c2, k2, p2, a2, b2, d2⟩ := Cond.arrayClass_spec (args := args) (first := s) (o := none) (s := s) (idx := []) (h.1 (.arrayClass .byte) (st_Y (by decide +kernel)))
  obtain ⟨p3, c3, k3, -, b3, d3, a3⟩ := Cond.arrayOver_specA (args := args) (first := s) (o := none) (s := s) (idx := []) (h.1 (.arrayOver (.array .int)) (st_Y (by decide +kernel)))
  obtain ⟨p4, c4, k4, e4, -, b4, d4, a4⟩ := Cond.arrayOver_spec (args := args) (first := s) (o := none) (s := s) (idx := []) (h.1 (.arrayOver (.object "java/lang/Object")) (st_Y (by decide +kernel)))
  obtain ⟨c5, h5⟩ := h5
  refine ⟨fun t => if t = 100 then c0 else if t = 101 then c1 else if t = 102 then c2 else if t = 103 then c3 else if t = 104 then c4 else c5, fun t h1 h2 => ?_⟩
  rcases (show t = 100 ∨ t = 101 ∨ t = 102 ∨ t = 103 ∨ t = 104 ∨ t = 105 by omega) with rfl | rfl | rfl | rfl | rfl | rfl
  · exact ⟨st_arr b0 d0, fun _ => a0⟩
  · exact ⟨st_arr b1 d1, fun _ => a1⟩
  · exact ⟨st_arr b2 d2, fun _ => a2⟩
  · exact ⟨st_arr b3 d3, fun _ => a3⟩
  · exact ⟨st_arr b4 d4, fun _ => ⟨k4, p4, b4, d4, e4, a4⟩⟩
  · exact ⟨h5, fun q => absurd q (by decide)⟩
theorem st_str {own tx : String} {k : Nat} (h1 : (Cond.stringRef own k tx).before args s = true) : ∃ a, vk_R own k tx a s := by
  cases hc : s.vm.findClass own with
  | none => simp [Cond.before, Cond.holds, Cond.value, hc] at h1
  | some c =>
    obtain ⟨-, -, -, a, -, -, -, -, -, e⟩ := Cond.stringRef_spec (args := args) (first := s) (o := none) (s := s) (idx := []) hc h1
    exact ⟨a, .of h1 e⟩
theorem st_N (h : stH args s) {D : XD} (hl : ∀ q ∈ xx_lits, vk_R q.1 q.2.1 q.2.2.1 (xd_E D q.2.2.2) s) : xx_N D s := by
  refine ⟨fun w hw => ?_, fun q hq => ?_, hl, fun q hq => ?_⟩
  · have h1 := h.tb w (List.mem_filter.mp hw).1
    have h2 : xx_nest w = true := (List.mem_filter.mp hw).2
    cases w <;> first | exact va_Nw.of rfl h1 | (exact absurd h2 (by simp [xx_nest]))
  · obtain ⟨w, hw, e⟩ := List.mem_filterMap.mp hq
    have h1 := h.tb w hw
    cases w <;> first | (rename_i own k tx; cases Option.some.inj e; exact st_str h1) | (exact absurd e (by simp))
  · rcases List.mem_cons.mp hq with rfl | hq
    · exact va_Nc.of (h.fa (by decide +kernel))
    rcases List.mem_cons.mp hq with rfl | hq
    · exact va_Nc.of (h.fa (by decide +kernel))
    rcases List.mem_cons.mp hq with rfl | hq
    · exact va_Nc.of (h.fa (by decide +kernel))
    · cases hq

abbrev stA (s : State) : Nat → Prop := fun q => s.heap.size ≤ q
theorem st_hA : ∀ a : Nat, a < s.heap.size → ¬ stA s a := fun a h1 h2 => absurd h1 (Nat.not_lt.mpr h2)
abbrev tmO : Term := .static "java/lang/Integer" "DigitOnes" "[B"
abbrev tmC : Term := .static "java/lang/Integer$IntegerCache" "cache" "[Ljava/lang/Integer;"
abbrev tmE : Term := .static "java/util/ArrayList" "DEFAULTCAPACITY_EMPTY_ELEMENTDATA" "[Ljava/lang/Object;"
abbrev tmS (k : Nat) : Term := .string "WavesaleModel" k
def stDg (j : Nat) : Int32 := 48 + Int32.ofNat (j % 10)
theorem st_dg : ∀ j : Fin 100, Cond.eq (.elem tmO (.int (Int32.ofNat j.val))) (.int (stDg j.val)) ∈ st_X := by
  first
  | exact fun j => (List.isSublist_iff_sublist.mp (show ((List.finRange 100).map fun j : Fin 100 => Cond.eq (.elem tmO (.int (Int32.ofNat j.val))) (.int (stDg j.val))).isSublist st_X = true from by decide +kernel)).subset (List.mem_map.mpr ⟨j, List.mem_finRange j, rfl⟩)
  | decide +kernel
theorem st_T4 (h : stH args s) : ∃ t, tmO.eval args s none [] s = some (.ref t) ∧ va_T .byte t 100 (fun j => .int (stDg j)) (stA s) s s.heap :=
  va_Tof (by decide) (h.fa (by decide +kernel)) (va_eqt (h.fa (by decide +kernel))) (fun j hj => va_eqt (h.fa (st_dg ⟨j, hj⟩))) st_hA
theorem st_T0 (h : stH args s) : ∃ t, tmE.eval args s none [] s = some (.ref t) ∧ va_T (.object "java/lang/Object") t 0 (fun _ => .null) (stA s) s s.heap :=
  va_Tof (by decide) (h.fa (by decide +kernel)) (va_eqt (h.fa (by decide +kernel))) (fun j hj => absurd hj (Nat.not_lt_zero j)) st_hA
theorem st_T1 (h : stH args s) : ∃ (t : Nat) (ad : Nat → Nat), tmC.eval args s none [] s = some (.ref t) ∧ va_T (.object "java/lang/Integer") t 256 (fun j => .ref (ad j)) (stA s) s s.heap ∧ vb_C ad (stA s) s s.heap := by
  have hlen : (Term.length tmC).eval args s none [] s = some (.int (Int32.ofNat 256)) := va_eqt (h.fa (by decide +kernel))
  obtain ⟨ad, h1, h2⟩ := vb_Cof (args := args) (s := s) (A := stA s) (st := tmC) rfl hlen (h.fa (by decide +kernel)) st_hA
  obtain ⟨t, h3, h4⟩ := va_Tof (N := 256) (ty := .object "java/lang/Integer") (f := fun j => .ref (ad j)) (A := stA s) (by decide) (h.fa (by decide +kernel)) hlen h2 st_hA
  exact ⟨t, ad, h3, h4, h1⟩
/-- a text: its object at a, its signs at u -/
def stTx (s : State) (a u n : Nat) (b : Int32) : Prop := va_O "java/lang/String" a (stA s) s s.heap ∧ va_OF "java/lang/String" "coder" "B" (.int 0) a (stA s) s s.heap ∧ va_OF "java/lang/String" "value" "[B" (.ref u) a (stA s) s s.heap ∧ va_T .byte u n (fun _ => .int b) (stA s) s s.heap
theorem st_tx {k n : Nat} {b : Int32} (hn : n ≤ 1) (hex : (Cond.exactly (tmS k) "java/lang/String").before args s = true) (hco : (Cond.eq (.field (tmS k) "java/lang/String" "coder" "B") (.int 0)).before args s = true)
    (har : (Cond.arrayOf (.field (tmS k) "java/lang/String" "value" "[B") .byte).before args s = true) (hle : (Cond.eq (.length (.field (tmS k) "java/lang/String" "value" "[B")) (.int (Int32.ofNat n))).before args s = true)
    (hel : 0 < n → (Cond.eq (.elem (.field (tmS k) "java/lang/String" "value" "[B") (.int (Int32.ofNat 0))) (.int b)).before args s = true) :
    ∃ a u, (tmS k).eval args s none [] s = some (.ref a) ∧ stTx s a u n b := by
  obtain ⟨a, c, cA, kA, q1, q2, q3, q4, q5, q6, -⟩ := Cond.exactly_spec (args := args) (first := s) (o := none) (s := s) (idx := []) (t := tmS k) (cls := "java/lang/String") hex
  obtain ⟨t, ht, hT⟩ := va_Tof (f := fun _ => .int b) (A := stA s) (N := n) (by omega) har (va_eqt hle) (fun j hj => by obtain rfl : j = 0 := by omega
                                                                                                                        exact va_eqt (hel (by omega))) st_hA
  exact ⟨a, t, q1, ⟨cA, q3, q5, by rw [q6]; exact q2, st_hA a (Array.getElem?_eq_some_iff.mp q3).1⟩, vk_OFof q1 (va_eqt hco) st_hA, vk_OFof q1 ht st_hA, hT⟩
theorem st_S5 (h : stH args s) : ∃ a u, (tmS 335).eval args s none [] s = some (.ref a) ∧ stTx s a u 1 44 := st_tx (Nat.le_refl 1) (h.fa (by decide +kernel)) (h.fa (by decide +kernel)) (h.fa (by decide +kernel)) (h.fa (by decide +kernel)) (fun _ => h.fa (by decide +kernel))
theorem st_S6 (h : stH args s) : ∃ a u, (tmS 337).eval args s none [] s = some (.ref a) ∧ stTx s a u 0 0 := st_tx (Nat.zero_le 1) (h.fa (by decide +kernel)) (h.fa (by decide +kernel)) (h.fa (by decide +kernel)) (h.fa (by decide +kernel)) (fun q => absurd q (Nat.lt_irrefl 0))
theorem st_S7 (h : stH args s) : ∃ a u, (tmS 343).eval args s none [] s = some (.ref a) ∧ stTx s a u 1 45 := st_tx (Nat.le_refl 1) (h.fa (by decide +kernel)) (h.fa (by decide +kernel)) (h.fa (by decide +kernel)) (h.fa (by decide +kernel)) (fun _ => h.fa (by decide +kernel))

/-- the heap that was there: what the run reads of it, by names under 1000 -/
def h0S (L : Nat) (xs : Nat → Int32) : XH := fun r => if 200 ≤ r ∧ r < 456 then some (2, 1, fun _ => .int (nI (r - 200) - 128)) else match r with
  | 0 => some (104, 0, fun _ => .null)
  | 1 => some (105, 256, fun j => .ref (200 + j))
  | 3 => some (300, 0, fun _ => .null)
  | 4 => some (102, 100, fun j => .int (stDg j))
  | 5 => some (0, 4, vp_V [.ref 8, .int 0, .int 0, .int 0])
  | 6 => some (0, 4, vp_V [.ref 9, .int 0, .int 0, .int 0])
  | 7 => some (0, 4, vp_V [.ref 10, .int 0, .int 0, .int 0])
  | 8 => some (102, 1, fun _ => .int 44)
  | 9 => some (102, 0, fun _ => .int 0)
  | 10 => some (102, 1, fun _ => .int 45)
  | 11 => some (100, L, fun j => .int (xs j))
  | _ => none
def stE (ad : Nat → Nat) (a0 a1 a3 a4 a5 a6 a7 a8 a9 a10 a11 : Nat) : Nat → Nat := fun r => if 200 ≤ r then ad (r - 200) else match r with
  | 0 => a0
  | 1 => a1
  | 3 => a3
  | 4 => a4
  | 5 => a5
  | 6 => a6
  | 7 => a7
  | 8 => a8
  | 9 => a9
  | 10 => a10
  | _ => a11
theorem h0S_cases {L : Nat} {xs : Nat → Int32} {r : Nat} {c : XC} (e : h0S L xs r = some c) : (∃ j, j < 256 ∧ r = 200 + j ∧ c = (2, 1, fun _ => .int (nI j - 128))) ∨ (r = 0 ∧ c = (104, 0, fun _ => .null)) ∨ (r = 1 ∧ c = (105, 256, fun j => .ref (200 + j))) ∨ (r = 3 ∧ c = (300, 0, fun _ => .null)) ∨ (r = 4 ∧ c = (102, 100, fun j => .int (stDg j))) ∨
    (r = 5 ∧ c = (0, 4, vp_V [.ref 8, .int 0, .int 0, .int 0])) ∨ (r = 6 ∧ c = (0, 4, vp_V [.ref 9, .int 0, .int 0, .int 0])) ∨ (r = 7 ∧ c = (0, 4, vp_V [.ref 10, .int 0, .int 0, .int 0])) ∨ (r = 8 ∧ c = (102, 1, fun _ => .int 44)) ∨ (r = 9 ∧ c = (102, 0, fun _ => .int 0)) ∨ (r = 10 ∧ c = (102, 1, fun _ => .int 45)) ∨ (r = 11 ∧ c = (100, L, fun j => .int (xs j))) := by
  unfold h0S at e
  split at e
  · rename_i q
    exact .inl ⟨r - 200, by omega, by omega, (Option.some.inj e).symm⟩
  · right
    split at e <;> first | (cases e; simp) | (cases e)
theorem st_z (h : stH args s) {C n d : String} {v : Value} (w1 : Cond.laysStatic C n d ∈ lw_tbl) (w2 : Cond.initialized C ∈ lw_tbl) (hv : (Term.static C n d).eval args s none [] s = some v) : va_Z C n d v (stA s) s s.heap := va_Zof (h.1 _ w1) (h.1 _ w2) hv st_hA
/-- an old array's cell -/
theorem st_oarr {D : XD} {ρ : Nat → Nat} {r t N a : Nat} {ty : FieldType} {f g : Nat → Value} (h1 : 100 ≤ t) (h2 : t < 200) (ho : xx_ota r = some t) (hr : ρ r = a) (hT : va_T ty a N g (stA s) s s.heap) (hf : ∀ j, j < N → xx_v ρ (f j) = g j) : xx_oldc D ρ r (t, N, f) s.heap := by
  unfold xx_oldc
  rw [if_neg (by show ¬ t < 100; omega), if_pos (show t < 200 by omega)]
  obtain ⟨cell, e1, e2, e3, e4, e5, e6, -⟩ := hT
  exact ⟨ho, cell, by rw [hr]; exact e1, e3, e4, e5, fun j hj => by rw [show (t, N, f).2.2 j = f j from rfl, hf j hj]; exact e6 j hj⟩
theorem st_oobj {D : XD} {ρ : Nat → Nat} {r ci N a : Nat} {C : String} {T : u_T} {f : Nat → Value} (hD : xd_cl D = vwCl) (hG : va_K (xd_G D) vwCl [] s) (hci : ci < 100) (hc : vwCl[ci]? = some (C, T, N)) (h0 : 0 < N) (hr : ρ r = a) (hO : va_O C a (stA s) s s.heap) (hF : ∀ k, k < N → (ci = 0 → k < 2) → va_OF (T k).1 (T k).2.1 (T k).2.2.1 (xx_v ρ (f k)) a (stA s) s s.heap) : xx_oldc D ρ r (ci, N, f) s.heap := by
  unfold xx_oldc
  rw [if_pos (show ci < 100 from hci)]
  obtain ⟨cell, e1, e2, e3, -⟩ := hO
  obtain ⟨hS, hfc, -⟩ := hG.1 ci _ hc
  obtain ⟨-, -, -, -, cell0, -, -, g3, g4, -, -⟩ := hF 0 h0 (fun _ => by decide)
  cases Option.some.inj (e1.symm.trans g3)
  refine ⟨_, cell, by rw [hD]; exact hc, rfl, by rw [hr]; exact e1, Option.some.inj (e3.symm.trans hfc), ⟨e2, g4⟩, fun k hk hk2 => ?_⟩
  obtain ⟨cf, kF, fi, fd, cell2, i1, i2, i3, i4, i5, i6⟩ := hF k hk hk2
  obtain ⟨_, _, _, fd2, j1, j2⟩ := hS k hk
  cases Option.some.inj (i1.symm.trans j1)
  cases Option.some.inj (e1.symm.trans i3)
  show cell.slots[(xd_G D).2 ci k]? = _
  rw [← j2]
  exact i5
theorem h0S_hi {L : Nat} {xs : Nat → Int32} {r : Nat} (h1 : 1000 ≤ r) : h0S L xs r = none := by
  cases e : h0S L xs r with
  | none => rfl
  | some c =>
    rcases h0S_cases e with ⟨j, hj, rfl, -⟩ | ⟨rfl, -⟩ | ⟨rfl, -⟩ | ⟨rfl, -⟩ | ⟨rfl, -⟩ | ⟨rfl, -⟩ | ⟨rfl, -⟩ | ⟨rfl, -⟩ | ⟨rfl, -⟩ | ⟨rfl, -⟩ | ⟨rfl, -⟩ | ⟨rfl, -⟩ <;> omega
theorem h0S_int {L : Nat} {xs : Nat → Int32} {j : Nat} (hj : j < 256) : h0S L xs (200 + j) = some (2, 1, fun _ => .int (nI j - 128)) := by
  unfold h0S
  rw [if_pos ⟨by omega, by omega⟩, Nat.add_sub_cancel_left]
theorem h0S_cls {L : Nat} {xs : Nat → Int32} : xx_cls (h0S L xs) := by
  intro r c j e hj
  rcases h0S_cases e with ⟨k, hk, rfl, rfl⟩ | ⟨rfl, rfl⟩ | ⟨rfl, rfl⟩ | ⟨rfl, rfl⟩ | ⟨rfl, rfl⟩ | ⟨rfl, rfl⟩ | ⟨rfl, rfl⟩ | ⟨rfl, rfl⟩ | ⟨rfl, rfl⟩ | ⟨rfl, rfl⟩ | ⟨rfl, rfl⟩ | ⟨rfl, rfl⟩
  · exact trivial
  · exact trivial
  · show (h0S L xs (200 + j)).isSome = true
    rw [h0S_int hj]
    rfl
  · exact trivial
  · exact trivial
  · match j, hj with
    | 0, _ => exact rfl
    | 1, _ => exact trivial
    | 2, _ => exact trivial
    | 3, _ => exact trivial
  · match j, hj with
    | 0, _ => exact rfl
    | 1, _ => exact trivial
    | 2, _ => exact trivial
    | 3, _ => exact trivial
  · match j, hj with
    | 0, _ => exact rfl
    | 1, _ => exact trivial
    | 2, _ => exact trivial
    | 3, _ => exact trivial
  · exact trivial
  · exact trivial
  · exact trivial
  · exact trivial
theorem h0S_ok {L : Nat} {xs : Nat → Int32} : okB (h0S L xs) := by
  refine ⟨⟨⟨_, rfl⟩, ⟨_, rfl⟩, rfl, fun j hj => h0S_int hj, h0S_hi (by decide), h0S_hi (by decide)⟩, ⟨⟨⟨⟨_, rfl, rfl, rfl⟩, rfl, fun j _ => ⟨44, rfl, rfl⟩, by decide⟩, ⟨⟨_, rfl, rfl, rfl⟩, rfl, fun j _ => ⟨0, rfl, rfl⟩, by decide⟩, ⟨⟨_, rfl, rfl, rfl⟩, rfl, fun j _ => ⟨45, rfl, rfl⟩, by decide⟩⟩, ⟨_, rfl, fun x hx => ?_⟩⟩, fun r hr => h0S_hi hr⟩
  show Value.int (stDg x) = _
  unfold stDg
  rw [Nat.mod_eq_of_lt hx]
  rfl
theorem st_ltT {a N : Nat} {ty : FieldType} {g : Nat → Value} (hT : va_T ty a N g (stA s) s s.heap) : a < s.heap.size := Nat.not_le.mp hT.out
theorem st_ltO {a : Nat} {C : String} (hO : va_O C a (stA s) s s.heap) : a < s.heap.size := by
  obtain ⟨_, _, _, _, hn⟩ := hO
  exact Nat.not_le.mp hn
theorem st_txo {D : XD} {r u a v n : Nat} {b : Int32} (hD : xd_cl D = vwCl) (hG : va_K (xd_G D) vwCl [] s) (hr : xd_E D r = a) (hu : xd_E D u = v) (X : stTx s a v n b) : xx_oldc D (xd_E D) r (0, 4, vp_V [.ref u, .int 0, .int 0, .int 0]) s.heap :=
  st_oobj (T := TJ0) (C := RJ0) hD hG (by decide) rfl (by decide) hr X.1 (fun k hk hk2 => by
    have h2 := hk2 rfl
    match k, h2 with
    | 0, _ => exact (by show va_OF _ _ _ (.ref (xd_E D u)) _ _ _ _; rw [hu]; exact X.2.2.1)
    | 1, _ => exact X.2.1)
set_option maxRecDepth 4000 in
theorem st_D (h : stH args s) {b L : Nat} {xs : Nat → Int32} (hX : va_X b L xs s s.heap) : ∃ D : XD, xd_H D = s.heap ∧ xd_E D 11 = b ∧ xx_K D s ∧ xx_N D s ∧ xx_S D (xd_E D) (fun _ => none) (h0S L xs) s.heap := by
  obtain ⟨G, hG⟩ := st_G h
  obtain ⟨a4, v4, T4⟩ := st_T4 h
  obtain ⟨a0, v0, T0⟩ := st_T0 h
  obtain ⟨a1, ad, v1, T1, C1⟩ := st_T1 h
  obtain ⟨a5, a8, v5, X5⟩ := st_S5 h
  obtain ⟨a6, a9, v6, X6⟩ := st_S6 h
  obtain ⟨a7, a10, v7, X7⟩ := st_S7 h
  obtain ⟨a3, M3⟩ := va_Mi.of (h.fa (w := .isRef (.mirror "[Ljava/lang/Object;")) (by decide +kernel))
  have h105 : ∃ c, ArrOfT s c (.object "java/lang/Integer") := by
    obtain ⟨cell, -, e2, -⟩ := T1
    obtain ⟨-, k, hk, comp, hkind⟩ := e2
    exact ⟨cell.cls, st_arr hk hkind⟩
  obtain ⟨A, hA⟩ := st_A h h105
  have T11 : va_T .int b L (fun j => .int (xs j)) (stA s) s s.heap := by
    obtain ⟨scr, e1, e2, e3, e4, e5⟩ := hX
    exact ⟨scr, e1, e2, e3, by omega, congrArg Nat.toInt32 e4, e5, st_hA _ (Array.getElem?_eq_some_iff.mp e1).1⟩
  have arrOf : ∀ {ty : FieldType} {a N : Nat} {g : Nat → Value}, va_T ty a N g (stA s) s s.heap → ∃ cell : Cell, s.heap[a]? = some cell ∧ s.isArrayOf cell ty := fun hT => by
    obtain ⟨cell, e1, e2, -⟩ := hT
    exact ⟨cell, e1, e2⟩
  have hEi : ∀ j, stE ad a0 a1 a3 a4 a5 a6 a7 a8 a9 a10 b (200 + j) = ad j := fun j => by
    unfold stE
    rw [if_pos (by omega), Nat.add_sub_cancel_left]
  refine ⟨(vwCl, G, A, s.heap, stE ad a0 a1 a3 a4 a5 a6 a7 a8 a9 a10 b), rfl, rfl, ⟨rfl, ⟨hG, h.1 (.arrayOver (.array .int)) (st_Y (by decide +kernel)), ?_, ?_, ?_, M3, h.1 (.arrayOver (.object "java/lang/Object")) (st_Y (by decide +kernel)), ?_⟩, hA⟩, st_N h ?_, Nat.le_refl _, fun a _ => rfl, fun a r e => (by cases e), fun r c e => ?_, h0S_cls⟩
  · exact vx_Zqof (h.1 _ (st_Y (by decide +kernel))) (h.1 _ (st_Y (by decide +kernel))) (h.fa (by decide +kernel)) st_hA
  · exact vx_Zqof (h.1 _ (st_Y (by decide +kernel))) (h.1 _ (st_Y (by decide +kernel))) (h.fa (by decide +kernel)) st_hA
  · refine List.forall_mem_cons.mpr ⟨?_, List.forall_mem_cons.mpr ⟨?_, List.forall_mem_cons.mpr ⟨?_, List.forall_mem_cons.mpr ⟨?_, List.forall_mem_cons.mpr ⟨?_, fun _ q => absurd q List.not_mem_nil⟩⟩⟩⟩⟩
    · exact st_z h (st_Y (by decide +kernel)) (st_Y (by decide +kernel)) (va_eqt (h.fa (by decide +kernel)))
    · exact st_z h (st_Y (by decide +kernel)) (st_Y (by decide +kernel)) (va_eqt (h.fa (by decide +kernel)))
    · exact st_z h (st_Y (by decide +kernel)) (st_Y (by decide +kernel)) v1
    · exact st_z h (st_Y (by decide +kernel)) (st_Y (by decide +kernel)) v0
    · exact st_z h (st_Y (by decide +kernel)) (st_Y (by decide +kernel)) v4
  · intro r t e
    unfold xx_ota at e
    split at e
    · rename_i q; subst q; cases e; exact arrOf T0
    split at e
    · rename_i q; subst q; cases e; exact arrOf T1
    split at e
    · rename_i q; subst q; cases e; exact arrOf T11
    split at e
    · rename_i q
      cases e
      rcases q with rfl | rfl | rfl | rfl
      · exact arrOf T4
      · exact arrOf X5.2.2.2
      · exact arrOf X6.2.2.2
      · exact arrOf X7.2.2.2
    · cases e
  · refine List.forall_mem_cons.mpr ⟨?_, List.forall_mem_cons.mpr ⟨?_, List.forall_mem_cons.mpr ⟨?_, fun _ q => absurd q List.not_mem_nil⟩⟩⟩
    · exact vk_R.of (h.tb _ (st_Yt (by decide +kernel))) v5
    · exact vk_R.of (h.tb _ (st_Yt (by decide +kernel))) v6
    · exact vk_R.of (h.tb _ (st_Yt (by decide +kernel))) v7
  · rcases h0S_cases e with ⟨j, hj, rfl, rfl⟩ | ⟨rfl, rfl⟩ | ⟨rfl, rfl⟩ | ⟨rfl, rfl⟩ | ⟨rfl, rfl⟩ | ⟨rfl, rfl⟩ | ⟨rfl, rfl⟩ | ⟨rfl, rfl⟩ | ⟨rfl, rfl⟩ | ⟨rfl, rfl⟩ | ⟨rfl, rfl⟩ | ⟨rfl, rfl⟩
    · refine ⟨.inl ⟨by omega, fun _ => ?_, rfl⟩, fun _ => ?_, fun q => absurd q (by omega)⟩
      · show stE ad a0 a1 a3 a4 a5 a6 a7 a8 a9 a10 b (200 + j) < _
        rw [hEi j]
        exact st_ltO (C1.1 j hj)
      · exact st_oobj (T := TJ6) (C := RJ6) rfl hG (by decide) rfl (by decide) (hEi j) (C1.1 j hj) (fun k hk _ => by
          obtain rfl : k = 0 := by omega
          exact C1.2 j hj)
    · exact ⟨.inl ⟨by decide, fun _ => st_ltT T0, rfl⟩, fun _ => st_oarr (by decide) (by decide) rfl rfl T0 (fun j hj => absurd hj (Nat.not_lt_zero j)), fun q => absurd q (by decide)⟩
    · exact ⟨.inl ⟨by decide, fun _ => st_ltT T1, rfl⟩, fun _ => st_oarr (by decide) (by decide) rfl rfl T1 (fun j hj => congrArg Value.ref (hEi j)), fun q => absurd q (by decide)⟩
    · exact ⟨.inl ⟨by decide, fun q => absurd q (by decide), rfl⟩, fun _ => (by show ¬ 300 < 300; decide), fun q => absurd q (by decide)⟩
    · exact ⟨.inl ⟨by decide, fun _ => st_ltT T4, rfl⟩, fun _ => st_oarr (by decide) (by decide) rfl rfl T4 (fun j hj => rfl), fun q => absurd q (by decide)⟩
    · exact ⟨.inl ⟨by decide, fun _ => st_ltO X5.1, rfl⟩, fun _ => st_txo rfl hG rfl rfl X5, fun q => absurd q (by decide)⟩
    · exact ⟨.inl ⟨by decide, fun _ => st_ltO X6.1, rfl⟩, fun _ => st_txo rfl hG rfl rfl X6, fun q => absurd q (by decide)⟩
    · exact ⟨.inl ⟨by decide, fun _ => st_ltO X7.1, rfl⟩, fun _ => st_txo rfl hG rfl rfl X7, fun q => absurd q (by decide)⟩
    · exact ⟨.inl ⟨by decide, fun _ => st_ltT X5.2.2.2, rfl⟩, fun _ => st_oarr (by decide) (by decide) rfl rfl X5.2.2.2 (fun j hj => rfl), fun q => absurd q (by decide)⟩
    · exact ⟨.inl ⟨by decide, fun _ => st_ltT X6.2.2.2, rfl⟩, fun _ => st_oarr (by decide) (by decide) rfl rfl X6.2.2.2 (fun j hj => rfl), fun q => absurd q (by decide)⟩
    · exact ⟨.inl ⟨by decide, fun _ => st_ltT X7.2.2.2, rfl⟩, fun _ => st_oarr (by decide) (by decide) rfl rfl X7.2.2.2 (fun j hj => rfl), fun q => absurd q (by decide)⟩
    · exact ⟨.inl ⟨by decide, fun _ => st_ltT T11, rfl⟩, fun _ => st_oarr (by decide) (by decide) rfl rfl T11 (fun j hj => rfl), fun q => absurd q (by decide)⟩
end
