/-! the start -/
section
variable {args : Array Value} {s : State}
abbrev stA (s : State) : Nat → Prop := fun q => s.heap.size ≤ q
theorem st_hA : ∀ a : Nat, a < s.heap.size → ¬ stA s a := fun a h1 h2 => absurd h1 (Nat.not_lt.mpr h2)
abbrev tmO : Term := .static "java/lang/Integer" "DigitOnes" "[B"
abbrev tmC : Term := .static "java/lang/Integer$IntegerCache" "cache" "[Ljava/lang/Integer;"
abbrev tmE : Term := .static "java/util/ArrayList" "DEFAULTCAPACITY_EMPTY_ELEMENTDATA" "[Ljava/lang/Object;"
abbrev tmS (k : Nat) : Term := .string "WavesaleModel" k
def stDg (j : Nat) : Int32 := 48 + Int32.ofNat (j % 10)
theorem st_dg : ∀ j : Fin 100, Cond.eq (.elem tmO (.int (Int32.ofNat j.val))) (.int (stDg j.val)) ∈ st_flat stC [] := by
  first
  | exact fun j => (List.isSublist_iff_sublist.mp (show ((List.finRange 100).map fun j : Fin 100 => Cond.eq (.elem tmO (.int (Int32.ofNat j.val))) (.int (stDg j.val))).isSublist st_flat stC [] = true from by decide +kernel)).subset (List.mem_map.mpr ⟨j, List.mem_finRange j, rfl⟩)
  | decide +kernel
end
