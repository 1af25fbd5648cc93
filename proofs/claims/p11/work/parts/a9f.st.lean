/-! the start -/
section
variable {args : Array Value} {s : State}
theorem st_T4 (h : stH args s) : ∃ t, tmO.eval args s none [] s = some (.ref t) ∧ va_T .byte t 100 (fun j => .int (stDg j)) (stA s) s s.heap :=
  va_Tof (by decide) (h.fa (by decide +kernel)) (va_eqt (h.fa (by decide +kernel))) (fun j hj => va_eqt (h.fa (st_dg ⟨j, hj⟩))) st_hA
theorem st_T0 (h : stH args s) : ∃ t, tmE.eval args s none [] s = some (.ref t) ∧ va_T (.object "java/lang/Object") t 0 (fun _ => .null) (stA s) s s.heap :=
  va_Tof (by decide) (h.fa (by decide +kernel)) (va_eqt (h.fa (by decide +kernel))) (fun j hj => absurd hj (Nat.not_lt_zero j)) st_hA
theorem st_T1 (h : stH args s) : ∃ (t : Nat) (ad : Nat → Nat), tmC.eval args s none [] s = some (.ref t) ∧ va_T (.object "java/lang/Integer") t 256 (fun j => .ref (ad j)) (stA s) s s.heap ∧ vb_C ad (stA s) s s.heap := by
  have hlen : (Term.length tmC).eval args s none [] s = some (.int (Int32.ofNat 256)) := va_eqt (h.fa (by decide +kernel))
  obtain ⟨ad, h1, h2⟩ := vb_Cof (args := args) (s := s) (A := stA s) (st := tmC) rfl hlen (h.fa (by decide +kernel)) st_hA
  obtain ⟨t, h3, h4⟩ := va_Tof (N := 256) (ty := .object "java/lang/Integer") (f := fun j => .ref (ad j)) (A := stA s) (by decide) (h.fa (by decide +kernel)) hlen h2 st_hA
  exact ⟨t, ad, h3, h4, h1⟩
end
