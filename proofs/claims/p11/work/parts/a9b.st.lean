/-! the start -/
section
variable {args : Array Value} {s : State}
theorem st_arr {c : ClassId} {k : Class} {comp : ClassId} {ty : FieldType} (hk : s.vm.classes[c]? = some k) (hkind : k.kind = .array comp ty) : ArrOfT s c ty := fun N f => ⟨fun q hq => (by cases hq), k, hk, comp, hkind⟩
theorem st_A (h : stH args s) (h5 : ∃ c, ArrOfT s c (.object "java/lang/Integer")) : ∃ A : Nat → ClassId, ∀ t, 100 ≤ t → t < 106 → ArrOfT s (A t) (xx_aty t) ∧ (t < 105 → va_RA s (A t) (xx_aty t)) := by
  obtain ⟨c0, k0, p0, a0, b0, d0⟩ := Cond.arrayClass_spec (args := args) (first := s) (o := none) (s := s) (idx := []) (h.1 (.arrayClass .int) (st_Y (by decide +kernel)))
  obtain ⟨c1, k1, p1, a1, b1, d1⟩ := Cond.arrayClass_spec (args := args) (first := s) (o := none) (s := s) (idx := []) (h.1 (.arrayClass .boolean) (st_Y (by decide +kernel)))
  obtain ⟨c2, k2, p2, a2, b2, d2⟩ := Cond.arrayClass_spec (args := args) (first := s) (o := none) (s := s) (idx := []) (h.1 (.arrayClass .byte) (st_Y (by decide +kernel)))
  obtain ⟨p3, c3, k3, -, b3, d3, a3⟩ := Cond.arrayOver_specA (args := args) (first := s) (o := none) (s := s) (idx := []) (h.1 (.arrayOver (.array .int)) (st_Y (by decide +kernel)))
  obtain ⟨p4, c4, k4, e4, -, b4, d4, a4⟩ := Cond.arrayOver_spec (args := args) (first := s) (o := none) (s := s) (idx := []) (h.1 (.arrayOver (.object "java/lang/Object")) (st_Y (by decide +kernel)))
  obtain ⟨c5, h5⟩ := h5
  refine ⟨fun t => if t = 100 then c0 else if t = 101 then c1 else if t = 102 then c2 else if t = 103 then c3 else if t = 104 then c4 else c5, fun t h1 h2 => ?_⟩
  rcases (show t = 100 ∨ t = 101 ∨ t = 102 ∨ t = 103 ∨ t = 104 ∨ t = 105 by omega) with rfl | rfl | rfl | rfl | rfl | rfl
  · exact ⟨st_arr b0 d0, fun _ => a0⟩
  · exact ⟨st_arr b1 d1, fun _ => a1⟩
  · exact ⟨st_arr b2 d2, fun _ => a2⟩
  · exact ⟨st_arr b3 d3, fun _ => a3⟩
  · exact ⟨st_arr b4 d4, fun _ => ⟨k4, p4, b4, d4, e4, a4⟩⟩
  · exact ⟨h5, fun q => absurd q (by decide)⟩
end
