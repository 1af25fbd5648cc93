/-! the start -/
section
variable {args : Array Value} {s : State}
theorem st_str {own tx : String} {k : Nat} (h1 : (Cond.stringRef own k tx).before args s = true) : ∃ a, vk_R own k tx a s := by
  cases hc : s.vm.findClass own with
  | none => simp [Cond.before, Cond.holds, Cond.value, hc] at h1
  | some c =>
    obtain ⟨-, -, -, a, -, -, -, -, -, e⟩ := Cond.stringRef_spec (args := args) (first := s) (o := none) (s := s) (idx := []) hc h1
    exact ⟨a, .of h1 e⟩
end
