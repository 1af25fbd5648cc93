/-! the start -/
section
variable {args : Array Value} {s : State}
theorem st_N (h : stH args s) {D : XD} (hl : ∀ q ∈ xx_lits, vk_R q.1 q.2.1 q.2.2.1 (xd_E D q.2.2.2) s) : xx_N D s := by
  refine ⟨fun w hw => ?_, fun q hq => ?_, hl, fun q hq => ?_⟩
  · have h1 := h.tb w (List.mem_filter.mp hw).1
    have h2 : xx_nest w = true := (List.mem_filter.mp hw).2
    cases w <;> first | exact va_Nw.of rfl h1 | (exact absurd h2 (by simp [xx_nest]))
  · obtain ⟨w, hw, e⟩ := List.mem_filterMap.mp hq
    have h1 := h.tb w hw
    cases w <;> first | (rename_i own k tx; cases Option.some.inj e; exact st_str h1) | (exact absurd e (by simp))
  · rcases List.mem_cons.mp hq with rfl | hq
    · exact va_Nc.of (h.fa (by decide +kernel))
    rcases List.mem_cons.mp hq with rfl | hq
    · exact va_Nc.of (h.fa (by decide +kernel))
    rcases List.mem_cons.mp hq with rfl | hq
    · exact va_Nc.of (h.fa (by decide +kernel))
    · cases hq

end
