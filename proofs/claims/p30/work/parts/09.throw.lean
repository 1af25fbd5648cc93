/-! ===== throw new E("a text") ===== -/
theorem xx_castXX {X : String} {n : Nat} {args : Array Value} {s : State} (h : (Cond.instantiable X n).before args s = true) : (Cond.castable X X).before args s = true := by
  obtain ⟨c, k, hfc, -⟩ := Cond.instantiable_spec h
  simp only [Cond.before, Cond.holds, Cond.value, hfc]
  rw [va_asg]
  rfl
/-- the words of a throw but the one of its own entry -/
def xx_atA (X : String) (names : List String) : List Cond := Bundle.throwableAtoms ++ Bundle.throwableSAtoms ++ Bundle.chainSAtoms X names
def xx_atB (X : String) (names : List String) : List Cond := (xx_atA X names ++ (Bundle.ownAtoms "" 0 X names).drop ((xx_atA X names).length + 1)).filter vx_no
/-- what the tables say of an exception's class, with a text -/
def xx_ex (E : String) : Prop := (Bundle.fit E = true ∧ ∀ n ∈ ["java/lang/RuntimeException", "java/lang/Exception"], Bundle.fit n = true) ∧ Cond.initialized E ∈ xx_gws ∧ Cond.instantiable E 6 ∈ xx_gws ∧
  (∀ w ∈ xx_atB E ["java/lang/RuntimeException", "java/lang/Exception"], w = .castable E E ∨ w ∈ xx_gws ∨ w ∈ xx_nws) ∧ ∀ w ∈ xx_atB E ["java/lang/RuntimeException", "java/lang/Exception"], vx_ot w = true
theorem xx_atS {own E : String} {ic : Nat} {names : List String} {w : Cond} (h : w ∈ vx_atS own ic E names) : w = .methodLink own ic (Bundle.initS E) ∨ w ∈ xx_atB E names := by
  unfold vx_atS at h
  obtain ⟨h1, h2⟩ := List.mem_filter.mp h
  unfold Bundle.ownAtoms at h1
  rcases List.mem_append.mp h1 with h3 | h3
  · exact Or.inr (List.mem_filter.mpr ⟨List.mem_append_left _ h3, h2⟩)
  · rcases List.mem_cons.mp h3 with h4 | h4
    · exact Or.inl h4
    · refine Or.inr (List.mem_filter.mpr ⟨List.mem_append_right _ ?_, h2⟩)
      unfold Bundle.ownAtoms
      rw [show Bundle.throwableAtoms ++ Bundle.throwableSAtoms ++ Bundle.chainSAtoms E names = xx_atA E names from rfl, List.drop_append, List.drop_eq_nil_of_le (by omega), show (xx_atA E names).length + 1 - (xx_atA E names).length = 1 by omega]
      exact h4
section
variable {Y : XY} {M : XM} {l : Launch} {d k n : Nat} {h : XH} {pc : Nat} {ls st : List Value}
theorem sw_throw {ik is ic : Nat} {E tx : String} (O : xx_O Y M l d) (X : xx_ex E) (w : Cond.classLink M.2.2.2.2.1 ik E ∈ xx_gws ∧ Cond.methodLink M.2.2.2.2.1 ic (Bundle.initS E) ∈ xx_gws ∧ (M.2.2.2.2.1, is, tx) ∈ xx_strs)
    (d0 : decode M.2.1 pc = .ok (.new ik, 3)) (d3 : decode M.2.1 (pc + 3) = .ok (.dup, 1)) (d4 : decode M.2.1 (pc + 4) = .ok (.ldc is, 2)) (d6 : decode M.2.1 (pc + 6) = .ok (.invokespecial ic, 3)) (d9 : decode M.2.1 (pc + 9) = .ok (.athrow, 1))
    (hdd : 6 ≤ d) (hc : (st.map fun v => v.category).sum ≤ 8) (hQ : xy_Q Y (.inr E) h) : SW Y (k + 1) (n + 6) h pc ls st := by
  intro ρ ow H locs cells slots lsA r9 T hT Xs
  have hw := O.2.2.2.2.2.1
  have hKK := O.2.2.2.2.2.2.2.1
  have hR := O.2.2.2.2.2.2.2.2.2.2.2.2
  have hgr : (xt_s Y.1).heap.size ≤ H.size := by rw [← hT]; exact Xs.heapGrown
  obtain ⟨sa, hsa⟩ := O.2.2.2.2.2.2.2.2.1.2.1 _ w.2.2
  have hold := hR.2.2.2
  have hsz : (xd_H (xy_D Y)).size ≤ H.size := r9.1.1
  have hS : va_S (fun q => (xd_H (xy_D Y)).size ≤ q) (xt_s Y.1).heap H locs := ⟨hgr, fun q h1 h2 => by rw [r9.1.2.1 q (Nat.not_le.mp h2), hold q (Nat.not_le.mp h2)], fun z hz => r9.2.2.1 z hz⟩
  have hcast := xx_castXX (hw _ X.2.2.1)
  refine vx_throwS (names := ["java/lang/RuntimeException", "java/lang/Exception"]) (A := fun q => (xd_H (xy_D Y)).size ≤ q) (text := tx) O.1 O.2.1 (by rw [O.2.2.2.2.2.2.2.2.2.2.2.1]; exact O.2.2.2.2.2.2.2.2.2.1) O.2.2.2.2.2.2.1 X.1.1 X.1.2 (hw _ w.1) (hw _ X.2.1) hsa (fun w9 h9 => ?_) (fun w9 h9 => ?_)
    (hKK.2.1.2.2.1.kept (fun a h1 _ => hold a h1)) (hKK.2.1.2.2.2.1.kept (fun a h1 _ => hold a h1)) hS r9.L.1 d0 d3 d4 d6 d9 (fun x hx => absurd hx (fun w => hR.2.2.1 E h hQ x w)) ?_ ?_ (by have := r9.2.2.2.1; omega) (by have := r9.2.2.2.2.1; omega) O.2.2.2.2.1 (fun t ha h1 h2 => ?_) r9.2.2.1 (by have := r9.2.2.2.1; omega) (by have := r9.2.2.2.2.1; omega) T hT Xs
  · rcases xx_atS h9 with rfl | h8
    · exact hw _ w.2.1
    · rcases X.2.2.2.1 w9 h8 with rfl | h7 | h7
      · exact hcast
      · exact hw _ h7
      · exact O.2.2.2.2.2.2.2.2.1.use h7
  · rcases List.mem_cons.mp h9 with rfl | h8
    · rfl
    · rcases List.mem_cons.mp h8 with rfl | h7
      · rfl
      · rcases xx_atS h7 with rfl | h6
        · rfl
        · exact X.2.2.2.2 w9 h6
  · show 2 + 3 < (xt_R Y.1).frames
    have h9 : d ≤ (xt_R Y.1).frames := hR.1
    omega
  · rw [xx_cats]
    have h9 : 40 * d ≤ (xt_R Y.1).locals := hR.2.1
    show _ + (13 * (2 + 1) + 43) ≤ (xt_R Y.1).locals
    omega
  · refine ⟨h, ρ, ow, hQ, ?_, r9.2.1⟩
    have S := r9.1
    refine ⟨by omega, fun a ha => by rw [h2 a (by omega)]; exact S.2.1 a ha, fun a r e => ⟨(S.2.2.1 a r e).1, Nat.lt_of_lt_of_le (S.2.2.1 a r e).2 h1⟩, fun r c hr => ⟨(S.2.2.2.1 r c hr).1, (S.2.2.2.1 r c hr).2.kept fun h3 a ha => h2 a ?_⟩, S.2.2.2.2⟩
    rcases ha with rfl | ha | ha
    · rcases (S.2.2.2.1 r c hr).1 with ⟨-, a1, -⟩ | ⟨-, a1⟩
      · have a1 := a1 h3
        omega
      · exact (S.2.2.1 _ _ a1).2
    · exact (S.2.2.1 _ _ ha).2
    · omega
theorem sw_throwW {ik is ic : Nat} {E tx : String} (O : xx_O Y M l d) (X : xx_ex E) (w : Cond.classLink M.2.2.2.2.1 ik E ∈ xx_gws ∧ Cond.methodLink M.2.2.2.2.1 ic (Bundle.initS E) ∈ xx_gws ∧ (M.2.2.2.2.1, is, tx) ∈ xx_strs)
    (d0 : decode M.2.1 pc = .ok (.new ik, 3)) (d3 : decode M.2.1 (pc + 3) = .ok (.dup, 1)) (d4 : decode M.2.1 (pc + 4) = .ok (.ldc_w is, 3)) (d7 : decode M.2.1 (pc + 7) = .ok (.invokespecial ic, 3)) (d10 : decode M.2.1 (pc + 10) = .ok (.athrow, 1))
    (hdd : 6 ≤ d) (hc : (st.map fun v => v.category).sum ≤ 8) (hQ : xy_Q Y (.inr E) h) : SW Y (k + 1) (n + 6) h pc ls st := by
  intro ρ ow H locs cells slots lsA r9 T hT Xs
  have hw := O.2.2.2.2.2.1
  have hKK := O.2.2.2.2.2.2.2.1
  have hR := O.2.2.2.2.2.2.2.2.2.2.2.2
  have hgr : (xt_s Y.1).heap.size ≤ H.size := by rw [← hT]; exact Xs.heapGrown
  obtain ⟨sa, hsa⟩ := O.2.2.2.2.2.2.2.2.1.2.1 _ w.2.2
  have hold := hR.2.2.2
  have hsz : (xd_H (xy_D Y)).size ≤ H.size := r9.1.1
  have hS : va_S (fun q => (xd_H (xy_D Y)).size ≤ q) (xt_s Y.1).heap H locs := ⟨hgr, fun q h1 h2 => by rw [r9.1.2.1 q (Nat.not_le.mp h2), hold q (Nat.not_le.mp h2)], fun z hz => r9.2.2.1 z hz⟩
  have hcast := xx_castXX (hw _ X.2.2.1)
  refine vx_throwSW (names := ["java/lang/RuntimeException", "java/lang/Exception"]) (A := fun q => (xd_H (xy_D Y)).size ≤ q) (text := tx) O.1 O.2.1 (by rw [O.2.2.2.2.2.2.2.2.2.2.2.1]; exact O.2.2.2.2.2.2.2.2.2.1) O.2.2.2.2.2.2.1 X.1.1 X.1.2 (hw _ w.1) (hw _ X.2.1) hsa (fun w9 h9 => ?_) (fun w9 h9 => ?_)
    (hKK.2.1.2.2.1.kept (fun a h1 _ => hold a h1)) (hKK.2.1.2.2.2.1.kept (fun a h1 _ => hold a h1)) hS r9.L.1 d0 d3 d4 d7 d10 (fun x hx => absurd hx (fun w => hR.2.2.1 E h hQ x w)) ?_ ?_ (by have := r9.2.2.2.1; omega) (by have := r9.2.2.2.2.1; omega) O.2.2.2.2.1 (fun t ha h1 h2 => ?_) r9.2.2.1 (by have := r9.2.2.2.1; omega) (by have := r9.2.2.2.2.1; omega) T hT Xs
  · rcases xx_atS h9 with rfl | h8
    · exact hw _ w.2.1
    · rcases X.2.2.2.1 w9 h8 with rfl | h7 | h7
      · exact hcast
      · exact hw _ h7
      · exact O.2.2.2.2.2.2.2.2.1.use h7
  · rcases List.mem_cons.mp h9 with rfl | h8
    · rfl
    · rcases List.mem_cons.mp h8 with rfl | h7
      · rfl
      · rcases xx_atS h7 with rfl | h6
        · rfl
        · exact X.2.2.2.2 w9 h6
  · show 2 + 3 < (xt_R Y.1).frames
    have h9 : d ≤ (xt_R Y.1).frames := hR.1
    omega
  · rw [xx_cats]
    have h9 : 40 * d ≤ (xt_R Y.1).locals := hR.2.1
    show _ + (13 * (2 + 1) + 43) ≤ (xt_R Y.1).locals
    omega
  · refine ⟨h, ρ, ow, hQ, ?_, r9.2.1⟩
    have S := r9.1
    refine ⟨by omega, fun a ha => by rw [h2 a (by omega)]; exact S.2.1 a ha, fun a r e => ⟨(S.2.2.1 a r e).1, Nat.lt_of_lt_of_le (S.2.2.1 a r e).2 h1⟩, fun r c hr => ⟨(S.2.2.2.1 r c hr).1, (S.2.2.2.1 r c hr).2.kept fun h3 a ha => h2 a ?_⟩, S.2.2.2.2⟩
    rcases ha with rfl | ha | ha
    · rcases (S.2.2.2.1 r c hr).1 with ⟨-, a1, -⟩ | ⟨-, a1⟩
      · have a1 := a1 h3
        omega
      · exact (S.2.2.1 _ _ a1).2
    · exact (S.2.2.1 _ _ ha).2
    · omega
end
