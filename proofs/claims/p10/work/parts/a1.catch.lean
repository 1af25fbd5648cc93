/-! ===== methods with handlers ===== -/
section
variable {Y : XY} {M : XM} {l : Launch} {d k n : Nat} {h : XH} {pc : Nat} {ls st : List Value} {ρ : Nat → Nat} {ow : Nat → Option Nat} {H : Heap} {locs : List Loc} {cells slots : Nat} {lsA : Array Slot}
theorem xx_L.storeD {ρ : Nat → Nat} {nL : Nat} {ls : List Value} {lsA : Array Slot} {i : Nat} {V : Value}
    (hl : lv_has lsA nL ((i, V) :: (xx_pr ρ ls).filter (fun q => !(q.1 == i) && !(q.1 + 1 == i && q.2.category == 2)))) : xx_L ρ nL (xx_set ls i xx_d) lsA := by
  refine ⟨hl.1, hl.2.1, fun j w hj hw => ?_⟩
  unfold xx_set at hj
  rw [List.getElem?_set] at hj
  by_cases e : i = j
  · subst e
    simp only [if_true] at hj
    split at hj
    · cases hj
      exact absurd rfl hw
    · cases hj
  · rw [if_neg e] at hj
    obtain ⟨h1, h2⟩ := xx_clr_get hj hw
    refine hl.2.2 (j, xx_v ρ w) (List.mem_cons_of_mem _ (List.mem_filter.mpr ⟨xx_pr_in h1 hw, ?_⟩))
    have e1 : (j == i) = false := by simp; exact fun q => e q.symm
    simp only [e1, Bool.not_false, Bool.true_and, Bool.not_eq_true', Bool.and_eq_false_iff, beq_eq_false_iff_ne, ne_eq]
    by_cases q : j + 1 = i
    · right
      intro c
      rw [xx_v_cat] at c
      exact h2 ⟨q, c⟩
    · left
      exact q
def SWh (Y : XY) (M : XM) (k n : Nat) (h : XH) (hpc : Nat) (ls : List Value) : Prop :=
  (∃ i, decode M.2.1 hpc = .ok (.astore i, 2) ∧ i < M.2.2.1 ∧ SW Y k n h (hpc + 2) (xx_set ls i xx_d) []) ∨ (∃ i : Fin 4, decode M.2.1 hpc = .ok (.astore_n i, 1) ∧ (i : Nat) < M.2.2.1 ∧ SW Y k n h (hpc + 1) (xx_set ls (i : Nat) xx_d) [])
theorem sw_hnd {hpc q : Nat} (O : xx_O Y M l d) (hh : SWh Y M k n h hpc ls) (r : xx_R Y k n h ls [] ρ ow H locs cells slots lsA) : xx_W Y H locs cells slots (F0 (xt_m Y.1) hpc lsA [.ref q]) := by
  rcases hh with ⟨i, hd, hn, kk⟩ | ⟨i, hd, hn, kk⟩
  · exact lv_astore O.1 O.2.1 hd r.L.has (by rw [O.2.2.1]; exact hn) rfl (fun lsB hB => kk ρ ow H locs cells slots lsB (r.lc (xx_L.storeD hB) (xx_set_in r.lcl trivial) (fun _ h9 => absurd h9 List.not_mem_nil)))
  · exact lv_astore_n O.1 O.2.1 hd rfl r.L.has (by rw [O.2.2.1]; exact hn) rfl (fun lsB hB => kk ρ ow H locs cells slots lsB (r.lc (xx_L.storeD hB) (xx_set_in r.lcl trivial) (fun _ h9 => absurd h9 List.not_mem_nil)))
/-- the row of the table that takes E -/
def xx_take (M : XM) (hh : List (Nat × Nat × Nat × Nat)) (pc : Nat) (E : String) (hpc : Nat) : Prop :=
  ∃ (pre : List ExceptionTableEntry) (x : ExceptionTableEntry) (suf : List ExceptionTableEntry), tableOf hh = pre ++ x :: suf ∧ (∀ z ∈ pre, z.catchType ≠ 0 ∧ ∃ nm : String, Cond.classLink M.2.2.2.2.1 z.catchType nm ∈ xx_gws ∧ (E, nm) ∈ xx_ncs) ∧ covers x pc = true ∧ x.catchType ≠ 0 ∧ Cond.classLink M.2.2.2.2.1 x.catchType E ∈ xx_gws ∧ xx_ex E ∧ x.handlerPc = hpc
theorem xx_runC {hh : List (Nat × Nat × Nat × Nat)} {k' n' : Nat} {Q' : XO → XH → Prop} {stk : List Value} {st0 : List Value} {a : Array Value} (O : xx_O Y M l d) (r9 : xx_R Y (k + k') (n + n') h ls stk ρ ow H locs cells slots lsA) (hst : ∀ v ∈ st, xx_in h v)
    (hr : vx_Run (xt_p Y.1) (xt_l Y.1) (xt_e Y.1) (xt_R Y.1) (xt_s Y.1) (xt_m Y.1) (xt_a Y.1) (xt_b Y.1) (xt_h Y.1) (xt_c Y.1) H locs cells slots k' n' (F0 (xt_m Y.1) pc lsA st0) (st.map (xx_v ρ)) (xx_Qc (xy_D Y) ρ h Q' a) (xx_Xc (xy_D Y) ρ h Q') (xx_fr (xy_D Y)))
    (kr : ∀ v h', Q' (.inl v) h' → (∀ r, (h r).isSome = true → (h' r).isSome = true) → SW Y k n h' (pc + 3) ls (v.toList ++ st)) (HT : (xt_c Y.1).exceptionTable.toList = tableOf hh) (kx : ∀ E h', Q' (.inr E) h' → (∀ r, (h r).isSome = true → (h' r).isSome = true) → ∃ hpc, xx_take M hh pc E hpc ∧ SWh Y M k n h' hpc ls) : xx_W Y H locs cells slots (F0 (xt_m Y.1) pc lsA st0) := by
  intro T hT X
  have hloc : ∀ L : List Loc, (∀ q ∈ L, xx_fr (xy_D Y) q.base) → ∀ z ∈ locs ++ L, (xd_H (xy_D Y)).size ≤ z.base := fun L hL z hz => (List.mem_append.mp hz).elim (r9.2.2.1 z) (hL z)
  rcases hr T hT X with ⟨v, st₀, t, T', L, h0, X', hL, e1, e2, ⟨v', h', ρ', ow', hv, hq, hS, hA, hin⟩, go⟩ | ⟨q, st₀, t, T', L, E, ce, h0, X', hL, e1, e2, ⟨h', ρ', ow', hq, hS, hA⟩, hce, hcv, hcl, go⟩
  · cases hv
    have hρ : ∀ a, (h a).isSome = true → ρ' a = ρ a := fun a ha => (hA a ha).2
    have hup : ∀ v, xx_in h v → xx_in h' v := fun v hv => by
      cases v with
      | ref a => exact (hA a hv).1
      | _ => exact trivial
    have R1 : xx_R Y k n h' ls (v'.toList ++ st) ρ' ow' T'.heap (locs ++ L) (cells + k') (slots + n') lsA := by
      refine ⟨by rw [e1]; exact hS, fun r hr => ?_, hloc L hL, ?_, ?_, r9.L.names hρ r9.lcl, fun v hv => hup v (r9.lcl v hv), fun v hv => ?_⟩
      · have h2 := r9.2.1 r hr
        exact ⟨(hA r h2.1).1, by rw [(hA r h2.1).2]; exact h2.2⟩
      · have := r9.2.2.2.1
        omega
      · have := r9.2.2.2.2.1
        omega
      · rcases List.mem_append.mp hv with h3 | h3
        · exact hin v (by cases v' <;> simp at h3; rw [h3])
        · exact hup v (hst v h3)
    have k1 := kr v' h' hq (fun r hr => (hA r hr).1) ρ' ow' T'.heap (locs ++ L) (cells + k') (slots + n') lsA R1 T' rfl X'
    obtain ⟨t2, a1, b1⟩ := k1
    refine ⟨t2, go t2 ?_, b1⟩
    rw [show (v'.toList ++ st).map (xx_v ρ') = (v'.map (xx_v ρ')).toList ++ st.map (xx_v ρ) by rw [List.map_append, xx_map_eq hρ hst]; cases v' <;> rfl] at a1
    exact a1
  · have hρ : ∀ a, (h a).isSome = true → ρ' a = ρ a := fun a ha => (hA a ha).2
    have hup : ∀ v, xx_in h v → xx_in h' v := fun v hv => by
      cases v with
      | ref a => exact (hA a hv).1
      | _ => exact trivial
    obtain ⟨hpc, ⟨pre, x, suf, u1, u2, u3, u4, u5, u6, rfl⟩, hnd⟩ := kx E h' hq (fun r hr => (hA r hr).1)
    have R1 : xx_R Y k n h' ls [] ρ' ow' T'.heap (locs ++ L) (cells + k') (slots + n') lsA := by
      refine ⟨by rw [e1]; exact hS, fun r hr => ?_, hloc L hL, ?_, ?_, r9.L.names hρ r9.lcl, fun v hv => hup v (r9.lcl v hv), fun v hv => absurd hv List.not_mem_nil⟩
      · have h2 := r9.2.1 r hr
        exact ⟨(hA r h2.1).1, by rw [(hA r h2.1).2]; exact h2.2⟩
      · have := r9.2.2.2.1
        omega
      · have := r9.2.2.2.2.1
        omega
    have hw := O.2.2.2.2.2.1
    have hx := vx_catch (p := xt_p Y.1) (l := xt_l Y.1) (e := xt_e Y.1) (R := xt_R Y.1) (s := xt_s Y.1) (m := xt_m Y.1) (args := xt_a Y.1) (below := xt_b Y.1) (meth := xt_h Y.1) (c := xt_c Y.1) (H := T'.heap) (locs := locs ++ L) (cells := cells + k') (slots := slots + n') (ls := lsA) (rest := st.map (xx_v ρ)) (pc := pc) (own := M.2.2.2.2.1) (name := E) (E := E) (ce := ce) (q := q) (Q := xx_Q Y)
      O.2.2.2.2.2.2.1 pre x suf (HT.trans u1) (fun z hz => .inr ⟨(u2 z hz).1, (u2 z hz).2.imp fun nm hn => ⟨hw _ hn.1, O.2.2.2.2.2.2.2.2.1.2.2.2 _ hn.2⟩⟩) u3 u4 (hw _ u5) (xx_castXX (hw _ u6.2.2.1)) (by rw [e1]; exact hce) hcv hcl (sw_hnd O hnd R1)
    obtain ⟨t2, a1, b1⟩ := hx T' rfl X'
    exact ⟨t2, go.trans a1, b1⟩
theorem sw_callVc {hh : List (Nat × Nat × Nat × Nat)} {M' : XM} {d' k' n' idx ci N b : Nat} {f : Nat → Value} {C : String} {T : u_T} {ty : Nat → FieldType} {as stk : List Value} {Q' : XO → XH → Prop} (O : xx_O Y M l d) (hM : XMet l M' d' k' n' (.ref b :: as) h Q') (E : xx_ce M') (hl : xx_ml M.2.2.2.2.1 idx M'.1) (hsel : Cond.instanceMethod M'.1 ∈ xx_gws ∧ Cond.selects M'.1.cls M'.1 M'.1 ∈ xx_gws)
    (K : xx_cl ci C T N ty) (hC : C = M'.1.cls) (hb : h b = some (ci, N, f)) (hd : decode M.2.1 pc = .ok (.invokevirtual idx, 3)) (hdd : d' + 1 ≤ d) (hn : as.length = M'.2.2.2.2.2) (hs : stk = as.reverse ++ .ref b :: st) (hc : (st.map fun v => v.category).sum ≤ 8)
    (kr : ∀ v h', Q' (.inl v) h' → (∀ r, (h r).isSome = true → (h' r).isSome = true) → SW Y k n h' (pc + 3) ls (v.toList ++ st)) (HT : (xt_c Y.1).exceptionTable.toList = tableOf hh) (kx : ∀ E h', Q' (.inr E) h' → (∀ r, (h r).isSome = true → (h' r).isSome = true) → ∃ hpc, xx_take M hh pc E hpc ∧ SWh Y M k n h' hpc ls) : SW Y (k + k') (n + n') h pc ls stk := by
  subst hs
  intro ρ ow H locs cells slots lsA r9
  obtain ⟨⟨cell, q1, q2, q3, q4⟩, hS, hfc, -⟩ := r9.obj O K hb
  have hst : ∀ v ∈ st, xx_in h v := fun v hv => r9.stk v (List.mem_append_right _ (List.mem_cons_of_mem _ hv))
  have has : ∀ v ∈ (Value.ref b :: as), xx_in h v := fun v hv => by
    rcases List.mem_cons.mp hv with rfl | hv
    · exact r9.stk _ (List.mem_append_right _ List.mem_cons_self)
    · exact r9.stk v (List.mem_append_left _ (List.mem_reverse.mpr hv))
  have S : CallFix (xt_p Y.1) (xt_m Y.1) (xt_c Y.1) M.2.1 (xt_c Y.1).maxLocals (xt_s Y.1) (xt_a Y.1) xx_gws M.2.2.2.2.1 := ⟨O.1, O.2.1, rfl, O.2.2.2.2.2.2.1, O.2.2.2.2.2.1⟩
  have hM' := hM (xy_D Y) ρ ow
  rw [← O.2.2.2.2.2.2.2.2.2.2.2.1] at hM'
  have hp : PreV (xt_s Y.1) H M'.1.cls (ρ b) (xx_Pc (xy_D Y) ρ ow h (.ref b :: as)) (as.map (xx_v ρ)) := ⟨xx_blind, ⟨cell, q1, q3.1, by rw [q2, ← hC]; exact hfc⟩, fun U hU hW => ⟨rfl, xx_K.moved hW.alike O.2.2.2.2.2.2.2.1, xx_N.warm hW O.2.2.2.2.2.2.2.2.1, by rw [hU]; exact r9.1, has⟩⟩
  have hw := O.2.2.2.2.2.1
  refine xx_runC O r9 hst (a := (Value.ref (ρ b) :: as.map (xx_v ρ)).toArray) ?_ kr HT kx
  rcases hl with hl | ⟨host, hl⟩
  · exact vx_runV S hM' ⟨xx_callB O E hdd hl, hw _ hsel.1, hw _ hsel.2⟩ hp rfl (by rw [List.length_map]; exact hn) r9.L.1 xx_stk (lv_room (by rw [xx_cats]; exact hc)) hd (by have := r9.2.2.2.1; have := r9.2.2.2.2.1; omega)
  · exact vx_runVN S hM' ⟨xx_callN O E hdd hl, hw _ hsel.1, hw _ hsel.2⟩ hp rfl (by rw [List.length_map]; exact hn) r9.L.1 xx_stk (lv_room (by rw [xx_cats]; exact hc)) hd (by have := r9.2.2.2.1; have := r9.2.2.2.2.1; omega)
end
abbrev xx_wsH (M : XM) (hh : List (Nat × Nat × Nat × Nat)) : List Cond := Cond.codeWith M.1 M.2.1 M.2.2.1 M.2.2.2.1 hh :: xx_gws
/-- a contract of a method with handlers -/
def XMetH (l : Launch) (M : XM) (hh : List (Nat × Nat × Nat × Nat)) (d k n : Nat) (as : List Value) (h : XH) (Q : XO → XH → Prop) : Prop :=
  ∀ (D : XD) (ρ : Nat → Nat) (ow : Nat → Option Nat), vx_Met l M.1 (xx_wsH M hh) (xx_rm d k n) (xx_Pc D ρ ow h as) (xx_Qc D ρ h Q) (xx_Xc D ρ h Q) k n (xx_fr D)
theorem XMetH.of {hh : List (Nat × Nat × Nat × Nat)} {l : Launch} {M : XM} {d k n : Nat} {as : List Value} {h : XH} {Q : XO → XH → Prop} (hl : l.stackTraces = false) (hy : plainName M.1.cls = true) (hown : M.1.cls = M.2.2.2.2.1) (hlen : (lg_sl as).length ≤ M.2.2.1)
    (hX : ∀ E g, ¬ Q (.inr E) g) (body : ∀ Y : XY, xx_O Y M l d → (xt_c Y.1).exceptionTable.toList = tableOf hh → xy_h Y = h → xy_Q Y = Q → SW Y k n h 0 (xx_ls as M.2.2.1) []) : XMetH l M hh d k n as h Q := by
  intro D ρ ow
  refine vx_ofWH (hh := hh) (cc := M.2.1) (maxL := M.2.2.1) (ret := M.2.2.2.1) hy rfl ?_
  intro p e s m args below meth c s₁ B hml hv
  obtain ⟨rfl, hK, hN, hS, hin⟩ := hv
  have hts := atoms_spec (ws := xx_wsH M hh) B.pre
  have hlen' : (lg_sl (as.map (xx_v ρ))).length ≤ M.2.2.1 := by
    have e : ∀ vs : List Value, (lg_sl (vs.map (xx_v ρ))).length = (lg_sl vs).length := by
      intro vs
      induction vs with
      | nil => rfl
      | cons v t ih =>
        simp only [lg_sl, List.map_cons, List.flatMap_cons, List.length_append, xx_v_cat] at ih ⊢
        rw [ih]
        split <;> rfl
    rw [e]
    exact hlen
  have hx := body ((p, l, e, (headSpec (xx_wsH M hh) (xx_rm d k n)).room, s, m, (as.map (xx_v ρ)).toArray, below, meth, c), D, ρ, h, Q)
    ⟨B.exec, B.bytes, hml, B.returns, B.notSynchronized, fun w hw => hts w (List.mem_cons_of_mem _ hw), by rw [← hown]; exact findClass_of_methodNamed B.named, hK, hN, hl, (name_of_methodNamed B.named B.method).1, rfl, Nat.le_refl _, Nat.le_refl _, fun E g hE => absurd hE (hX E g), hS.2.1⟩ (vx_table (x := M.1) B (hts _ List.mem_cons_self)) rfl rfl
  have hent := lv_entry (as.map (xx_v ρ)) (n := M.2.2.1) hlen'
  rw [lg_entry_eq]
  refine hx ρ ow s.heap [] 0 0 _ ⟨hS, fun r hr => ⟨hr, rfl⟩, fun z hz => absurd hz List.not_mem_nil, ?_, ?_, ?_, ?_, fun v hv => absurd hv List.not_mem_nil⟩
  · show 0 + k ≤ k
    omega
  · show 0 + n ≤ n
    omega
  · show xx_L ρ c.maxLocals _ _
    rw [hml]
    exact xx_L.entry hent
  · intro v hv
    unfold xx_ls at hv
    rcases List.mem_append.mp hv with h1 | h1
    · have : ∀ vs : List Value, (∀ w ∈ vs, xx_in h w) → ∀ w ∈ xx_lay vs, xx_in h w := by
        intro vs
        induction vs with
        | nil => intro _ w hw; cases hw
        | cons u t ih =>
          intro hu w hw
          unfold xx_lay at hw
          split at hw
          · rcases List.mem_cons.mp hw with rfl | hw
            · exact hu _ List.mem_cons_self
            · rcases List.mem_cons.mp hw with rfl | hw
              · exact trivial
              · exact ih (fun z hz => hu z (List.mem_cons_of_mem _ hz)) w hw
          · rcases List.mem_cons.mp hw with rfl | hw
            · exact hu _ List.mem_cons_self
            · exact ih (fun z hz => hu z (List.mem_cons_of_mem _ hz)) w hw
      exact this as hin v h1
    · rw [(List.mem_replicate.mp h1).2]
      exact trivial

section
variable {Y : XY} {M : XM} {l : Launch} {d k n : Nat} {h : XH} {pc : Nat} {ls st : List Value} {ρ : Nat → Nat} {ow : Nat → Option Nat} {H : Heap} {locs : List Loc} {cells slots : Nat} {lsA : Array Slot}
def xx_ceH (M' : XM) (hh : List (Nat × Nat × Nat × Nat)) : Prop :=
  Cond.codeWith M'.1 M'.2.1 M'.2.2.1 M'.2.2.2.1 hh ∈ xx_gws ∧ Cond.initialized M'.1.cls ∈ xx_gws ∧ (M'.1.cls ≠ "java/lang/invoke/MethodHandle" ∧ M'.1.cls ≠ "java/lang/invoke/VarHandle") ∧ (parseMethodDescriptor M'.1.desc).map (fun d => d.parameters.length) = some M'.2.2.2.2.2 ∧ M'.2.2.1 ≤ 21
theorem sw_callSH {M' : XM} {hh : List (Nat × Nat × Nat × Nat)} {d' k' n' idx : Nat} {as stk : List Value} {v : Option Value} {h2 : XH} (O : xx_O Y M l d) (hM : XMetH l M' hh d' k' n' as h (fun o g => o = .inl v ∧ g = h2)) (E : xx_ceH M' hh) (hl2 : Cond.methodLink M.2.2.2.2.1 idx M'.1 ∈ xx_gws) (hst0 : Cond.static M'.1 ∈ xx_gws)
    (hd : decode M.2.1 pc = .ok (.invokestatic idx, 3)) (hdd : d' + 1 ≤ d) (hn : as.length = M'.2.2.2.2.2) (hs : stk = as.reverse ++ st) (hc : (st.map fun v => v.category).sum ≤ 8)
    {st2 : List Value} (h2s : v.toList ++ st = st2) (kk : SW Y k n h2 (pc + 3) ls st2) : SW Y (k + k') (n + n') h pc ls stk := by
  subst hs
  intro ρ ow H locs cells slots lsA r9
  have hst : ∀ v ∈ st, xx_in h v := fun v hv => r9.stk v (List.mem_append_right _ hv)
  have has : ∀ v ∈ as, xx_in h v := fun v hv => r9.stk v (List.mem_append_left _ (List.mem_reverse.mpr hv))
  have S : CallFix (xt_p Y.1) (xt_m Y.1) (xt_c Y.1) M.2.1 (xt_c Y.1).maxLocals (xt_s Y.1) (xt_a Y.1) xx_gws M.2.2.2.2.1 := ⟨O.1, O.2.1, rfl, O.2.2.2.2.2.2.1, O.2.2.2.2.2.1⟩
  have hM' := hM (xy_D Y) ρ ow
  rw [← O.2.2.2.2.2.2.2.2.2.2.2.1] at hM'
  have hp : PreS (xt_s Y.1) H (xx_Pc (xy_D Y) ρ ow h as) (as.map (xx_v ρ)) := ⟨xx_blind, fun U hU hW => ⟨rfl, xx_K.moved hW.alike O.2.2.2.2.2.2.2.1, xx_N.warm hW O.2.2.2.2.2.2.2.2.1, by rw [hU]; exact r9.1, has⟩⟩
  have hw := O.2.2.2.2.2.1
  have hR := O.2.2.2.2.2.2.2.2.2.2.2.2
  have hlo := E.2.2.2.2
  have e9 : (as.reverse ++ st).map (xx_v ρ) = (as.map (xx_v ρ)).reverse ++ st.map (xx_v ρ) := by rw [List.map_append, List.map_reverse]
  have hws : ∀ w ∈ xx_wsH M' hh, ∀ (a' : Array Value) (U : State), (xt_s Y.1).WarmedH U.vm → w.before a' U = true := by
    have hg : ∀ w ∈ xx_gws, ∀ (a' : Array Value) (U : State), (xt_s Y.1).WarmedH U.vm → w.before a' U = true := fun w hw a' U hW => word_at hW (good_of_word (List.mem_filter.mp hw).2) (O.2.2.2.2.2.1 w hw)
    intro w hw
    rcases List.mem_cons.mp hw with rfl | h1
    · exact hg _ E.1
    · exact hg _ h1
  refine xx_run (Q' := fun o g => o = .inl v ∧ g = h2) O r9 hst (a := (as.map (xx_v ρ)).toArray) ?_ (fun v' h' q _ => by obtain ⟨e1, rfl⟩ := q; cases e1; rw [h2s]; exact kk) (fun E h' q => by obtain ⟨e1, -⟩ := q; cases e1)
  refine vx_runSX (hh := hh) (n := M'.2.2.2.2.2) S hM' ⟨⟨rfl, rfl, Nat.le_trans hdd hR.1, ?_, hws, List.mem_cons_self⟩, hw _ E.1, hw _ E.2.1, E.2.2.1, fun sig h => ?_, hw _ hl2, hw _ hst0⟩ hp rfl (by rw [List.length_map]; exact hn) r9.L.1 e9 (lv_room (by rw [xx_cats]; exact hc)) hd (by have := r9.2.2.2.1; have := r9.2.2.2.2.1; omega)
  · refine Nat.le_trans ?_ hR.2.1
    show 8 + (M'.2.2.1 + 11) + 40 * d' ≤ 40 * d
    omega
  · have h2 := E.2.2.2.1
    rw [h] at h2
    exact (Option.some.inj h2).symm
end
