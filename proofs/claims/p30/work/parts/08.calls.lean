/-! ===== ends and calls ===== -/
def xx_cls (h : XH) : Prop := ∀ r c j, h r = some c → j < c.2.1 → xx_in h (c.2.2 j)
def xx_sub (h' h : XH) : Prop := ∀ r c, h' r = some c → h r = some c
section
variable {Y : XY} {M : XM} {l : Launch} {d k n : Nat} {h : XH} {pc : Nat} {ls st : List Value} {ρ : Nat → Nat} {ow : Nat → Option Nat} {H : Heap} {locs : List Loc} {cells slots : Nat} {lsA : Array Slot}
theorem xx_end {h' : XH} {v : Option Value} {st' : List Value} (r9 : xx_R Y k n h ls st' ρ ow H locs cells slots lsA) (hs : xx_sub h' h) (hc : xx_cls h') (hdom : ∀ r, (xy_h Y r).isSome = true → (h' r).isSome = true) (hv : ∀ w, v = some w → xx_in h' w) (hQ : xy_Q Y (.inl v) h') (t : State) (ht : t.heap = H) :
    xx_Qc (xy_D Y) (xy_ρ Y) (xy_h Y) (xy_Q Y) (xt_a Y.1) (xt_s Y.1) (.returned (v.map (xx_v ρ))) t :=
  ⟨v, h', ρ, ow, rfl, hQ, by rw [ht]; exact r9.1.drop hs hc, fun r hr => ⟨hdom r hr, (r9.2.1 r hr).2⟩, hv⟩
theorem xx_room1 (r9 : xx_R Y k n h ls st ρ ow H locs cells slots lsA) : cells ≤ (xt_R Y.1).cells ∧ slots ≤ (xt_R Y.1).slots := by
  have h1 := r9.2.2.2.1
  have h2 := r9.2.2.2.2.1
  omega
theorem sw_iretD {x : Int32} {ty : FieldType} {h' : XH} (O : xx_O Y M l d) (hd : decode M.2.1 pc = .ok (.ireturn, 1)) (hr : M.2.2.2.1 = some ty) (hn : narrow ty (.int x) = .int x) (hs : xx_sub h' h) (hc : xx_cls h') (hdom : ∀ r, (xy_h Y r).isSome = true → (h' r).isSome = true) (hQ : xy_Q Y (.inl (some (.int x))) h') : SW Y k n h pc ls [.int x] := by
  intro ρ ow H locs cells slots lsA r9
  refine W.widen (xx_room1 r9).1 (xx_room1 r9).2 (vx_ret (W.zret O.1 O.2.1 (O.2.2.2.1.trans hr) hn (fun t ht _ => xx_end (v := some (.int x)) r9 hs hc hdom (fun w hw => ?_) hQ t ht) r9.2.2.1 hd O.2.2.2.2.1))
  cases hw
  exact trivial
theorem sw_lretD {x : Int64} {h' : XH} (O : xx_O Y M l d) (hd : decode M.2.1 pc = .ok (.lreturn, 1)) (hr : M.2.2.2.1 = some .long) (hs : xx_sub h' h) (hc : xx_cls h') (hdom : ∀ r, (xy_h Y r).isSome = true → (h' r).isSome = true) (hQ : xy_Q Y (.inl (some (.long x))) h') : SW Y k n h pc ls [.long x] := by
  intro ρ ow H locs cells slots lsA r9
  refine W.widen (xx_room1 r9).1 (xx_room1 r9).2 (vx_ret (W.lret O.1 O.2.1 (O.2.2.2.1.trans hr) (fun t ht _ => xx_end (v := some (.long x)) r9 hs hc hdom (fun w hw => ?_) hQ t ht) r9.2.2.1 hd O.2.2.2.2.1))
  cases hw
  exact trivial
theorem sw_retD {h' : XH} (O : xx_O Y M l d) (hd : decode M.2.1 pc = .ok (.return_, 1)) (hr : M.2.2.2.1 = none) (hs : xx_sub h' h) (hc : xx_cls h') (hdom : ∀ r, (xy_h Y r).isSome = true → (h' r).isSome = true) (hQ : xy_Q Y (.inl none) h') : SW Y k n h pc ls [] := by
  intro ρ ow H locs cells slots lsA r9
  refine W.widen (xx_room1 r9).1 (xx_room1 r9).2 (vx_ret (W.vret O.1 O.2.1 (O.2.2.2.1.trans hr) (fun t ht _ => xx_end (v := none) r9 hs hc hdom (fun w hw => ?_) hQ t ht) r9.2.2.1 hd O.2.2.2.2.1))
  cases hw
theorem sw_aretD {x : Nat} {rt : FieldType} {h' : XH} (O : xx_O Y M l d) (hd : decode M.2.1 pc = .ok (.areturn, 1)) (hr : M.2.2.2.1 = some rt) (hrt : (∃ n, rt = .object n) ∨ ∃ t, rt = .array t) (hs : xx_sub h' h) (hc : xx_cls h') (hdom : ∀ r, (xy_h Y r).isSome = true → (h' r).isSome = true) (hx : (h' x).isSome = true) (hQ : xy_Q Y (.inl (some (.ref x))) h') : SW Y k n h pc ls [.ref x] := by
  intro ρ ow H locs cells slots lsA r9
  refine W.widen (xx_room1 r9).1 (xx_room1 r9).2 (vx_ret (W.aret O.1 O.2.1 (O.2.2.2.1.trans hr) hrt (Or.inr ⟨_, rfl⟩) (fun t ht _ => xx_end (v := some (.ref x)) r9 hs hc hdom (fun w hw => ?_) hQ t ht) r9.2.2.1 hd O.2.2.2.2.1))
  cases hw
  exact hx
/-! nothing is dropped -/
theorem sw_iret {x : Int32} {ty : FieldType} (O : xx_O Y M l d) (hd : decode M.2.1 pc = .ok (.ireturn, 1)) (hr : M.2.2.2.1 = some ty) (hn : narrow ty (.int x) = .int x) (hQ : xy_Q Y (.inl (some (.int x))) h) : SW Y k n h pc ls [.int x] := by
  intro ρ ow H locs cells slots lsA r9
  exact sw_iretD O hd hr hn (fun _ _ e => e) r9.1.2.2.2.2 (fun r hr => (r9.2.1 r hr).1) hQ ρ ow H locs cells slots lsA r9
theorem sw_lret {x : Int64} (O : xx_O Y M l d) (hd : decode M.2.1 pc = .ok (.lreturn, 1)) (hr : M.2.2.2.1 = some .long) (hQ : xy_Q Y (.inl (some (.long x))) h) : SW Y k n h pc ls [.long x] := by
  intro ρ ow H locs cells slots lsA r9
  exact sw_lretD O hd hr (fun _ _ e => e) r9.1.2.2.2.2 (fun r hr => (r9.2.1 r hr).1) hQ ρ ow H locs cells slots lsA r9
theorem sw_ret (O : xx_O Y M l d) (hd : decode M.2.1 pc = .ok (.return_, 1)) (hr : M.2.2.2.1 = none) (hQ : xy_Q Y (.inl none) h) : SW Y k n h pc ls [] := by
  intro ρ ow H locs cells slots lsA r9
  exact sw_retD O hd hr (fun _ _ e => e) r9.1.2.2.2.2 (fun r hr => (r9.2.1 r hr).1) hQ ρ ow H locs cells slots lsA r9
theorem sw_aret {x : Nat} {rt : FieldType} (O : xx_O Y M l d) (hd : decode M.2.1 pc = .ok (.areturn, 1)) (hr : M.2.2.2.1 = some rt) (hrt : (∃ n, rt = .object n) ∨ ∃ t, rt = .array t) (hQ : xy_Q Y (.inl (some (.ref x))) h) : SW Y k n h pc ls [.ref x] := by
  intro ρ ow H locs cells slots lsA r9
  exact sw_aretD O hd hr hrt (fun _ _ e => e) r9.1.2.2.2.2 (fun r hr => (r9.2.1 r hr).1) (xx_h0 r9.stk) hQ ρ ow H locs cells slots lsA r9
theorem xx_blind {D : XD} {as : List Value} {h1 : XH} : FrameBlind (xx_Pc D ρ ow h1 as) := fun a U g mk q => ⟨q.1, xx_K.moved (u := U) (U := U.calling g mk a) (Vm.Alike.refl U.vm) q.2.1, xx_N.same (s := U) rfl q.2.2.1, q.2.2.2⟩
theorem xx_ws_at {M' : XM} (O : xx_O Y M l d) (hcode : Cond.code M'.1 M'.2.1 M'.2.2.1 M'.2.2.2.1 ∈ xx_gws) : ∀ w ∈ xx_ws M', ∀ (a' : Array Value) (U : State), (xt_s Y.1).WarmedH U.vm → w.before a' U = true := by
  have hg : ∀ w ∈ xx_gws, ∀ (a' : Array Value) (U : State), (xt_s Y.1).WarmedH U.vm → w.before a' U = true := fun w hw a' U hW => word_at hW (good_of_word (List.mem_filter.mp hw).2) (O.2.2.2.2.2.1 w hw)
  intro w hw
  rcases List.mem_cons.mp hw with rfl | h1
  · exact hg _ hcode
  · exact hg _ h1
/-- what the tables say of a callee -/
def xx_ce (M' : XM) : Prop :=
  Cond.code M'.1 M'.2.1 M'.2.2.1 M'.2.2.2.1 ∈ xx_gws ∧ Cond.initialized M'.1.cls ∈ xx_gws ∧ (M'.1.cls ≠ "java/lang/invoke/MethodHandle" ∧ M'.1.cls ≠ "java/lang/invoke/VarHandle") ∧ (parseMethodDescriptor M'.1.desc).map (fun d => d.parameters.length) = some M'.2.2.2.2.2 ∧ M'.2.2.1 ≤ 21
/-- a method's entry in a class's pool -/
def xx_ml (own : String) (idx : Nat) (y : MethodName) : Prop := Cond.methodLink own idx y ∈ xx_gws ∨ ∃ host, Cond.methodLinkNest own idx y host ∈ xx_nws
theorem xx_ce.par {M' : XM} (E : xx_ce M') : ∀ sig, parseMethodDescriptor M'.1.desc = some sig → M'.2.2.2.2.2 = sig.parameters.length := fun sig h => by
  have h2 := E.2.2.2.1
  rw [h] at h2
  exact (Option.some.inj h2).symm
theorem xx_callB {M' : XM} {d' k' n' idx : Nat} (O : xx_O Y M l d) (E : xx_ce M') (hd : d' + 1 ≤ d) (hl : Cond.methodLink M.2.2.2.2.1 idx M'.1 ∈ xx_gws) :
    CallB (xt_R Y.1) (xt_s Y.1) (xt_a Y.1) M.2.2.2.2.1 idx M'.1 M'.2.1 M'.2.2.1 M'.2.2.2.1 (xx_ws M') (xx_rm d' k' n') k' n' M'.2.2.2.2.2 := by
  have hw := O.2.2.2.2.2.1
  have hR := O.2.2.2.2.2.2.2.2.2.2.2.2
  have := E.2.2.2.2
  refine ⟨rfl, rfl, ?_, ?_, xx_ws_at O E.1, List.mem_cons_self, hw _ E.1, hw _ E.2.1, E.2.2.1, E.par, hw _ hl⟩
  · exact Nat.le_trans hd hR.1
  · refine Nat.le_trans ?_ hR.2.1
    show 8 + (M'.2.2.1 + 11) + 40 * d' ≤ 40 * d
    omega
theorem xx_callN {M' : XM} {d' k' n' idx : Nat} {host : String} (O : xx_O Y M l d) (E : xx_ce M') (hd : d' + 1 ≤ d) (hl : Cond.methodLinkNest M.2.2.2.2.1 idx M'.1 host ∈ xx_nws) :
    va_CN (xt_R Y.1) (xt_s Y.1) (xt_a Y.1) M.2.2.2.2.1 idx M'.1 host M'.2.1 M'.2.2.1 M'.2.2.2.1 (xx_ws M') (xx_rm d' k' n') k' n' M'.2.2.2.2.2 := by
  have hw := O.2.2.2.2.2.1
  have hR := O.2.2.2.2.2.2.2.2.2.2.2.2
  have := E.2.2.2.2
  refine ⟨⟨rfl, rfl, ?_, ?_, xx_ws_at O E.1, List.mem_cons_self⟩, hw _ E.1, hw _ E.2.1, E.2.2.1, E.par, va_Nw.use rfl (O.2.2.2.2.2.2.2.2.1.1 _ hl)⟩
  · exact Nat.le_trans hd hR.1
  · refine Nat.le_trans ?_ hR.2.1
    show 8 + (M'.2.2.1 + 11) + 40 * d' ≤ 40 * d
    omega
/-- behind a call -/
theorem xx_run {k' n' : Nat} {Q' : XO → XH → Prop} {stk : List Value} {st0 : List Value} {a : Array Value} (O : xx_O Y M l d) (r9 : xx_R Y (k + k') (n + n') h ls stk ρ ow H locs cells slots lsA) (hst : ∀ v ∈ st, xx_in h v)
    (hr : vx_Run (xt_p Y.1) (xt_l Y.1) (xt_e Y.1) (xt_R Y.1) (xt_s Y.1) (xt_m Y.1) (xt_a Y.1) (xt_b Y.1) (xt_h Y.1) (xt_c Y.1) H locs cells slots k' n' (F0 (xt_m Y.1) pc lsA st0) (st.map (xx_v ρ)) (xx_Qc (xy_D Y) ρ h Q' a) (xx_Xc (xy_D Y) ρ h Q') (xx_fr (xy_D Y)))
    (kr : ∀ v h', Q' (.inl v) h' → (∀ r, (h r).isSome = true → (h' r).isSome = true) → SW Y k n h' (pc + 3) ls (v.toList ++ st)) (kx : ∀ E h', Q' (.inr E) h' → xy_Q Y (.inr E) h') : xx_W Y H locs cells slots (F0 (xt_m Y.1) pc lsA st0) := by
  intro T hT X
  have hloc : ∀ L : List Loc, (∀ q ∈ L, xx_fr (xy_D Y) q.base) → ∀ z ∈ locs ++ L, (xd_H (xy_D Y)).size ≤ z.base := fun L hL z hz => (List.mem_append.mp hz).elim (r9.2.2.1 z) (hL z)
  rcases hr T hT X with ⟨v, st₀, t, T', L, h0, X', hL, e1, e2, ⟨v', h', ρ', ow', hv, hq, hS, hA, hin⟩, go⟩ | ⟨q, st₀, t, T', L, E, ce, h0, X', hL, e1, e2, ⟨h', ρ', ow', hq, hS, hA⟩, hce, hcv, hcl, go⟩
  · cases hv
    have hρ : ∀ a, (h a).isSome = true → ρ' a = ρ a := fun a ha => (hA a ha).2
    have hup : ∀ v, xx_in h v → xx_in h' v := fun v hv => by
      cases v with
      | ref a => exact (hA a hv).1
      | _ => exact trivial
    have R1 : xx_R Y k n h' ls (v'.toList ++ st) ρ' ow' T'.heap (locs ++ L) (cells + k') (slots + n') lsA := by
      refine ⟨by rw [e1]; exact hS, fun r hr => ?_, hloc L hL, ?_, ?_, r9.L.names hρ r9.lcl, fun v hv => hup v (r9.lcl v hv), fun v hv => ?_⟩
      · have h2 := r9.2.1 r hr
        exact ⟨(hA r h2.1).1, by rw [(hA r h2.1).2]; exact h2.2⟩
      · have := r9.2.2.2.1
        omega
      · have := r9.2.2.2.2.1
        omega
      · rcases List.mem_append.mp hv with h3 | h3
        · exact hin v (by cases v' <;> simp at h3; rw [h3])
        · exact hup v (hst v h3)
    have k1 := kr v' h' hq (fun r hr => (hA r hr).1) ρ' ow' T'.heap (locs ++ L) (cells + k') (slots + n') lsA R1 T' rfl X'
    obtain ⟨t2, a1, b1⟩ := k1
    refine ⟨t2, go t2 ?_, b1⟩
    rw [show (v'.toList ++ st).map (xx_v ρ') = (v'.map (xx_v ρ')).toList ++ st.map (xx_v ρ) by rw [List.map_append, xx_map_eq hρ hst]; cases v' <;> rfl] at a1
    exact a1
  · have hx := vx_out (p := xt_p Y.1) (l := xt_l Y.1) (e := xt_e Y.1) (R := xt_R Y.1) (s := xt_s Y.1) (m := xt_m Y.1) (args := xt_a Y.1) (below := xt_b Y.1) (meth := xt_h Y.1) (c := xt_c Y.1) (H := T'.heap) (locs := locs ++ L) (cells := cells + k') (slots := slots + n') (ls := lsA) (rest := st.map (xx_v ρ)) (free := xx_fr (xy_D Y)) (Qc := xx_Qc (xy_D Y) (xy_ρ Y) (xy_h Y) (xy_Q Y)) (XC := xx_Xc (xy_D Y) (xy_ρ Y) (xy_h Y) (xy_Q Y)) (pc := pc) (E := E) (ce := ce) (q := q) (mc := (xt_R Y.1).cells) (ms := (xt_R Y.1).slots)
      (fun x hx => absurd hx (fun w => O.2.2.2.2.2.2.2.2.2.2.2.2.2.2.1 E h' (kx E h' hq) x w)) O.2.2.2.2.1 (by rw [e1]; exact hce) hcv hcl
      (fun t9 ht9 _ => ⟨h', ρ', ow', kx E h' hq, by rw [ht9, e1]; exact hS, fun r hr => by
        have h2 := r9.2.1 r hr
        exact ⟨(hA r h2.1).1, by rw [(hA r h2.1).2]; exact h2.2⟩⟩) (hloc L hL) (by have := r9.2.2.2.1; omega) (by have := r9.2.2.2.2.1; omega)
    obtain ⟨t2, a1, b1⟩ := hx T' rfl X'
    exact ⟨t2, go.trans a1, b1⟩
theorem xx_cats {st : List Value} : ((st.map (xx_v ρ)).map fun v => v.category) = st.map fun v => v.category := by
  rw [List.map_map]
  exact List.map_congr_left fun v _ => xx_v_cat ρ v
theorem xx_stk {as st : List Value} {b : Nat} : (as.reverse ++ .ref b :: st).map (xx_v ρ) = (as.map (xx_v ρ)).reverse ++ .ref (ρ b) :: st.map (xx_v ρ) := by
  rw [List.map_append, List.map_reverse]
  rfl
/-- a call of an object's method -/
theorem sw_callV {M' : XM} {d' k' n' idx ci N b : Nat} {f : Nat → Value} {C : String} {T : u_T} {ty : Nat → FieldType} {as stk : List Value} {Q' : XO → XH → Prop} (O : xx_O Y M l d) (hM : XMet l M' d' k' n' (.ref b :: as) h Q') (E : xx_ce M') (hl : xx_ml M.2.2.2.2.1 idx M'.1) (hsel : Cond.instanceMethod M'.1 ∈ xx_gws ∧ Cond.selects M'.1.cls M'.1 M'.1 ∈ xx_gws)
    (K : xx_cl ci C T N ty) (hC : C = M'.1.cls) (hb : h b = some (ci, N, f)) (hd : decode M.2.1 pc = .ok (.invokevirtual idx, 3)) (hdd : d' + 1 ≤ d) (hn : as.length = M'.2.2.2.2.2) (hs : stk = as.reverse ++ .ref b :: st) (hc : (st.map fun v => v.category).sum ≤ 8)
    (kr : ∀ v h', Q' (.inl v) h' → (∀ r, (h r).isSome = true → (h' r).isSome = true) → SW Y k n h' (pc + 3) ls (v.toList ++ st)) (kx : ∀ E h', Q' (.inr E) h' → xy_Q Y (.inr E) h') : SW Y (k + k') (n + n') h pc ls stk := by
  subst hs
  intro ρ ow H locs cells slots lsA r9
  obtain ⟨⟨cell, q1, q2, q3, q4⟩, hS, hfc, -⟩ := r9.obj O K hb
  have hst : ∀ v ∈ st, xx_in h v := fun v hv => r9.stk v (List.mem_append_right _ (List.mem_cons_of_mem _ hv))
  have has : ∀ v ∈ (Value.ref b :: as), xx_in h v := fun v hv => by
    rcases List.mem_cons.mp hv with rfl | hv
    · exact r9.stk _ (List.mem_append_right _ List.mem_cons_self)
    · exact r9.stk v (List.mem_append_left _ (List.mem_reverse.mpr hv))
  have S : CallFix (xt_p Y.1) (xt_m Y.1) (xt_c Y.1) M.2.1 (xt_c Y.1).maxLocals (xt_s Y.1) (xt_a Y.1) xx_gws M.2.2.2.2.1 := ⟨O.1, O.2.1, rfl, O.2.2.2.2.2.2.1, O.2.2.2.2.2.1⟩
  have hM' := hM (xy_D Y) ρ ow
  rw [← O.2.2.2.2.2.2.2.2.2.2.2.1] at hM'
  have hp : PreV (xt_s Y.1) H M'.1.cls (ρ b) (xx_Pc (xy_D Y) ρ ow h (.ref b :: as)) (as.map (xx_v ρ)) := ⟨xx_blind, ⟨cell, q1, q3.1, by rw [q2, ← hC]; exact hfc⟩, fun U hU hW => ⟨rfl, xx_K.moved hW.alike O.2.2.2.2.2.2.2.1, xx_N.warm hW O.2.2.2.2.2.2.2.2.1, by rw [hU]; exact r9.1, has⟩⟩
  have hw := O.2.2.2.2.2.1
  refine xx_run O r9 hst (a := (Value.ref (ρ b) :: as.map (xx_v ρ)).toArray) ?_ kr kx
  rcases hl with hl | ⟨host, hl⟩
  · exact vx_runV S hM' ⟨xx_callB O E hdd hl, hw _ hsel.1, hw _ hsel.2⟩ hp rfl (by rw [List.length_map]; exact hn) r9.L.1 xx_stk (lv_room (by rw [xx_cats]; exact hc)) hd (by have := r9.2.2.2.1; have := r9.2.2.2.2.1; omega)
  · exact vx_runVN S hM' ⟨xx_callN O E hdd hl, hw _ hsel.1, hw _ hsel.2⟩ hp rfl (by rw [List.length_map]; exact hn) r9.L.1 xx_stk (lv_room (by rw [xx_cats]; exact hc)) hd (by have := r9.2.2.2.1; have := r9.2.2.2.2.1; omega)
/-- a static call -/
theorem sw_callS {M' : XM} {d' k' n' idx : Nat} {as stk : List Value} {Q' : XO → XH → Prop} (O : xx_O Y M l d) (hM : XMet l M' d' k' n' as h Q') (E : xx_ce M') (hl : xx_ml M.2.2.2.2.1 idx M'.1) (hst0 : Cond.static M'.1 ∈ xx_gws)
    (hd : decode M.2.1 pc = .ok (.invokestatic idx, 3)) (hdd : d' + 1 ≤ d) (hn : as.length = M'.2.2.2.2.2) (hs : stk = as.reverse ++ st) (hc : (st.map fun v => v.category).sum ≤ 8)
    (kr : ∀ v h', Q' (.inl v) h' → (∀ r, (h r).isSome = true → (h' r).isSome = true) → SW Y k n h' (pc + 3) ls (v.toList ++ st)) (kx : ∀ E h', Q' (.inr E) h' → xy_Q Y (.inr E) h') : SW Y (k + k') (n + n') h pc ls stk := by
  subst hs
  intro ρ ow H locs cells slots lsA r9
  have hst : ∀ v ∈ st, xx_in h v := fun v hv => r9.stk v (List.mem_append_right _ hv)
  have has : ∀ v ∈ as, xx_in h v := fun v hv => r9.stk v (List.mem_append_left _ (List.mem_reverse.mpr hv))
  have S : CallFix (xt_p Y.1) (xt_m Y.1) (xt_c Y.1) M.2.1 (xt_c Y.1).maxLocals (xt_s Y.1) (xt_a Y.1) xx_gws M.2.2.2.2.1 := ⟨O.1, O.2.1, rfl, O.2.2.2.2.2.2.1, O.2.2.2.2.2.1⟩
  have hM' := hM (xy_D Y) ρ ow
  rw [← O.2.2.2.2.2.2.2.2.2.2.2.1] at hM'
  have hp : PreS (xt_s Y.1) H (xx_Pc (xy_D Y) ρ ow h as) (as.map (xx_v ρ)) := ⟨xx_blind, fun U hU hW => ⟨rfl, xx_K.moved hW.alike O.2.2.2.2.2.2.2.1, xx_N.warm hW O.2.2.2.2.2.2.2.2.1, by rw [hU]; exact r9.1, has⟩⟩
  have hw := O.2.2.2.2.2.1
  have e9 : (as.reverse ++ st).map (xx_v ρ) = (as.map (xx_v ρ)).reverse ++ st.map (xx_v ρ) := by rw [List.map_append, List.map_reverse]
  refine xx_run O r9 hst (a := (as.map (xx_v ρ)).toArray) ?_ kr kx
  rcases hl with hl | ⟨host, hl⟩
  · exact vx_runS S hM' ⟨xx_callB O E hdd hl, hw _ hst0⟩ hp rfl (by rw [List.length_map]; exact hn) r9.L.1 e9 (lv_room (by rw [xx_cats]; exact hc)) hd (by have := r9.2.2.2.1; have := r9.2.2.2.2.1; omega)
  · exact vx_runSN S hM' ⟨xx_callN O E hdd hl, hw _ hst0, trivial⟩ hp rfl (by rw [List.length_map]; exact hn) r9.L.1 e9 (lv_room (by rw [xx_cats]; exact hc)) hd (by have := r9.2.2.2.1; have := r9.2.2.2.2.1; omega)
/-- a constructor's call -/
theorem sw_callI {M' : XM} {d' k' n' idx b : Nat} {as stk : List Value} {Q' : XO → XH → Prop} (O : xx_O Y M l d) (hM : XMet l M' d' k' n' (.ref b :: as) h Q') (E : xx_ce M') (hl : xx_ml M.2.2.2.2.1 idx M'.1) (hi : M'.1.name = "<init>" ∧ M'.2.2.2.1 = none ∧ Cond.instanceMethod M'.1 ∈ xx_gws)
    (hd : decode M.2.1 pc = .ok (.invokespecial idx, 3)) (hdd : d' + 1 ≤ d) (hn : as.length = M'.2.2.2.2.2) (hs : stk = as.reverse ++ .ref b :: st) (hc : (st.map fun v => v.category).sum ≤ 8)
    (kr : ∀ v h', Q' (.inl v) h' → (∀ r, (h r).isSome = true → (h' r).isSome = true) → SW Y k n h' (pc + 3) ls (v.toList ++ st)) (kx : ∀ E h', Q' (.inr E) h' → xy_Q Y (.inr E) h') : SW Y (k + k') (n + n') h pc ls stk := by
  subst hs
  intro ρ ow H locs cells slots lsA r9
  have hst : ∀ v ∈ st, xx_in h v := fun v hv => r9.stk v (List.mem_append_right _ (List.mem_cons_of_mem _ hv))
  have has : ∀ v ∈ (Value.ref b :: as), xx_in h v := fun v hv => by
    rcases List.mem_cons.mp hv with rfl | hv
    · exact r9.stk _ (List.mem_append_right _ List.mem_cons_self)
    · exact r9.stk v (List.mem_append_left _ (List.mem_reverse.mpr hv))
  have S : CallFix (xt_p Y.1) (xt_m Y.1) (xt_c Y.1) M.2.1 (xt_c Y.1).maxLocals (xt_s Y.1) (xt_a Y.1) xx_gws M.2.2.2.2.1 := ⟨O.1, O.2.1, rfl, O.2.2.2.2.2.2.1, O.2.2.2.2.2.1⟩
  have hM' := hM (xy_D Y) ρ ow
  rw [← O.2.2.2.2.2.2.2.2.2.2.2.1] at hM'
  have hp : PreS (xt_s Y.1) H (xx_Pc (xy_D Y) ρ ow h (.ref b :: as)) (.ref (ρ b) :: as.map (xx_v ρ)) := ⟨xx_blind, fun U hU hW => ⟨rfl, xx_K.moved hW.alike O.2.2.2.2.2.2.2.1, xx_N.warm hW O.2.2.2.2.2.2.2.2.1, by rw [hU]; exact r9.1, has⟩⟩
  have hw := O.2.2.2.2.2.1
  refine xx_run O r9 hst (a := (Value.ref (ρ b) :: as.map (xx_v ρ)).toArray) ?_ kr kx
  rcases hl with hl | ⟨host, hl⟩
  · have cb := xx_callB (k' := k') (n' := n') O E hdd hl
    rw [hi.2.1] at cb
    exact vx_runI S hM' ⟨cb, hi.1, hw _ hi.2.2⟩ hp rfl (by rw [List.length_map]; exact hn) r9.L.1 xx_stk (lv_room (by rw [xx_cats]; exact hc)) hd (by have := r9.2.2.2.1; have := r9.2.2.2.2.1; omega)
  · have cb := xx_callN (k' := k') (n' := n') O E hdd hl
    rw [hi.2.1] at cb
    exact vx_runIN S hM' ⟨cb, hi.1, hw _ hi.2.2⟩ hp rfl (by rw [List.length_map]; exact hn) r9.L.1 xx_stk (lv_room (by rw [xx_cats]; exact hc)) hd (by have := r9.2.2.2.1; have := r9.2.2.2.2.1; omega)
/-- the constructor of java/lang/Object -/
theorem sw_objInit {idx b : Nat} (O : xx_O Y M l d) (w : Cond.methodLink M.2.2.2.2.1 idx Lib.objectInit ∈ xx_gws ∧ Cond.instanceMethod Lib.objectInit ∈ xx_gws ∧ Cond.code Lib.objectInit ⟨#[0xb1]⟩ 1 none ∈ xx_gws) (hd : decode M.2.1 pc = .ok (.invokespecial idx, 3)) (hdd : 1 ≤ d) (hc : (st.map fun v => v.category).sum ≤ 8)
    (kk : SW Y k n h (pc + 3) ls st) : SW Y k n h pc ls (.ref b :: st) := by
  intro ρ ow H locs cells slots lsA r9
  have hw := O.2.2.2.2.2.1
  have hR := O.2.2.2.2.2.2.2.2.2.2.2.2
  refine W.objInit O.1 O.2.1 O.2.2.2.2.2.2.1 (hw _ w.1) (hw _ w.2.1) (hw _ w.2.2) rfl r9.L.1 rfl hd (by exact Nat.le_trans hdd hR.1) ?_ (kk ρ ow H locs cells slots lsA (r9.to (xx_ht r9.stk)))
  have h1 : ((st.map (xx_v ρ)).map fun v => v.category).sum ≤ 8 := by rw [xx_cats]; exact hc
  have h2 := lv_room (m := xt_m Y.1) (pc := pc) (ls := lsA) (rest := .ref (ρ b) :: st.map (xx_v ρ)) h1
  have h9 : 40 * d ≤ (xt_R Y.1).locals := hR.2.1
  refine Nat.le_trans (Nat.add_le_add_right h2 12) ?_
  omega
end
