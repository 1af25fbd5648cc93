/-! ===== calls by an interface ===== -/
def xx_if (own : String) (idx : Nat) (x : MethodName) (M' : XM) : Prop := Cond.methodLink own idx x ∈ xx_gws ∧ Cond.declares x ∈ xx_nws ∧ Cond.interfaceMethod x.cls x.cls x.name x.desc ∈ xx_nws ∧ Cond.selects M'.1.cls x M'.1 ∈ xx_gws ∧ Cond.instanceMethod M'.1 ∈ xx_gws ∧ Cond.publicMethod M'.1 ∈ xx_nws ∧ Cond.unhidden M'.1.cls x.name x.desc ∈ xx_nws ∧ Cond.castable M'.1.cls x.cls ∈ xx_nws ∧ (x.cls ≠ "java/lang/invoke/MethodHandle" ∧ x.cls ≠ "java/lang/invoke/VarHandle") ∧ (parseMethodDescriptor x.desc).map (fun d => d.parameters.length) = some M'.2.2.2.2.2
section
variable {Y : XY} {M : XM} {l : Launch} {d k n : Nat} {h : XH} {pc : Nat} {ls st : List Value} {ρ : Nat → Nat} {ow : Nat → Option Nat} {H : Heap} {locs : List Loc} {cells slots : Nat} {lsA : Array Slot}
theorem xx_callCI {M' : XM} {d' k' n' idx : Nat} {x : MethodName} (O : xx_O Y M l d) (E : xx_ce M') (hd : d' + 1 ≤ d) (hl : xx_if M.2.2.2.2.1 idx x M') :
    va_CI (xt_R Y.1) (xt_s Y.1) (xt_a Y.1) M.2.2.2.2.1 M'.1.cls idx x M'.1 M'.2.1 M'.2.2.1 M'.2.2.2.1 (xx_ws M') (xx_rm d' k' n') k' n' M'.2.2.2.2.2 := by
  have hw := O.2.2.2.2.2.1
  have hR := O.2.2.2.2.2.2.2.2.2.2.2.2
  have hN := O.2.2.2.2.2.2.2.2.1
  have := E.2.2.2.2
  obtain ⟨a1, a2, a3, a4, a5, a6, a7, a8, a9, a10⟩ := hl
  refine ⟨⟨rfl, rfl, ?_, ?_, xx_ws_at O E.1, List.mem_cons_self⟩, hw _ a1, hN.use a2, hN.use a3, hw _ a4, hw _ a5, hN.use a6, hN.use a7, hN.use a8, hw _ E.2.1, hw _ E.1, a9, fun sig h => ?_⟩
  · exact Nat.le_trans hd hR.1
  · refine Nat.le_trans ?_ hR.2.1
    show 8 + (M'.2.2.1 + 11) + 40 * d' ≤ 40 * d
    omega
  · rw [h] at a10
    exact (Option.some.inj a10).symm
theorem xx_run5 {k' n' : Nat} {Q' : XO → XH → Prop} {stk : List Value} {st0 : List Value} {a : Array Value} (O : xx_O Y M l d) (r9 : xx_R Y (k + k') (n + n') h ls stk ρ ow H locs cells slots lsA) (hst : ∀ v ∈ st, xx_in h v)
    (hr : vx_Run5 (xt_p Y.1) (xt_l Y.1) (xt_e Y.1) (xt_R Y.1) (xt_s Y.1) (xt_m Y.1) (xt_a Y.1) (xt_b Y.1) (xt_h Y.1) (xt_c Y.1) H locs cells slots k' n' (F0 (xt_m Y.1) pc lsA st0) (st.map (xx_v ρ)) (xx_Qc (xy_D Y) ρ h Q' a) (xx_Xc (xy_D Y) ρ h Q') (xx_fr (xy_D Y)))
    (kr : ∀ v h', Q' (.inl v) h' → (∀ r, (h r).isSome = true → (h' r).isSome = true) → SW Y k n h' (pc + 5) ls (v.toList ++ st)) (kx : ∀ E h', Q' (.inr E) h' → xy_Q Y (.inr E) h') : xx_W Y H locs cells slots (F0 (xt_m Y.1) pc lsA st0) := by
  intro T hT X
  have hloc : ∀ L : List Loc, (∀ q ∈ L, xx_fr (xy_D Y) q.base) → ∀ z ∈ locs ++ L, (xd_H (xy_D Y)).size ≤ z.base := fun L hL z hz => (List.mem_append.mp hz).elim (r9.2.2.1 z) (hL z)
  rcases hr T hT X with ⟨v, st₀, t, T', L, h0, X', hL, e1, e2, ⟨v', h', ρ', ow', hv, hq, hS, hA, hin⟩, go⟩ | ⟨q, st₀, t, T', L, E, ce, h0, X', hL, e1, e2, ⟨h', ρ', ow', hq, hS, hA⟩, hce, hcv, hcl, go⟩
  · cases hv
    have hρ : ∀ a, (h a).isSome = true → ρ' a = ρ a := fun a ha => (hA a ha).2
    have hup : ∀ v, xx_in h v → xx_in h' v := fun v hv => by
      cases v with
      | ref a => exact (hA a hv).1
      | _ => exact trivial
    have R1 : xx_R Y k n h' ls (v'.toList ++ st) ρ' ow' T'.heap (locs ++ L) (cells + k') (slots + n') lsA := by
      refine ⟨by rw [e1]; exact hS, fun r hr => ?_, hloc L hL, ?_, ?_, r9.L.names hρ r9.lcl, fun v hv => hup v (r9.lcl v hv), fun v hv => ?_⟩
      · have h2 := r9.2.1 r hr
        exact ⟨(hA r h2.1).1, by rw [(hA r h2.1).2]; exact h2.2⟩
      · have := r9.2.2.2.1
        omega
      · have := r9.2.2.2.2.1
        omega
      · rcases List.mem_append.mp hv with h3 | h3
        · exact hin v (by cases v' <;> simp at h3; rw [h3])
        · exact hup v (hst v h3)
    have k1 := kr v' h' hq (fun r hr => (hA r hr).1) ρ' ow' T'.heap (locs ++ L) (cells + k') (slots + n') lsA R1 T' rfl X'
    obtain ⟨t2, a1, b1⟩ := k1
    refine ⟨t2, go t2 ?_, b1⟩
    rw [show (v'.toList ++ st).map (xx_v ρ') = (v'.map (xx_v ρ')).toList ++ st.map (xx_v ρ) by rw [List.map_append, xx_map_eq hρ hst]; cases v' <;> rfl] at a1
    exact a1
  · have hx := vx_out (p := xt_p Y.1) (l := xt_l Y.1) (e := xt_e Y.1) (R := xt_R Y.1) (s := xt_s Y.1) (m := xt_m Y.1) (args := xt_a Y.1) (below := xt_b Y.1) (meth := xt_h Y.1) (c := xt_c Y.1) (H := T'.heap) (locs := locs ++ L) (cells := cells + k') (slots := slots + n') (ls := lsA) (rest := st.map (xx_v ρ)) (free := xx_fr (xy_D Y)) (Qc := xx_Qc (xy_D Y) (xy_ρ Y) (xy_h Y) (xy_Q Y)) (XC := xx_Xc (xy_D Y) (xy_ρ Y) (xy_h Y) (xy_Q Y)) (pc := pc) (E := E) (ce := ce) (q := q) (mc := (xt_R Y.1).cells) (ms := (xt_R Y.1).slots)
      (fun x hx => absurd hx (fun w => O.2.2.2.2.2.2.2.2.2.2.2.2.2.2.1 E h' (kx E h' hq) x w)) O.2.2.2.2.1 (by rw [e1]; exact hce) hcv hcl
      (fun t9 ht9 _ => ⟨h', ρ', ow', kx E h' hq, by rw [ht9, e1]; exact hS, fun r hr => by
        have h2 := r9.2.1 r hr
        exact ⟨(hA r h2.1).1, by rw [(hA r h2.1).2]; exact h2.2⟩⟩) (hloc L hL) (by have := r9.2.2.2.1; omega) (by have := r9.2.2.2.2.1; omega)
    obtain ⟨t2, a1, b1⟩ := hx T' rfl X'
    exact ⟨t2, go.trans a1, b1⟩
theorem sw_callF {M' : XM} {d' k' n' idx cnt ci N b : Nat} {x : MethodName} {f : Nat → Value} {C : String} {T : u_T} {ty : Nat → FieldType} {as stk : List Value} {v : Option Value} {h2 : XH} (O : xx_O Y M l d) (hM : XEx l M' d' k' n' (.ref b :: as) h v h2) (E : xx_ce M') (hl : xx_if M.2.2.2.2.1 idx x M')
    (K : xx_cl ci C T N ty) (hC : C = M'.1.cls) (hb : h b = some (ci, N, f)) (hd : decode M.2.1 pc = .ok (.invokeinterface idx cnt, 5)) (hdd : d' + 1 ≤ d) (hn : as.length = M'.2.2.2.2.2) (hs : stk = as.reverse ++ .ref b :: st) (hc : (st.map fun v => v.category).sum ≤ 8)
    {st2 : List Value} (h2s : v.toList ++ st = st2) (kk : SW Y k n h2 (pc + 5) ls st2) : SW Y (k + k') (n + n') h pc ls stk := by
  subst hs
  intro ρ ow H locs cells slots lsA r9
  obtain ⟨⟨cell, q1, q2, q3, q4⟩, hS, hfc, kC, hkC, hkind⟩ := r9.obj O K hb
  have hst : ∀ v ∈ st, xx_in h v := fun v hv => r9.stk v (List.mem_append_right _ (List.mem_cons_of_mem _ hv))
  have has : ∀ v ∈ (Value.ref b :: as), xx_in h v := fun v hv => by
    rcases List.mem_cons.mp hv with rfl | hv
    · exact r9.stk _ (List.mem_append_right _ List.mem_cons_self)
    · exact r9.stk v (List.mem_append_left _ (List.mem_reverse.mpr hv))
  have S : CallFix (xt_p Y.1) (xt_m Y.1) (xt_c Y.1) M.2.1 (xt_c Y.1).maxLocals (xt_s Y.1) (xt_a Y.1) xx_gws M.2.2.2.2.1 := ⟨O.1, O.2.1, rfl, O.2.2.2.2.2.2.1, O.2.2.2.2.2.1⟩
  have hM' := hM (xy_D Y) ρ ow
  rw [← O.2.2.2.2.2.2.2.2.2.2.2.1] at hM'
  have hp : PreV (xt_s Y.1) H M'.1.cls (ρ b) (xx_Pc (xy_D Y) ρ ow h (.ref b :: as)) (as.map (xx_v ρ)) := ⟨xx_blind, ⟨cell, q1, q3.1, by rw [q2, ← hC]; exact hfc⟩, fun U hU hW => ⟨rfl, xx_K.moved hW.alike O.2.2.2.2.2.2.2.1, xx_N.warm hW O.2.2.2.2.2.2.2.2.1, by rw [hU]; exact r9.1, has⟩⟩
  have hw := O.2.2.2.2.2.1
  refine xx_run5 (Q' := fun o g => o = .inl v ∧ g = h2) O r9 hst (a := (Value.ref (ρ b) :: as.map (xx_v ρ)).toArray) ?_ (fun v' h' q _ => by obtain ⟨e1, rfl⟩ := q; cases e1; rw [h2s]; exact kk) (fun E h' q => by obtain ⟨e1, -⟩ := q; cases e1)
  exact vx_runF (C := M'.1.cls) (by rw [← hC]; exact ⟨hfc, kC, hkC, hkind⟩) S hM' (xx_callCI O E hdd hl) hp rfl (by rw [List.length_map]; exact hn) r9.L.1 xx_stk (lv_room (by rw [xx_cats]; exact hc)) hd (by have := r9.2.2.2.1; have := r9.2.2.2.2.1; omega)
theorem sw_dom (kk : (∀ r, (xy_h Y r).isSome = true → (h r).isSome = true) → SW Y k n h pc ls st) : SW Y k n h pc ls st := fun ρ ow H locs cells slots lsA r9 => kk (fun r hr => (r9.2.1 r hr).1) ρ ow H locs cells slots lsA r9
end
theorem sw_fori {Y : XY} {k n : Nat} {S : Type} {f : Nat → S → S} {hp : Nat → XH} {hd : Nat} {lc : Nat → S → List Value} {N : Nat} (body : ∀ i s, i < N → SW Y k n (hp (i + 1)) hd (lc (i + 1) (f i s)) [] → SW Y k n (hp i) hd (lc i s) []) : ∀ m i s, i + m = N → SW Y k n (hp N) hd (lc N (xit f m i s)) [] → SW Y k n (hp i) hd (lc i s) []
  | 0, i, s, e, kk => by
    have e' : i = N := by omega
    subst e'
    exact kk
  | m + 1, i, s, e, kk => body i s (by omega) (sw_fori body m (i + 1) (f i s) (by omega) kk)
def gwl_I2 : List Cond := [(Jvm.Cond.methodLink "WavesaleModel" (102 : Nat) ({ cls := "java/util/Iterator", name := "hasNext", desc := "()Z" } : Jvm.MethodName)), (Jvm.Cond.selects "java/util/ArrayList$Itr" ({ cls := "java/util/Iterator", name := "hasNext", desc := "()Z" } : Jvm.MethodName) ({ cls := "java/util/ArrayList$Itr", name := "hasNext", desc := "()Z" } : Jvm.MethodName)), (Jvm.Cond.instanceMethod ({ cls := "java/util/ArrayList$Itr", name := "hasNext", desc := "()Z" } : Jvm.MethodName)), (Jvm.Cond.methodLink "WavesaleModel" (108 : Nat) ({ cls := "java/util/Iterator", name := "next", desc := "()Ljava/lang/Object;" } : Jvm.MethodName)), (Jvm.Cond.selects "java/util/ArrayList$Itr" ({ cls := "java/util/Iterator", name := "next", desc := "()Ljava/lang/Object;" } : Jvm.MethodName) ({ cls := "java/util/ArrayList$Itr", name := "next", desc := "()Ljava/lang/Object;" } : Jvm.MethodName)), (Jvm.Cond.instanceMethod ({ cls := "java/util/ArrayList$Itr", name := "next", desc := "()Ljava/lang/Object;" } : Jvm.MethodName))]
set_option maxRecDepth 100000 in
theorem gv_I : ∀ w ∈ gwl_I2, w ∈ xx_gws := xx_inT [1757, 3, 1, 3, 2, 1] rfl (by decide +kernel)
def xx_ifn : List Cond := [(Jvm.Cond.declares ({ cls := "java/util/Iterator", name := "hasNext", desc := "()Z" } : Jvm.MethodName)), (Jvm.Cond.interfaceMethod "java/util/Iterator" "java/util/Iterator" "hasNext" "()Z"), (Jvm.Cond.publicMethod ({ cls := "java/util/ArrayList$Itr", name := "hasNext", desc := "()Z" } : Jvm.MethodName)), (Jvm.Cond.unhidden "java/util/ArrayList$Itr" "hasNext" "()Z"), (Jvm.Cond.castable "java/util/ArrayList$Itr" "java/util/Iterator"), (Jvm.Cond.declares ({ cls := "java/util/Iterator", name := "next", desc := "()Ljava/lang/Object;" } : Jvm.MethodName)), (Jvm.Cond.interfaceMethod "java/util/Iterator" "java/util/Iterator" "next" "()Ljava/lang/Object;"), (Jvm.Cond.publicMethod ({ cls := "java/util/ArrayList$Itr", name := "next", desc := "()Ljava/lang/Object;" } : Jvm.MethodName)), (Jvm.Cond.unhidden "java/util/ArrayList$Itr" "next" "()Ljava/lang/Object;"), (Jvm.Cond.castable "java/util/ArrayList$Itr" "java/util/Iterator")]
theorem xx_ifn_ok : ∀ w ∈ xx_ifn, w ∈ xx_nws := by decide +kernel
theorem if_X14_102 : xx_if RX14 102 ({ cls := "java/util/Iterator", name := "hasNext", desc := "()Z" } : Jvm.MethodName) m_Jx35411_hasNext_aae02 := ⟨(gv_I _ (List.mem_of_getElem? (i := 0) rfl)), (xx_ifn_ok _ (List.mem_of_getElem? (i := 0) rfl)), (xx_ifn_ok _ (List.mem_of_getElem? (i := 1) rfl)), (gv_I _ (List.mem_of_getElem? (i := 1) rfl)), (gv_I _ (List.mem_of_getElem? (i := 2) rfl)), (xx_ifn_ok _ (List.mem_of_getElem? (i := 2) rfl)), (xx_ifn_ok _ (List.mem_of_getElem? (i := 3) rfl)), (xx_ifn_ok _ (List.mem_of_getElem? (i := 4) rfl)), ⟨by decide, by decide⟩, by decide +kernel⟩
theorem if_X14_108 : xx_if RX14 108 ({ cls := "java/util/Iterator", name := "next", desc := "()Ljava/lang/Object;" } : Jvm.MethodName) m_Jx35411_next_0502b := ⟨(gv_I _ (List.mem_of_getElem? (i := 3) rfl)), (xx_ifn_ok _ (List.mem_of_getElem? (i := 5) rfl)), (xx_ifn_ok _ (List.mem_of_getElem? (i := 6) rfl)), (gv_I _ (List.mem_of_getElem? (i := 4) rfl)), (gv_I _ (List.mem_of_getElem? (i := 5) rfl)), (xx_ifn_ok _ (List.mem_of_getElem? (i := 7) rfl)), (xx_ifn_ok _ (List.mem_of_getElem? (i := 8) rfl)), (xx_ifn_ok _ (List.mem_of_getElem? (i := 9) rfl)), ⟨by decide, by decide⟩, by decide +kernel⟩
