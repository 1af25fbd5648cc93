/-! ===== fields that are inherited; lists as what is called ===== -/
def xx_fl2 (own : String) (idx : Nat) (ref : String) (T : u_T) (kf : Nat) : Prop :=
  (Cond.fieldLink own idx ref (T kf).2.1 (T kf).2.2.1 ∈ xx_gws ∨ ∃ host, Cond.fieldLinkNest own idx ref (T kf).2.1 (T kf).2.2.1 host ∈ xx_nws) ∧ ((T kf).1 = ref ∨ Cond.sameField ref (T kf).1 (T kf).2.1 (T kf).2.2.1 ∈ xx_gws)
section
variable {Y : XY} {M : XM} {l : Launch} {d k n : Nat} {h : XH} {pc : Nat} {ls st : List Value} {ρ : Nat → Nat} {ow : Nat → Option Nat} {H : Heap} {locs : List Loc} {cells slots : Nat} {lsA : Array Slot}
theorem xx_fl2.found {own ref : String} {idx kf : Nat} {T : u_T} {x : ClassId × Class × Nat × Field} (O : xx_O Y M l d) (F : xx_fl2 own idx ref T kf) (hi : (xt_s Y.1).fieldFound? (T kf).1 (T kf).2.1 (T kf).2.2.1 = some x) : (xt_s Y.1).fieldFound? ref (T kf).2.1 (T kf).2.2.1 = some x := by
  rcases F.2 with e | w
  · rw [← e]; exact hi
  · exact u_same (O.2.2.2.2.2.1 _ w) x hi
theorem sw_get2 {idx ci N r kf : Nat} {f : Nat → Value} {C ref : String} {T : u_T} {ty : Nat → FieldType} (O : xx_O Y M l d) (hd : decode M.2.1 pc = .ok (.getfield idx, 3)) (K : xx_cl ci C T N ty) (F : xx_fl2 M.2.2.2.2.1 idx ref T kf) (hc : h r = some (ci, N, f)) (hk : kf < N)
    {v : Value} (hv : f kf = v) (kk : SW Y k n h (pc + 3) ls (v :: st)) (hlo : r < 1000 → ci = 0 → kf < 2 := by first | exact fun _ q => absurd q (by decide) | exact fun _ _ => (by decide) | omega) : SW Y k n h pc ls (.ref r :: st) := by
  subst hv
  intro ρ ow H locs cells slots lsA r9
  obtain ⟨⟨cell, q1, q2, q3, q4⟩, hS, hfc, kC, hkC, hkind⟩ := r9.obj O K hc
  obtain ⟨cf, kF, fi, fd, hi, hsl⟩ := hS kf hk
  have hst := (u_facts hfc hkC (u_lays O.2.2.2.2.2.1 K.2.2.1 hk) hi).1
  have hv : cell.slots[fd.slot]? = some (xx_v ρ (f kf)) := by rw [hsl]; exact q4 kf hk hlo
  have kk' := kk ρ ow H locs cells slots lsA (r9.to (xx_hc (r9.1.2.2.2.2 r _ kf hc hk) (xx_ht r9.stk)))
  have hi := F.found O hi
  rcases F.1 with w | ⟨host, w⟩
  · exact W.getf O.1 O.2.1 O.2.2.2.2.2.2.1 (O.2.2.2.2.2.1 _ w) hi hst q1 q3.2.1 hv rfl rfl hd kk'
  · exact va_Wgetf O.1 O.2.1 O.2.2.2.2.2.2.1 (va_Nw.use rfl (O.2.2.2.2.2.2.2.2.1.1 _ w)) hi hst q1 q3.2.1 hv rfl rfl hd kk'
theorem sw_put2 {idx ci N r kf : Nat} {f : Nat → Value} {v : Value} {C ref : String} {T : u_T} {ty : Nat → FieldType} (O : xx_O Y M l d) (hd : decode M.2.1 pc = .ok (.putfield idx, 3)) (K : xx_cl ci C T N ty) (F : xx_fl2 M.2.2.2.2.1 idx ref T kf) (hc : h r = some (ci, N, f)) (hk : kf < N) (h1 : 1000 ≤ r) (hfin : (T kf).2.2.2 = false) (hok : xx_ok (ty kf) v)
    {h2 : XH} (he : xx_up h r (ci, N, updV f kf v) = h2) (kk : SW Y k n h2 (pc + 3) ls st) : SW Y k n h pc ls (v :: .ref r :: st) := by
  subst he
  intro ρ ow H locs cells slots lsA r9
  obtain ⟨⟨cell, q1, q2, ⟨-, -, q3⟩, q4⟩, hS, hfc, kC, hkC, hkind⟩ := r9.obj O K hc
  have q3 := q3 h1
  have q4 := fun k hk => q4 k hk (fun q => absurd h1 (Nat.not_le.mpr q))
  have hKK := O.2.2.2.2.2.2.2.1
  have hcl : (xd_cl (xy_D Y))[ci]? = some (C, T, N) := by rw [hKK.1]; exact K.2.1
  have hap := va_apart (own := M.2.2.2.2.1) O.2.2.2.2.2.1 K.2.2.1 ty K.2.2.2.1 K.2.2.2.2 hKK.2.1.1 hcl
  obtain ⟨cf, kF, fi, fd, hi, hsl⟩ := hS kf hk
  have hlay := O.2.2.2.2.2.1 _ (K.2.2.1 _ (u_in_lay hk))
  unfold u_lay at hlay
  rw [if_neg (by rw [hfin]; decide)] at hlay
  have hst := (u_facts hfc hkC (u_lays O.2.2.2.2.2.1 K.2.2.1 hk) hi).1
  have h6 := u_store hfc hkC hkind hlay hi (K.2.2.2.1 kf hk) (hok ρ).1 (hok ρ).2
  have hlt : fd.slot < cell.slots.size := by rw [hsl]; exact k2_hasslot (q4 kf hk)
  have go : ∀ H' : Heap, H'[ρ r]? = some (cell.setSlot fd.slot (xx_v ρ v)) → H'.size = H.size → (∀ q, q ≠ ρ r → H'[q]? = H[q]?) → xx_W Y H' (locs ++ [⟨ρ r, fd.slot⟩]) cells slots (F0 (xt_m Y.1) (pc + 3) lsA (st.map (xx_v ρ))) := by
    intro H' e1 e2 e3
    refine kk ρ ow H' _ cells slots lsA (r9.put hc h1 e2 e3 (xx_put_cell hcl K.1 hk h1 hap q2 q3 q4 hsl e1) (fun j hj => ?_) (xx_ht (xx_ht r9.stk)))
    show xx_in h (updV f kf v j)
    unfold updV
    split
    · exact xx_h0 r9.stk
    · exact r9.1.2.2.2.2 r _ j hc hj
  have hi := F.found O hi
  rcases F.1 with w | ⟨host, w⟩
  · exact W.putK O.1 O.2.1 (f := fd) ⟨O.2.2.2.2.2.2.1, O.2.2.2.2.2.1 _ w, ⟨_, _, _, hi⟩, hst⟩ (by rw [q2]; exact h6) q1 q3 hlt rfl rfl hd go
  · exact va_WputK O.1 O.2.1 (f := fd) O.2.2.2.2.2.2.1 (va_Nw.use rfl (O.2.2.2.2.2.2.2.2.1.1 _ w)) hi hst (by rw [q2]; exact h6) q1 q3 hlt rfl rfl hd go
/-- a list is an object of its class -/
theorem xx_R.lrec {ls' st' : List Value} {ci N r n9 : Nat} {f : Nat → Value} {C : String} {T : u_T} {ty : Nat → FieldType} (r9 : xx_R Y k n h ls' st' ρ ow H locs cells slots lsA) (O : xx_O Y M l d) (K : xx_cl ci C T N ty) (hc : h r = some (200 + ci, n9, f)) :
    ∃ ea, t_OB (ρ r) ((xd_G (xy_D Y)).1 ci) 3 ((xd_G (xy_D Y)).2 ci) H (vp_V [.int (nI n9), .ref ea, .int (nI n9)]) ∧ u_Kn (xt_s Y.1) C T N ((xd_G (xy_D Y)).1 ci) ((xd_G (xy_D Y)).2 ci) := by
  have h1 := (r9.1.2.2.2.1 r _ hc).2
  have hci := K.1
  have hnew : 1000 ≤ r := Nat.not_lt.mp fun q => by
    have h2 := h1.1 q
    unfold xx_oldc at h2
    rw [if_neg (by show ¬ 200 + ci < 100; omega), if_neg (by show ¬ 200 + ci < 200; omega)] at h2
    exact h2 (by show 200 + ci < 300; omega)
  have h1 := h1.2 hnew
  unfold xx_newc at h1
  rw [if_neg (by show ¬ 200 + ci < 100; omega), if_neg (by show ¬ 200 + ci < 200; omega)] at h1
  obtain ⟨q, ea, cap, e1, e2, e3, -⟩ := h1 (by show 200 + ci < 300; omega)
  have hK := O.2.2.2.2.2.2.2.1
  have e4 : (xd_cl (xy_D Y))[ci]? = some (C, T, N) := by rw [hK.1]; exact K.2.1
  rw [show 200 + ci - 200 = ci by omega] at e3
  exact ⟨ea, e3, hK.2.1.1.1 ci _ e4⟩
theorem sw_getL {idx ci r n9 kf : Nat} {f : Nat → Value} {C ref : String} {T : u_T} {ty : Nat → FieldType} (O : xx_O Y M l d) (hd : decode M.2.1 pc = .ok (.getfield idx, 3)) (K : xx_cl ci C T 3 ty) (F : xx_fl2 M.2.2.2.2.1 idx ref T kf) (hc : h r = some (200 + ci, n9, f)) (hk : kf = 0 ∨ kf = 2)
    (kk : SW Y k n h (pc + 3) ls (.int (nI n9) :: st)) : SW Y k n h pc ls (.ref r :: st) := by
  intro ρ ow H locs cells slots lsA r9
  have hk3 : kf < 3 := by omega
  obtain ⟨ea, ⟨cell, q1, q2, q3, q4⟩, hS, hfc, kC, hkC, hkind⟩ := r9.lrec O K hc
  obtain ⟨cf, kF, fi, fd, hi, hsl⟩ := hS kf hk3
  have hst := (u_facts hfc hkC (u_lays O.2.2.2.2.2.1 K.2.2.1 hk3) hi).1
  have hv : cell.slots[fd.slot]? = some (.int (nI n9)) := by rw [hsl, q4 kf hk3]; rcases hk with rfl | rfl <;> rfl
  have kk' := kk ρ ow H locs cells slots lsA (r9.to (xx_hc (a := .int (nI n9)) trivial (xx_ht r9.stk)))
  have hi := F.found O hi
  rcases F.1 with w | ⟨host, w⟩
  · exact W.getf O.1 O.2.1 O.2.2.2.2.2.2.1 (O.2.2.2.2.2.1 _ w) hi hst q1 (by rw [q3]; exact fun h => by cases h) hv rfl rfl hd kk'
  · exact va_Wgetf O.1 O.2.1 O.2.2.2.2.2.2.1 (va_Nw.use rfl (O.2.2.2.2.2.2.2.2.1.1 _ w)) hi hst q1 (by rw [q3]; exact fun h => by cases h) hv rfl rfl hd kk'
theorem sw_callVL {M' : XM} {d' k' n' idx ci N b n9 : Nat} {f : Nat → Value} {C : String} {T : u_T} {ty : Nat → FieldType} {as stk : List Value} {v : Option Value} {h2 : XH} (O : xx_O Y M l d) (hM : XEx l M' d' k' n' (.ref b :: as) h v h2) (E : xx_ce M') (hl : xx_ml M.2.2.2.2.1 idx M'.1) (hsel : Cond.instanceMethod M'.1 ∈ xx_gws ∧ Cond.selects M'.1.cls M'.1 M'.1 ∈ xx_gws)
    (K : xx_cl ci C T N ty) (hC : C = M'.1.cls) (hb : h b = some (200 + ci, n9, f)) (hd : decode M.2.1 pc = .ok (.invokevirtual idx, 3)) (hdd : d' + 1 ≤ d) (hn : as.length = M'.2.2.2.2.2) (hs : stk = as.reverse ++ .ref b :: st) (hc : (st.map fun v => v.category).sum ≤ 8)
    {st2 : List Value} (h2s : v.toList ++ st = st2) (kk : SW Y k n h2 (pc + 3) ls st2) : SW Y (k + k') (n + n') h pc ls stk := by
  subst hs
  intro ρ ow H locs cells slots lsA r9
  obtain ⟨ea, ⟨cell, q1, q2, q3, q4⟩, hS, hfc, -⟩ := r9.lrec O K hb
  have hst : ∀ v ∈ st, xx_in h v := fun v hv => r9.stk v (List.mem_append_right _ (List.mem_cons_of_mem _ hv))
  have has : ∀ v ∈ (Value.ref b :: as), xx_in h v := fun v hv => by
    rcases List.mem_cons.mp hv with rfl | hv
    · exact r9.stk _ (List.mem_append_right _ List.mem_cons_self)
    · exact r9.stk v (List.mem_append_left _ (List.mem_reverse.mpr hv))
  have S : CallFix (xt_p Y.1) (xt_m Y.1) (xt_c Y.1) M.2.1 (xt_c Y.1).maxLocals (xt_s Y.1) (xt_a Y.1) xx_gws M.2.2.2.2.1 := ⟨O.1, O.2.1, rfl, O.2.2.2.2.2.2.1, O.2.2.2.2.2.1⟩
  have hM' := hM (xy_D Y) ρ ow
  rw [← O.2.2.2.2.2.2.2.2.2.2.2.1] at hM'
  have hp : PreV (xt_s Y.1) H M'.1.cls (ρ b) (xx_Pc (xy_D Y) ρ ow h (.ref b :: as)) (as.map (xx_v ρ)) := ⟨xx_blind, ⟨cell, q1, by rw [q3]; rfl, by rw [q2, ← hC]; exact hfc⟩, fun U hU hW => ⟨rfl, xx_K.moved hW.alike O.2.2.2.2.2.2.2.1, xx_N.warm hW O.2.2.2.2.2.2.2.2.1, by rw [hU]; exact r9.1, has⟩⟩
  have hw := O.2.2.2.2.2.1
  refine xx_run (Q' := fun o g => o = .inl v ∧ g = h2) O r9 hst (a := (Value.ref (ρ b) :: as.map (xx_v ρ)).toArray) ?_ (fun v' h' q _ => by obtain ⟨e1, rfl⟩ := q; cases e1; rw [h2s]; exact kk) (fun E h' q => by obtain ⟨e1, -⟩ := q; cases e1)
  rcases hl with hl | ⟨host, hl⟩
  · exact vx_runV S hM' ⟨xx_callB O E hdd hl, hw _ hsel.1, hw _ hsel.2⟩ hp rfl (by rw [List.length_map]; exact hn) r9.L.1 xx_stk (lv_room (by rw [xx_cats]; exact hc)) hd (by have := r9.2.2.2.1; have := r9.2.2.2.2.1; omega)
  · exact vx_runVN S hM' ⟨xx_callN O E hdd hl, hw _ hsel.1, hw _ hsel.2⟩ hp rfl (by rw [List.length_map]; exact hn) r9.L.1 xx_stk (lv_room (by rw [xx_cats]; exact hc)) hd (by have := r9.2.2.2.1; have := r9.2.2.2.2.1; omega)
end
