/-! ===== fields and arrays ===== -/
/-- a class of the list, by its place: its fields' words are among the tables' -/
def xx_cl (ci : Nat) (C : String) (T : u_T) (N : Nat) (ty : Nat → FieldType) : Prop :=
  ci < 100 ∧ vwCl[ci]? = some (C, T, N) ∧ (∀ w ∈ u_ws C T N, w ∈ xx_gws) ∧ (∀ k, k < N → parseFieldDescriptor (T k).2.2.1 = some (ty k)) ∧ ∀ a, a < N → ∀ b, b < N → a ≠ b → (T a).2.1 ≠ (T b).2.1
/-- a field's entry in a class's pool -/
def xx_fl (own : String) (idx : Nat) (C : String) (T : u_T) (kf : Nat) : Prop :=
  (Cond.fieldLink own idx C (T kf).2.1 (T kf).2.2.1 ∈ xx_gws ∨ ∃ host, Cond.fieldLinkNest own idx C (T kf).2.1 (T kf).2.2.1 host ∈ xx_nws) ∧ (T kf).1 = C
def xx_ok (ty : FieldType) (v : Value) : Prop := ∀ ρ : Nat → Nat, narrow ty (xx_v ρ v) = xx_v ρ v ∧ fits ty (xx_v ρ v) = true
section
variable {Y : XY} {M : XM} {l : Launch} {d k n : Nat} {h : XH} {pc : Nat} {ls st : List Value} {ρ : Nat → Nat} {ow : Nat → Option Nat} {H : Heap} {locs : List Loc} {cells slots : Nat} {lsA : Array Slot}
theorem xx_R.obj {ls' st' : List Value} {ci N r : Nat} {f : Nat → Value} {C : String} {T : u_T} {ty : Nat → FieldType} (r9 : xx_R Y k n h ls' st' ρ ow H locs cells slots lsA) (O : xx_O Y M l d) (K : xx_cl ci C T N ty) (hc : h r = some (ci, N, f)) :
    (∃ cell : Cell, H[ρ r]? = some cell ∧ cell.cls = (xd_G (xy_D Y)).1 ci ∧ (cell.vm.isStatics = false ∧ cell.vm ≠ .unknown ∧ (1000 ≤ r → cell.vm = .none)) ∧ ∀ k, k < N → (r < 1000 → ci = 0 → k < 2) → cell.slots[(xd_G (xy_D Y)).2 ci k]? = some (xx_v ρ (f k))) ∧ u_Kn (xt_s Y.1) C T N ((xd_G (xy_D Y)).1 ci) ((xd_G (xy_D Y)).2 ci) := by
  have h1 := (r9.1.2.2.2.1 r _ hc).2
  have hK := O.2.2.2.2.2.2.2.1
  have e4 : (xd_cl (xy_D Y))[ci]? = some (C, T, N) := by rw [hK.1]; exact K.2.1
  refine ⟨?_, hK.2.1.1.1 ci _ e4⟩
  by_cases hlo : r < 1000
  · have h1 := h1.1 hlo
    unfold xx_oldc at h1
    rw [if_pos K.1] at h1
    obtain ⟨q, cell, e1, e2, e3, e5, e6, e7⟩ := h1
    cases Option.some.inj (e1.symm.trans e4)
    exact ⟨cell, e3, e5, ⟨e6.1, e6.2, fun q => absurd q (Nat.not_le.mpr hlo)⟩, fun k hk h0 => e7 k hk (h0 hlo)⟩
  · have h1 := h1.2 (Nat.not_lt.mp hlo)
    unfold xx_newc at h1
    rw [if_pos K.1] at h1
    obtain ⟨q, e1, e2, cell, e3, e5, e6, e7⟩ := h1
    cases Option.some.inj (e1.symm.trans e4)
    exact ⟨cell, e3, e5, ⟨by rw [e6]; rfl, (by rw [e6]; exact fun q => by cases q), fun _ => e6⟩, fun k hk _ => e7 k hk⟩
theorem sw_get {idx ci N r kf : Nat} {f : Nat → Value} {C : String} {T : u_T} {ty : Nat → FieldType} (O : xx_O Y M l d) (hd : decode M.2.1 pc = .ok (.getfield idx, 3)) (K : xx_cl ci C T N ty) (F : xx_fl M.2.2.2.2.1 idx C T kf) (hc : h r = some (ci, N, f)) (hk : kf < N)
    {v : Value} (hv : f kf = v) (kk : SW Y k n h (pc + 3) ls (v :: st)) (hlo : r < 1000 → ci = 0 → kf < 2 := by first | exact fun _ q => absurd q (by decide) | exact fun _ _ => (by decide) | omega) : SW Y k n h pc ls (.ref r :: st) := by
  subst hv
  intro ρ ow H locs cells slots lsA r9
  obtain ⟨⟨cell, q1, q2, q3, q4⟩, hS, hfc, kC, hkC, hkind⟩ := r9.obj O K hc
  obtain ⟨cf, kF, fi, fd, hi, hsl⟩ := hS kf hk
  have hst := (u_facts hfc hkC (u_lays O.2.2.2.2.2.1 K.2.2.1 hk) hi).1
  have hv : cell.slots[fd.slot]? = some (xx_v ρ (f kf)) := by rw [hsl]; exact q4 kf hk hlo
  have kk' := kk ρ ow H locs cells slots lsA (r9.to (xx_hc (r9.1.2.2.2.2 r _ kf hc hk) (xx_ht r9.stk)))
  rw [F.2] at hi
  rcases F.1 with w | ⟨host, w⟩
  · exact W.getf O.1 O.2.1 O.2.2.2.2.2.2.1 (O.2.2.2.2.2.1 _ w) hi hst q1 q3.2.1 hv rfl rfl hd kk'
  · exact va_Wgetf O.1 O.2.1 O.2.2.2.2.2.2.1 (va_Nw.use rfl (O.2.2.2.2.2.2.2.2.1.1 _ w)) hi hst q1 q3.2.1 hv rfl rfl hd kk'
theorem xx_locs {r k9 : Nat} (r9 : xx_R Y k n h ls st ρ ow H locs cells slots lsA) {c : XC} (hc : h r = some c) (h1 : 1000 ≤ r) : ow (ρ r) = some r ∧ ∀ z ∈ locs ++ [⟨ρ r, k9⟩], (xd_H (xy_D Y)).size ≤ z.base := by
  have e : ow (ρ r) = some r := by
    rcases (r9.1.2.2.2.1 r c hc).1 with h2 | h2
    · omega
    · exact h2.2
  refine ⟨e, fun z hz => ?_⟩
  rcases List.mem_append.mp hz with h3 | h3
  · exact r9.2.2.1 z h3
  · rw [List.mem_singleton.mp h3]
    exact (r9.1.2.2.1 _ _ e).1
/-- behind a write into the cell r -/
theorem xx_R.put {r k9 : Nat} {c c' : XC} {st' : List Value} {H1 : Heap} (r9 : xx_R Y k n h ls st ρ ow H locs cells slots lsA) (hc : h r = some c) (h1 : 1000 ≤ r) (z : H1.size = H.size) (o : ∀ a, a ≠ ρ r → H1[a]? = H[a]?)
    (hcell : xx_cell (xy_D Y) ρ ow r c' H1) (hin : ∀ j, j < c'.2.1 → xx_in h (c'.2.2 j)) (hs : ∀ v ∈ st', xx_in h v) : xx_R Y k n (xx_up h r c') ls st' ρ ow H1 (locs ++ [⟨ρ r, k9⟩]) cells slots lsA := by
  obtain ⟨e, hl⟩ := xx_locs (k9 := k9) r9 hc h1
  refine ⟨r9.1.put hc h1 z (fun a ha => o a (fun q => ha (by rw [q]; exact e))) hcell hin, fun q hq => ⟨?_, (r9.2.1 q hq).2⟩, hl, r9.2.2.2.1, r9.2.2.2.2.1, r9.L, fun v hv => xx_in_up (r9.lcl v hv), fun v hv => xx_in_up (hs v hv)⟩
  unfold xx_up
  split
  · rfl
  · exact (r9.2.1 q hq).1
theorem xx_put_cell {D : XD} {ci N r kf : Nat} {f : Nat → Value} {v : Value} {C : String} {T : u_T} {H1 : Heap} {cell : Cell} {sl : Nat} (hD : (xd_cl D)[ci]? = some (C, T, N)) (hci : ci < 100) (hk : kf < N) (h1 : 1000 ≤ r)
    (hap : ∀ x y, x < N → y < N → x ≠ y → (xd_G D).2 ci x ≠ (xd_G D).2 ci y) (q2 : cell.cls = (xd_G D).1 ci) (q3 : cell.vm = .none) (q4 : ∀ k, k < N → cell.slots[(xd_G D).2 ci k]? = some (xx_v ρ (f k))) (hsl : sl = (xd_G D).2 ci kf) (e1 : H1[ρ r]? = some (cell.setSlot sl (xx_v ρ v))) :
    xx_cell D ρ ow r (ci, N, updV f kf v) H1 := by
  refine xx_cell.mk h1 ?_
  unfold xx_newc
  rw [if_pos hci]
  refine ⟨(C, T, N), hD, rfl, _, e1, q2, q3, fun j hj => ?_⟩
  rw [hsl]
  by_cases e : j = kf
  · subst e
    have hlt := k2_hasslot (q4 j hj)
    simp [Cell.setSlot, updV, hlt]
  · rw [show (cell.setSlot ((xd_G D).2 ci kf) (xx_v ρ v)).slots[(xd_G D).2 ci j]? = cell.slots[(xd_G D).2 ci j]? from slot_ne cell _ (fun q => hap j kf hj hk e q.symm)]
    rw [q4 j hj]
    simp [updV, e]
theorem sw_put {idx ci N r kf : Nat} {f : Nat → Value} {v : Value} {C : String} {T : u_T} {ty : Nat → FieldType} (O : xx_O Y M l d) (hd : decode M.2.1 pc = .ok (.putfield idx, 3)) (K : xx_cl ci C T N ty) (F : xx_fl M.2.2.2.2.1 idx C T kf) (hc : h r = some (ci, N, f)) (hk : kf < N) (h1 : 1000 ≤ r) (hfin : (T kf).2.2.2 = false) (hok : xx_ok (ty kf) v)
    {h2 : XH} (he : xx_up h r (ci, N, updV f kf v) = h2) (kk : SW Y k n h2 (pc + 3) ls st) : SW Y k n h pc ls (v :: .ref r :: st) := by
  subst he
  intro ρ ow H locs cells slots lsA r9
  obtain ⟨⟨cell, q1, q2, ⟨-, -, q3⟩, q4⟩, hS, hfc, kC, hkC, hkind⟩ := r9.obj O K hc
  have q3 := q3 h1
  have q4 := fun k hk => q4 k hk (fun q => absurd h1 (Nat.not_le.mpr q))
  have hKK := O.2.2.2.2.2.2.2.1
  have hcl : (xd_cl (xy_D Y))[ci]? = some (C, T, N) := by rw [hKK.1]; exact K.2.1
  have hap := va_apart (own := M.2.2.2.2.1) O.2.2.2.2.2.1 K.2.2.1 ty K.2.2.2.1 K.2.2.2.2 hKK.2.1.1 hcl
  obtain ⟨cf, kF, fi, fd, hi, hsl⟩ := hS kf hk
  have hlay := O.2.2.2.2.2.1 _ (K.2.2.1 _ (u_in_lay hk))
  unfold u_lay at hlay
  rw [if_neg (by rw [hfin]; decide)] at hlay
  have hst := (u_facts hfc hkC (u_lays O.2.2.2.2.2.1 K.2.2.1 hk) hi).1
  have h6 := u_store hfc hkC hkind hlay hi (K.2.2.2.1 kf hk) (hok ρ).1 (hok ρ).2
  have hlt : fd.slot < cell.slots.size := by rw [hsl]; exact k2_hasslot (q4 kf hk)
  have go : ∀ H' : Heap, H'[ρ r]? = some (cell.setSlot fd.slot (xx_v ρ v)) → H'.size = H.size → (∀ q, q ≠ ρ r → H'[q]? = H[q]?) → xx_W Y H' (locs ++ [⟨ρ r, fd.slot⟩]) cells slots (F0 (xt_m Y.1) (pc + 3) lsA (st.map (xx_v ρ))) := by
    intro H' e1 e2 e3
    refine kk ρ ow H' _ cells slots lsA (r9.put hc h1 e2 e3 (xx_put_cell hcl K.1 hk h1 hap q2 q3 q4 hsl e1) (fun j hj => ?_) (xx_ht (xx_ht r9.stk)))
    show xx_in h (updV f kf v j)
    unfold updV
    split
    · exact xx_h0 r9.stk
    · exact r9.1.2.2.2.2 r _ j hc hj
  rw [F.2] at hi
  rcases F.1 with w | ⟨host, w⟩
  · exact W.putK O.1 O.2.1 (f := fd) ⟨O.2.2.2.2.2.2.1, O.2.2.2.2.2.1 _ w, ⟨_, _, _, hi⟩, hst⟩ (by rw [q2]; exact h6) q1 q3 hlt rfl rfl hd go
  · exact va_WputK O.1 O.2.1 (f := fd) O.2.2.2.2.2.2.1 (va_Nw.use rfl (O.2.2.2.2.2.2.2.2.1.1 _ w)) hi hst (by rw [q2]; exact h6) q1 q3 hlt rfl rfl hd go
/-- a final field, in the constructor -/
theorem sw_putF {idx ci N r kf : Nat} {f : Nat → Value} {v : Value} {C : String} {T : u_T} {ty : Nat → FieldType} (O : xx_O Y M l d) (hd : decode M.2.1 pc = .ok (.putfield idx, 3)) (K : xx_cl ci C T N ty) (F : Cond.fieldLink M.2.2.2.2.1 idx C (T kf).2.1 (T kf).2.2.1 ∈ xx_gws ∧ (T kf).1 = C ∧ C = M.2.2.2.2.1) (hc : h r = some (ci, N, f)) (hk : kf < N) (h1 : 1000 ≤ r) (hfin : (T kf).2.2.2 = true) (hin2 : M.1.name = "<init>") (hok : xx_ok (ty kf) v)
    {h2 : XH} (he : xx_up h r (ci, N, updV f kf v) = h2) (kk : SW Y k n h2 (pc + 3) ls st) : SW Y k n h pc ls (v :: .ref r :: st) := by
  subst he
  intro ρ ow H locs cells slots lsA r9
  obtain ⟨⟨cell, q1, q2, ⟨-, -, q3⟩, q4⟩, hS, hfc, kC, hkC, hkind⟩ := r9.obj O K hc
  have q3 := q3 h1
  have q4 := fun k hk => q4 k hk (fun q => absurd h1 (Nat.not_le.mpr q))
  have hKK := O.2.2.2.2.2.2.2.1
  have hcl : (xd_cl (xy_D Y))[ci]? = some (C, T, N) := by rw [hKK.1]; exact K.2.1
  have hap := va_apart (own := M.2.2.2.2.1) O.2.2.2.2.2.1 K.2.2.1 ty K.2.2.2.1 K.2.2.2.2 hKK.2.1.1 hcl
  obtain ⟨cf, kF, fi, fd, hi, hsl⟩ := hS kf hk
  have hlay := O.2.2.2.2.2.1 _ (K.2.2.1 _ (u_in_lay hk))
  unfold u_lay at hlay
  rw [if_pos hfin] at hlay
  have hst := (u_facts hfc hkC (u_lays O.2.2.2.2.2.1 K.2.2.1 hk) hi).1
  have hcf : (xt_m Y.1).cls = cf := by
    obtain ⟨_, _, c', _, _, _, -, -, hf', -, -, -, hown2, -⟩ := Cond.laysFinal_spec hlay
    have e1 : c' = cf := by have := hi.symm.trans hf'; simp at this; exact this.1.symm
    rw [F.2.1, F.2.2] at hown2
    rw [← e1]; exact Option.some.inj (O.2.2.2.2.2.2.1.symm.trans hown2)
  have h6 := u_fits hfc hkC hkind (Or.inr hlay) hi (K.2.2.2.1 kf hk) (hok ρ).1 (hok ρ).2
  have hlt : fd.slot < cell.slots.size := by rw [hsl]; exact k2_hasslot (q4 kf hk)
  have go : ∀ H' : Heap, H'[ρ r]? = some (cell.setSlot fd.slot (xx_v ρ v)) → H'.size = H.size → (∀ q, q ≠ ρ r → H'[q]? = H[q]?) → xx_W Y H' (locs ++ [⟨ρ r, fd.slot⟩]) cells slots (F0 (xt_m Y.1) (pc + 3) lsA (st.map (xx_v ρ))) := by
    intro H' e1 e2 e3
    refine kk ρ ow H' _ cells slots lsA (r9.put hc h1 e2 e3 (xx_put_cell hcl K.1 hk h1 hap q2 q3 q4 hsl e1) (fun j hj => ?_) (xx_ht (xx_ht r9.stk)))
    show xx_in h (updV f kf v j)
    unfold updV
    split
    · exact xx_h0 r9.stk
    · exact r9.1.2.2.2.2 r _ j hc hj
  rw [F.2.1] at hi
  exact W.putFinK O.1 O.2.1 O.2.2.2.2.2.2.1 (O.2.2.2.2.2.1 _ F.1) hi hst hcf (O.2.2.2.2.2.2.2.2.2.2.1.trans hin2) (by rw [q2]; exact h6) q1 q3 hlt rfl rfl hd go
/-! arrays -/
theorem xx_R.arr {ls' st' : List Value} {t N r : Nat} {f : Nat → Value} (r9 : xx_R Y k n h ls' st' ρ ow H locs cells slots lsA) (O : xx_O Y M l d) (t1 : 100 ≤ t) (t2 : t < 106) (hc : h r = some (t, N, f)) (hnew : 1000 ≤ r) :
    H[ρ r]? = some (arrV (xd_A (xy_D Y) t) N (fun k => xx_v ρ (f k))) ∧ (xt_s Y.1).isArrayOf (arrV (xd_A (xy_D Y) t) N (fun k => xx_v ρ (f k))) (xx_aty t) := by
  have h1 := (r9.1.2.2.2.1 r _ hc).2.2 hnew
  unfold xx_newc at h1
  rw [if_neg (by show ¬ t < 100; omega), if_pos (by show t < 200; omega)] at h1
  exact ⟨h1, (O.2.2.2.2.2.2.2.1.2.2 t t1 t2).1 _ _⟩
/-- an array as reading needs it, new or old -/
theorem xx_R.arrW {ls' st' : List Value} {t N r : Nat} {f : Nat → Value} (r9 : xx_R Y k n h ls' st' ρ ow H locs cells slots lsA) (O : xx_O Y M l d) (t1 : 100 ≤ t) (t2 : t < 106) (hc : h r = some (t, N, f)) :
    ∃ cell : Cell, H[ρ r]? = some cell ∧ (xt_s Y.1).isArrayOf cell (xx_aty t) ∧ cell.vm ≠ .unknown ∧ N ≤ cell.slots.size ∧ cell.slots.size.toInt32 = Int32.ofNat N ∧ ∀ j, j < N → cell.slots[j]? = some (xx_v ρ (f j)) := by
  by_cases hlo : r < 1000
  · obtain ⟨h0, h1⟩ := r9.1.2.2.2.1 r _ hc
    have h1 := h1.1 hlo
    unfold xx_oldc at h1
    rw [if_neg (by show ¬ t < 100; omega), if_pos (by show t < 200; omega)] at h1
    obtain ⟨e0, cell, e1, e2, e3, e4, e5⟩ := h1
    obtain ⟨cell2, g1, g2⟩ := O.2.2.2.2.2.2.2.1.2.1.2.2.2.2.2.2.2 r t e0
    have hE : ρ r < (xd_H (xy_D Y)).size ∧ ρ r = xd_E (xy_D Y) r := by
      rcases h0 with ⟨-, z⟩ | ⟨z, -⟩
      · exact ⟨z.1 (by show t < 300; omega), z.2⟩
      · omega
    rw [← hE.2, ← r9.1.2.1 _ hE.1] at g1
    cases Option.some.inj (e1.symm.trans g1)
    exact ⟨cell, e1, g2, e2, e3, e4, e5⟩
  · obtain ⟨q1, q2⟩ := r9.arr O t1 t2 hc (Nat.not_lt.mp hlo)
    exact ⟨_, q1, q2, (fun q => by cases q), Nat.le_of_eq (arrV_size _ _ _).symm, congrArg Nat.toInt32 (arrV_size _ _ _), fun j hj => arrV_read _ _ hj⟩
theorem xx_vpin2 {i : Int32} {N S : Nat} (hin : vp_in i N) (hS : N ≤ S) : ¬ (i < 0 ∨ S ≤ i.toNatClampNeg) ∧ i.toNatClampNeg < N := by
  have h2 : i.toNatClampNeg < N := Nat.not_le.mp fun q => hin (Or.inr q)
  exact ⟨fun q => hin (q.imp id (fun z => Nat.le_trans hS z)), h2⟩
theorem xx_vpin {i : Int32} {N : Nat} {cA : ClassId} {f : Nat → Value} (hin : vp_in i N) : ¬ (i < 0 ∨ (arrV cA N f).slots.size ≤ i.toNatClampNeg) ∧ i.toNatClampNeg < N := by
  rw [arrV_size]
  exact ⟨hin, Nat.not_le.mp fun q => hin (Or.inr q)⟩
theorem sw_iaload {N r : Nat} {f : Nat → Value} {i : Int32} (O : xx_O Y M l d) (hd : decode M.2.1 pc = .ok (.iaload, 1)) (hc : h r = some (100, N, f)) (hin : vp_in i N) {v : Value} (hv : f i.toNatClampNeg = v) (kk : SW Y k n h (pc + 1) ls (v :: st)) : SW Y k n h pc ls (.int i :: .ref r :: st) := by
  subst hv
  intro ρ ow H locs cells slots lsA r9
  obtain ⟨cell, q1, q2, q3, q4, q5, q6⟩ := r9.arrW O (by omega) (by omega) hc
  obtain ⟨i1, i2⟩ := xx_vpin2 hin q4
  exact W.iald O.1 O.2.1 q1 q2 q3 i1 (q6 _ i2) rfl rfl hd (kk ρ ow H locs cells slots lsA (r9.to (xx_hc (r9.1.2.2.2.2 r _ _ hc i2) (xx_ht (xx_ht r9.stk)))))
theorem sw_zaload {N r : Nat} {f : Nat → Value} {i : Int32} (O : xx_O Y M l d) (hd : decode M.2.1 pc = .ok (.baload, 1)) (hc : h r = some (101, N, f)) (hin : vp_in i N) {v : Value} (hv : f i.toNatClampNeg = v) (kk : SW Y k n h (pc + 1) ls (v :: st)) : SW Y k n h pc ls (.int i :: .ref r :: st) := by
  subst hv
  intro ρ ow H locs cells slots lsA r9
  obtain ⟨cell, q1, q2, q3, q4, q5, q6⟩ := r9.arrW O (by omega) (by omega) hc
  obtain ⟨i1, i2⟩ := xx_vpin2 hin q4
  exact W.zald O.1 O.2.1 q1 q2 q3 i1 (q6 _ i2) rfl rfl hd (kk ρ ow H locs cells slots lsA (r9.to (xx_hc (r9.1.2.2.2.2 r _ _ hc i2) (xx_ht (xx_ht r9.stk)))))
theorem sw_aaload {t N r : Nat} {f : Nat → Value} {i : Int32} (O : xx_O Y M l d) (hd : decode M.2.1 pc = .ok (.aaload, 1)) (t1 : 103 ≤ t) (t2 : t < 106) (hc : h r = some (t, N, f)) (hin : vp_in i N) {v : Value} (hv : f i.toNatClampNeg = v) (kk : SW Y k n h (pc + 1) ls (v :: st)) : SW Y k n h pc ls (.int i :: .ref r :: st) := by
  subst hv
  intro ρ ow H locs cells slots lsA r9
  obtain ⟨cell, q1, q2, q3, q4, q5, q6⟩ := r9.arrW O (by omega) t2 hc
  obtain ⟨i1, i2⟩ := xx_vpin2 hin q4
  have hr : (xx_aty t).isReference = true := by
    rcases (show t = 103 ∨ t = 104 ∨ t = 105 by omega) with rfl | rfl | rfl <;> rfl
  exact W.aald O.1 O.2.1 q1 q2 hr q3 i1 (q6 _ i2) rfl rfl hd (kk ρ ow H locs cells slots lsA (r9.to (xx_hc (r9.1.2.2.2.2 r _ _ hc i2) (xx_ht (xx_ht r9.stk)))))
theorem sw_alen {t N r : Nat} {f : Nat → Value} (O : xx_O Y M l d) (hd : decode M.2.1 pc = .ok (.arraylength, 1)) (t1 : 100 ≤ t) (t2 : t < 106) (hc : h r = some (t, N, f)) (kk : SW Y k n h (pc + 1) ls (.int (nI N) :: st)) : SW Y k n h pc ls (.ref r :: st) := by
  intro ρ ow H locs cells slots lsA r9
  obtain ⟨cell, q1, q2, q3, q4, q5, q6⟩ := r9.arrW O t1 t2 hc
  exact W.alen O.1 O.2.1 q1 q2 q5 rfl rfl hd (kk ρ ow H locs cells slots lsA (r9.to (xx_hc (a := .int (nI N)) trivial (xx_ht r9.stk))))
theorem sw_iastore {N r : Nat} {f : Nat → Value} {i x : Int32} (O : xx_O Y M l d) (hd : decode M.2.1 pc = .ok (.iastore, 1)) (hc : h r = some (100, N, f)) (hin : vp_in i N) (h1 : 1000 ≤ r) {h2 : XH} (he : xx_up h r (100, N, updV f i.toNatClampNeg (.int x)) = h2) (kk : SW Y k n h2 (pc + 1) ls st) : SW Y k n h pc ls (.int x :: .int i :: .ref r :: st) := by
  subst he
  intro ρ ow H locs cells slots lsA r9
  obtain ⟨q1, q2⟩ := r9.arr O (by omega) (by omega) hc h1
  obtain ⟨i1, i2⟩ := xx_vpin (cA := xd_A (xy_D Y) 100) (f := fun k => xx_v ρ (f k)) hin
  refine W.iast O.1 O.2.1 q1 q2 (fun q => by cases q) i1 rfl rfl hd (fun H' e1 e2 e3 => kk ρ ow H' _ cells slots lsA (r9.put hc h1 e2 e3 ?_ (fun j hj => ?_) (xx_ht (xx_ht (xx_ht r9.stk)))))
  · refine xx_cell.mk h1 ?_
    unfold xx_newc
    rw [if_neg (by show ¬ 100 < 100; omega), if_pos (by show 100 < 200; omega)]
    rw [e1, arrV_store]
    refine congrArg some (xx_arr_eq fun j _ => ?_)
    show updV _ _ _ j = xx_v ρ (updV f _ _ j)
    unfold updV
    split <;> rfl
  · show xx_in h (updV f _ _ j)
    unfold updV
    split
    · exact trivial
    · exact r9.1.2.2.2.2 r _ j hc hj
theorem sw_zastore {N r : Nat} {f : Nat → Value} {i x : Int32} (O : xx_O Y M l d) (hd : decode M.2.1 pc = .ok (.bastore, 1)) (hc : h r = some (101, N, f)) (hin : vp_in i N) (h1 : 1000 ≤ r) (hx : narrow .boolean (.int x) = .int x) {h2 : XH} (he : xx_up h r (101, N, updV f i.toNatClampNeg (.int x)) = h2) (kk : SW Y k n h2 (pc + 1) ls st) : SW Y k n h pc ls (.int x :: .int i :: .ref r :: st) := by
  subst he
  intro ρ ow H locs cells slots lsA r9
  obtain ⟨q1, q2⟩ := r9.arr O (by omega) (by omega) hc h1
  obtain ⟨i1, i2⟩ := xx_vpin (cA := xd_A (xy_D Y) 101) (f := fun k => xx_v ρ (f k)) hin
  refine W.zast O.1 O.2.1 q1 q2 (fun q => by cases q) i1 rfl rfl hd (fun H' e1 e2 e3 => kk ρ ow H' _ cells slots lsA (r9.put hc h1 e2 e3 ?_ (fun j hj => ?_) (xx_ht (xx_ht (xx_ht r9.stk)))))
  · refine xx_cell.mk h1 ?_
    unfold xx_newc
    rw [if_neg (by show ¬ 101 < 100; omega), if_pos (by show 101 < 200; omega)]
    rw [hx] at e1
    rw [e1, arrV_store]
    refine congrArg some (xx_arr_eq fun j _ => ?_)
    show updV _ _ _ j = xx_v ρ (updV f _ _ j)
    unfold updV
    split <;> rfl
  · show xx_in h (updV f _ _ j)
    unfold updV
    split
    · exact trivial
    · exact r9.1.2.2.2.2 r _ j hc hj
end
