/-! ===== cells are made ===== -/
def xx_blk (h : XH) (r0 N : Nat) (c : Nat → XC) : XH := fun q => if r0 ≤ q ∧ q < r0 + N then some (c (q - r0)) else h q
def xx_ρn (ρ : Nat → Nat) (r0 N z : Nat) : Nat → Nat := fun q => if r0 ≤ q ∧ q < r0 + N then z + (q - r0) else ρ q
def xx_own (ow : Nat → Option Nat) (r0 z : Nat) : Nat → Option Nat := fun a => if z ≤ a then some (r0 + (a - z)) else ow a
theorem xx_blk_in {h : XH} {r0 N i : Nat} {c : Nat → XC} (hi : i < N) : xx_blk h r0 N c (r0 + i) = some (c i) := by
  unfold xx_blk
  rw [if_pos ⟨by omega, by omega⟩, show r0 + i - r0 = i by omega]
theorem xx_blk_0 {h : XH} {r0 N : Nat} {c : Nat → XC} (hi : 0 < N) : xx_blk h r0 N c r0 = some (c 0) := by
  have := xx_blk_in (h := h) (r0 := r0) (c := c) hi
  exact this
theorem xx_blk_out {h : XH} {r0 N q : Nat} {c : Nat → XC} (hq : ¬ (r0 ≤ q ∧ q < r0 + N)) : xx_blk h r0 N c q = h q := if_neg hq
theorem xx_blk_some {h : XH} {r0 N q : Nat} {c : Nat → XC} (hf : ∀ i, i < N → h (r0 + i) = none) (hq : (h q).isSome = true) : ¬ (r0 ≤ q ∧ q < r0 + N) := fun e => by
  have := hf (q - r0) (by omega)
  rw [show r0 + (q - r0) = q by omega] at this
  rw [this] at hq
  cases hq
theorem xx_in_blk {h : XH} {r0 N : Nat} {c : Nat → XC} (hf : ∀ i, i < N → h (r0 + i) = none) {v : Value} (hv : xx_in h v) : xx_in (xx_blk h r0 N c) v := by
  cases v with
  | ref a =>
    show (xx_blk h r0 N c a).isSome = true
    rw [xx_blk_out (xx_blk_some (c := c) hf hv)]
    exact hv
  | _ => exact trivial
theorem xx_S.news {D : XD} {ρ : Nat → Nat} {ow : Nat → Option Nat} {h : XH} {H H1 : Heap} (S : xx_S D ρ ow h H) {r0 N : Nat} {c : Nat → XC} (hf : ∀ i, i < N → h (r0 + i) = none) (h1 : 1000 ≤ r0) (z : H1.size = H.size + N) (o : ∀ a, a < H.size → H1[a]? = H[a]?)
    (hc : ∀ i, i < N → xx_cell D (xx_ρn ρ r0 N H.size) (xx_own ow r0 H.size) (r0 + i) (c i) H1) (hin : ∀ i j, i < N → j < (c i).2.1 → xx_in (xx_blk h r0 N c) ((c i).2.2 j)) :
    xx_S D (xx_ρn ρ r0 N H.size) (fun a => if a < H.size + N then xx_own ow r0 H.size a else none) (xx_blk h r0 N c) H1 := by
  obtain ⟨s1, s2, s3, s4, s5⟩ := S
  have hρ : ∀ a, (h a).isSome = true → xx_ρn ρ r0 N H.size a = ρ a := fun a ha => if_neg (xx_blk_some (c := c) hf ha)
  refine ⟨by omega, fun a ha => by rw [o a (by omega)]; exact s2 a ha, fun a q e => ?_, fun q d hd => ?_, fun q d j hd hj => ?_⟩
  · by_cases e1 : a < H.size + N
    · simp only [e1, if_true] at e
      unfold xx_own at e
      split at e
      · omega
      · have := s3 a q e
        omega
    · simp [e1] at e
  · by_cases e : r0 ≤ q ∧ q < r0 + N
    · obtain ⟨i, rfl⟩ : ∃ i, q = r0 + i := ⟨q - r0, by omega⟩
      have hi : i < N := by omega
      rw [xx_blk_in hi] at hd
      cases hd
      have e2 : xx_ρn ρ r0 N H.size (r0 + i) = H.size + i := by
        unfold xx_ρn
        rw [if_pos e]
        omega
      refine ⟨Or.inr ⟨by omega, ?_⟩, (hc i hi).kept (fun _ a ha => rfl) |>.names rfl (fun a ha => ?_) (fun j _ => rfl)⟩
      · rw [e2]
        show (if H.size + i < H.size + N then xx_own ow r0 H.size (H.size + i) else none) = _
        rw [if_pos (by omega)]
        unfold xx_own
        rw [if_pos (by omega), show r0 + (H.size + i - H.size) = r0 + i by omega]
      · show (if a < H.size + N then xx_own ow r0 H.size a else none) = _
        by_cases e3 : a < H.size + N
        · rw [if_pos e3]; exact ha
        · exfalso
          unfold xx_own at ha
          rw [if_pos (by omega)] at ha
          have := Option.some.inj ha
          omega
    · rw [xx_blk_out e] at hd
      obtain ⟨a1, a2⟩ := s4 q d hd
      have e4 : xx_ρn ρ r0 N H.size q = ρ q := hρ q (by rw [hd]; rfl)
      have hlt : ∀ a, ow a = some q → a < H.size := fun a ha => (s3 a q ha).2
      have how : ∀ a, a < H.size → (if a < H.size + N then xx_own ow r0 H.size a else none) = ow a := fun a ha => by
        rw [if_pos (by omega)]
        unfold xx_own
        rw [if_neg (by omega)]
      refine ⟨?_, (a2.kept fun h3 a ha => o a ?_).names e4 (fun a ha => by show (if a < H.size + N then xx_own ow r0 H.size a else none) = _; rw [how a (hlt a ha)]; exact ha) (fun j hj => xx_v_eq hρ (s5 q d j hd hj))⟩
      · rw [e4]
        rcases a1 with a1 | ⟨a0, a1⟩
        · exact Or.inl a1
        · refine Or.inr ⟨a0, ?_⟩
          show (if ρ q < H.size + N then xx_own ow r0 H.size (ρ q) else none) = _
          rw [how _ (hlt _ a1)]; exact a1
      · rcases ha with rfl | ha | ha
        · rcases a1 with ⟨-, a1, -⟩ | ⟨-, a1⟩
          · have a1 := a1 h3
            omega
          · exact hlt _ a1
        · exact hlt a ha
        · omega
  · by_cases e : r0 ≤ q ∧ q < r0 + N
    · obtain ⟨i, rfl⟩ : ∃ i, q = r0 + i := ⟨q - r0, by omega⟩
      have hi : i < N := by omega
      rw [xx_blk_in hi] at hd
      cases hd
      exact hin i j hi hj
    · rw [xx_blk_out e] at hd
      exact xx_in_blk hf (s5 q d j hd hj)
section
variable {Y : XY} {M : XM} {l : Launch} {d k n : Nat} {h : XH} {pc : Nat} {ls st : List Value} {ρ : Nat → Nat} {ow : Nat → Option Nat} {H : Heap} {locs : List Loc} {cells slots : Nat} {lsA : Array Slot}
theorem xx_map_eq {ρ' : Nat → Nat} (ha : ∀ a, (h a).isSome = true → ρ' a = ρ a) (hs : ∀ v ∈ st, xx_in h v) : st.map (xx_v ρ') = st.map (xx_v ρ) := List.map_congr_left fun v hv => xx_v_eq ha (hs v hv)
theorem xx_L.names {ρ' : Nat → Nat} {nL : Nat} (ha : ∀ a, (h a).isSome = true → ρ' a = ρ a) (hs : ∀ v ∈ ls, xx_in h v) (hL : xx_L ρ nL ls lsA) : xx_L ρ' nL ls lsA := ⟨hL.1, hL.2.1, fun i v hi hv => by rw [xx_v_eq ha (hs v (List.mem_of_getElem? hi))]; exact hL.2.2 i v hi hv⟩
theorem xx_R.news {r0 N a b k' n' : Nat} {c : Nat → XC} {st' : List Value} {H1 : Heap} (r9 : xx_R Y k' n' h ls st ρ ow H locs cells slots lsA) (hk : k + a ≤ k') (hn : n + b ≤ n') (hf : ∀ i, i < N → h (r0 + i) = none) (h1 : 1000 ≤ r0) (z : H1.size = H.size + N) (o : ∀ a, a < H.size → H1[a]? = H[a]?)
    (hc : ∀ i, i < N → xx_cell (xy_D Y) (xx_ρn ρ r0 N H.size) (xx_own ow r0 H.size) (r0 + i) (c i) H1) (hin : ∀ i j, i < N → j < (c i).2.1 → xx_in (xx_blk h r0 N c) ((c i).2.2 j)) (hs : ∀ v ∈ st', xx_in (xx_blk h r0 N c) v) :
    xx_R Y k n (xx_blk h r0 N c) ls st' (xx_ρn ρ r0 N H.size) (fun a => if a < H.size + N then xx_own ow r0 H.size a else none) H1 locs (cells + a) (slots + b) lsA := by
  have hρ : ∀ a, (h a).isSome = true → xx_ρn ρ r0 N H.size a = ρ a := fun a ha => if_neg (xx_blk_some (c := c) hf ha)
  refine ⟨r9.1.news hf h1 z o hc hin, fun q hq => ?_, r9.2.2.1, ?_, ?_, r9.L.names hρ r9.lcl, fun v hv => xx_in_blk hf (r9.lcl v hv), hs⟩
  · have h2 := r9.2.1 q hq
    refine ⟨?_, by rw [hρ q h2.1]; exact h2.2⟩
    rw [xx_blk_out (xx_blk_some (c := c) hf h2.1)]
    exact h2.1
  · have := r9.2.2.2.1
    omega
  · have := r9.2.2.2.2.1
    omega
theorem sw_new {idx ci N r : Nat} {C : String} {T : u_T} {ty : Nat → FieldType} (O : xx_O Y M l d) (hd : decode M.2.1 pc = .ok (.new idx, 3)) (K : xx_cl ci C T N ty) (w : Cond.classLink M.2.2.2.2.1 idx C ∈ xx_gws ∧ Cond.instantiable C N ∈ xx_gws ∧ Cond.initialized C ∈ xx_gws) (hr : h r = none) (h1 : 1000 ≤ r)
    (kk : SW Y k n (xx_blk h r 1 (fun _ => (ci, N, fun j => defaultValue (ty j)))) (pc + 3) ls (.ref r :: st)) : SW Y (k + 1) (n + N) h pc ls st := by
  intro ρ ow H locs cells slots lsA r9
  have hKK := O.2.2.2.2.2.2.2.1
  have hcl : (xd_cl (xy_D Y))[ci]? = some (C, T, N) := by rw [hKK.1]; exact K.2.1
  have hKn := hKK.2.1.1.1 ci _ hcl
  have hw := O.2.2.2.2.2.1
  have hf : ∀ i, i < 1 → h (r + i) = none := fun i hi => by rw [show r + i = r by omega]; exact hr
  refine W.newcK O.1 O.2.1 O.2.2.2.2.2.2.1 (hw _ w.1) (hw _ w.2.1) (hw _ w.2.2) rfl hd (by have := r9.2.2.2.1; omega) (by have := r9.2.2.2.2.1; omega) hKn.2.1 rfl (fun H' kC hkC e1 e2 e3 => ?_)
  have hρ : ∀ a, (h a).isSome = true → xx_ρn ρ r 1 H.size a = ρ a := fun a ha => if_neg (xx_blk_some (c := fun _ => (ci, N, fun j => defaultValue (ty j))) hf ha)
  have e5 : xx_ρn ρ r 1 H.size r = H.size := by
    unfold xx_ρn
    rw [if_pos ⟨by omega, by omega⟩]
    omega
  have hdv : ∀ (ρ' : Nat → Nat) (t : FieldType), xx_v ρ' (defaultValue t) = defaultValue t := fun ρ' t => by cases t <;> rfl
  have hdi : ∀ (h' : XH) (t : FieldType), xx_in h' (defaultValue t) := fun h' t => by cases t <;> exact trivial
  have R1 := r9.news (k := k) (n := n) (a := 1) (b := N) (r0 := r) (N := 1) (c := fun _ => (ci, N, fun j => defaultValue (ty j))) (st' := .ref r :: st) (H1 := H') (by omega) (by omega) hf h1 e2 e3 (fun i hi => by
    obtain rfl : i = 0 := by omega
    refine xx_cell.mk (by omega) ?_
    unfold xx_newc
    rw [if_pos (show ci < 100 from K.1)]
    refine ⟨(C, T, N), hcl, rfl, ?_⟩
    show t_OB (xx_ρn ρ r 1 H.size r) _ _ _ _ _
    rw [e5]
    exact (u_born ty hw K.2.2.1 hKn hkC e1 K.2.2.2.1).to (fun j _ => (hdv _ _).symm)) (fun i j _ _ => hdi _ _) (xx_hc (by show (xx_blk h r 1 _ r).isSome = true; rw [xx_blk_0 (by omega)]; rfl) (fun v hv => xx_in_blk hf (r9.stk v hv)))
  have k1 := kk _ _ H' locs _ _ lsA R1
  rw [show (Value.ref r :: st).map (xx_v (xx_ρn ρ r 1 H.size)) = Value.ref H.size :: st.map (xx_v ρ) by rw [List.map_cons, xx_map_eq hρ r9.stk]; show Value.ref (xx_ρn ρ r 1 H.size r) :: _ = _; rw [e5]] at k1
  exact k1
theorem sw_newarray {t N r : Nat} {aty : ArrayType} {i : Int32} (O : xx_O Y M l d) (hd : decode M.2.1 pc = .ok (.newarray aty, 2)) (ht : (100 ≤ t ∧ t < 103) ∧ xx_aty t = newarray.typeOf aty) (w : Cond.arrayClass (newarray.typeOf aty) ∈ xx_gws) (hn : ¬ i < 0) (hN : i.toNatClampNeg = N) (hb : N * componentBytes (newarray.typeOf aty) ≤ 536870912) (hr : h r = none) (h1 : 1000 ≤ r)
    (kk : SW Y k n (xx_blk h r 1 (fun _ => (t, N, fun _ => defaultValue (newarray.typeOf aty)))) (pc + 2) ls (.ref r :: st)) : SW Y (k + 1) (n + N) h pc ls (.int i :: st) := by
  intro ρ ow H locs cells slots lsA r9
  have hKK := O.2.2.2.2.2.2.2.1
  have hw := O.2.2.2.2.2.1
  subst hN
  have hf : ∀ i, i < 1 → h (r + i) = none := fun i hi => by rw [show r + i = r by omega]; exact hr
  refine W.newa O.1 O.2.1 (hw _ w) rfl hd rfl hn hb (by have := r9.2.2.2.1; omega) (by have := r9.2.2.2.2.1; omega) (fun cA kA comp f1 f2 f3 => ?_)
  have hcA : cA = xd_A (xy_D Y) t := by
    have hRA := (hKK.2.2 t (by omega) (by omega)).2 (by omega)
    rw [ht.2] at hRA
    have : ∀ a9 : ArrayType, va_RA (xt_s Y.1) (xd_A (xy_D Y) t) (newarray.typeOf a9) → (xt_s Y.1).vm.findClass ("[" ++ (newarray.typeOf a9).toString) = some (xd_A (xy_D Y) t) := fun a9 h9 => by cases a9 <;> exact h9
    exact Option.some.inj (f1.symm.trans (this aty hRA))
  have hρ : ∀ a, (h a).isSome = true → xx_ρn ρ r 1 H.size a = ρ a := fun a ha => if_neg (xx_blk_some (c := fun _ => (t, i.toNatClampNeg, fun _ => defaultValue (newarray.typeOf aty))) hf ha)
  have e5 : xx_ρn ρ r 1 H.size r = H.size := by
    unfold xx_ρn
    rw [if_pos ⟨by omega, by omega⟩]
    omega
  have hdv : ∀ (ρ' : Nat → Nat) (t : FieldType), xx_v ρ' (defaultValue t) = defaultValue t := fun ρ' t => by cases t <;> rfl
  have hdi : ∀ (h' : XH) (t : FieldType), xx_in h' (defaultValue t) := fun h' t => by cases t <;> exact trivial
  have R1 := r9.news (k := k) (n := n) (a := 1) (b := i.toNatClampNeg) (r0 := r) (N := 1) (c := fun _ => (t, i.toNatClampNeg, fun _ => defaultValue (newarray.typeOf aty))) (st' := .ref r :: st) (H1 := H.push { cls := cA, slots := Array.replicate i.toNatClampNeg (defaultValue (newarray.typeOf aty)), vm := .none }) (by omega) (by omega) hf h1 (by simp) (fun a ha => by rw [Array.getElem?_push, if_neg (Nat.ne_of_lt ha)]) (fun j hj => by
    obtain rfl : j = 0 := by omega
    refine xx_cell.mk (by omega) ?_
    unfold xx_newc
    rw [if_neg (show ¬ t < 100 by omega), if_pos (show t < 200 by omega)]
    show _[xx_ρn ρ r 1 H.size r]? = _
    rw [e5, arrV_new, hcA]
    simp only [Array.getElem?_push_size]
    exact congrArg some (xx_arr_eq fun j _ => (hdv _ _).symm)) (fun i j _ _ => hdi _ _) (xx_hc (by show (xx_blk h r 1 _ r).isSome = true; rw [xx_blk_0 (by omega)]; rfl) (fun v hv => xx_in_blk hf (xx_ht r9.stk v hv)))
  have k1 := kk _ _ _ locs _ _ lsA R1
  rw [show (Value.ref r :: st).map (xx_v (xx_ρn ρ r 1 H.size)) = Value.ref H.size :: st.map (xx_v ρ) by rw [List.map_cons, xx_map_eq hρ (xx_ht r9.stk)]; show Value.ref (xx_ρn ρ r 1 H.size r) :: _ = _; rw [e5]] at k1
  exact k1
theorem sw_multi {idx N K r : Nat} {i j : Int32} (O : xx_O Y M l d) (hd : decode M.2.1 pc = .ok (.multianewarray idx 2, 4)) (w : Cond.classLink M.2.2.2.2.1 idx "[[I" ∈ xx_gws ∧ Cond.arrayClass .int ∈ xx_gws) (hn : ¬ i < 0) (hm : ¬ j < 0) (hN : i.toNatClampNeg = N) (hK : j.toNatClampNeg = K) (b1 : N ≤ 1000) (b2 : K ≤ 1000) (hr : ∀ q, q < N + 1 → h (r + q) = none) (h1 : 1000 ≤ r)
    (kk : SW Y k n (xx_blk h r (N + 1) (fun q => if q = 0 then (103, N, fun q => .ref (r + 1 + q)) else (100, K, fun _ => .int 0))) (pc + 4) ls (.ref r :: st)) : SW Y (k + (1 + N)) (n + (N + N * K)) h pc ls (.int j :: .int i :: st) := by
  intro ρ ow H locs cells slots lsA r9
  have hKK := O.2.2.2.2.2.2.2.1
  have hw := O.2.2.2.2.2.1
  subst hN
  subst hK
  generalize hcc : (fun q => if q = 0 then ((103, i.toNatClampNeg, fun q => Value.ref (r + 1 + q)) : XC) else (100, j.toNatClampNeg, fun _ => Value.int 0)) = cc at kk
  have c0 : cc 0 = (103, i.toNatClampNeg, fun q => Value.ref (r + 1 + q)) := by rw [← hcc]; rfl
  have c1 : ∀ q, cc (q + 1) = (100, j.toNatClampNeg, fun _ => Value.int 0) := fun q => by rw [← hcc]; simp
  intro T hT Xs
  obtain ⟨vm₁, cA, comp, -, fA, fC, hO, -, X', step⟩ := Xs.multianewarray2F (ty := .int) O.1 O.2.2.2.2.2.2.1 (hw _ w.1) (va_AOA.use hKK.2.1.2.1) (hw _ w.2) (g := F0 (xt_m Y.1) pc lsA (.int j :: .int i :: st.map (xx_v ρ))) rfl (by rw [O.2.1]; exact hd) rfl hn hm (by omega) (by show _ * 4 ≤ _; omega) (by omega) rfl rfl (by have := r9.2.2.2.1; omega) (by have := r9.2.2.2.2.1; omega)
  have eA : cA = xd_A (xy_D Y) 103 := Option.some.inj (fA.symm.trans ((hKK.2.2 103 (by omega) (by omega)).2 (by omega)))
  have eC : comp = xd_A (xy_D Y) 100 := Option.some.inj (fC.symm.trans ((hKK.2.2 100 (by omega) (by omega)).2 (by omega)))
  subst eA
  subst eC
  generalize hF : Jvm.Free.Multi.fill (T.setVm vm₁) (xd_A (xy_D Y) 103) (xd_A (xy_D Y) 100) i.toNatClampNeg j.toNatClampNeg (defaultValue .int) i.toNatClampNeg = F at X' step
  have hTh : (T.setVm vm₁).heap = H := hT
  obtain ⟨f1, f2, -, -⟩ := Jvm.Free.Multi.fill_facts (T.setVm vm₁) (xd_A (xy_D Y) 103) (xd_A (xy_D Y) 100) i.toNatClampNeg j.toNatClampNeg (defaultValue .int) i.toNatClampNeg
  rw [hF, hTh] at f1 f2
  have hold : ∀ x : Nat, x < H.size → F.heap[x]? = H[x]? := fun x hx => by
    have := Jvm.Free.Multi.fill_old (T.setVm vm₁) (xd_A (xy_D Y) 103) (xd_A (xy_D Y) 100) i.toNatClampNeg j.toNatClampNeg (defaultValue .int) (a := x) (by rw [hTh]; exact hx) i.toNatClampNeg
    rw [hF, hTh] at this
    exact this
  have hrow : ∀ q : Nat, q < i.toNatClampNeg → F.heap[H.size + 1 + q]? = some (arrV (xd_A (xy_D Y) 100) j.toNatClampNeg (fun _ => .int 0)) := fun q hq => by
    have := Jvm.Free.Multi.fill_inner (T.setVm vm₁) (xd_A (xy_D Y) 103) (xd_A (xy_D Y) 100) i.toNatClampNeg j.toNatClampNeg (defaultValue .int) i.toNatClampNeg q hq
    rw [hF, hTh] at this
    rw [this, ← arrV_new]
    rfl
  rw [show Jvm.Free.Multi.outerC (xd_A (xy_D Y) 103) i.toNatClampNeg H.size i.toNatClampNeg = _ from vr_outer (xd_A (xy_D Y) 103) i.toNatClampNeg H.size i.toNatClampNeg] at f2
  have hρ : ∀ a, (h a).isSome = true → xx_ρn ρ r (i.toNatClampNeg + 1) H.size a = ρ a := fun a ha => if_neg (xx_blk_some (c := cc) hr ha)
  have e5 : ∀ q, q < i.toNatClampNeg + 1 → xx_ρn ρ r (i.toNatClampNeg + 1) H.size (r + q) = H.size + q := fun q hq => by
    unfold xx_ρn
    rw [if_pos ⟨by omega, by omega⟩]
    omega
  have R1 := r9.news (k := k) (n := n) (a := 1 + i.toNatClampNeg) (b := i.toNatClampNeg + i.toNatClampNeg * j.toNatClampNeg) (r0 := r) (N := i.toNatClampNeg + 1) (c := cc) (st' := .ref r :: st) (H1 := F.heap) (by omega) (by omega) hr h1 (by rw [f1]; omega) hold (fun q hq => by
    cases q with
    | zero =>
      refine xx_cell.mk (by omega) ?_
      unfold xx_newc
      rw [c0, if_neg (show ¬ 103 < 100 by omega), if_pos (show 103 < 200 by omega), e5 0 (by omega)]
      show F.heap[H.size]? = _
      rw [f2]
      refine congrArg some (xx_arr_eq fun q hq => ?_)
      show va_rf (if q < i.toNatClampNeg then some (H.size + 1 + q) else none) = Value.ref (xx_ρn ρ r (i.toNatClampNeg + 1) H.size (r + 1 + q))
      rw [if_pos hq, show r + 1 + q = r + (1 + q) by omega, e5 (1 + q) (by omega), show H.size + 1 + q = H.size + (1 + q) by omega]
      rfl
    | succ q =>
      refine xx_cell.mk (by omega) ?_
      unfold xx_newc
      rw [c1, if_neg (show ¬ 100 < 100 by omega), if_pos (show 100 < 200 by omega), e5 (q + 1) (by omega), show H.size + (q + 1) = H.size + 1 + q by omega, hrow q (by omega)]
      rfl) (fun q q2 hq hq2 => by
    cases q with
    | zero =>
      rw [c0] at hq2 ⊢
      show (xx_blk h r (i.toNatClampNeg + 1) cc (r + 1 + q2)).isSome = true
      have hq2 : q2 < i.toNatClampNeg := hq2
      rw [show r + 1 + q2 = r + (1 + q2) by omega, xx_blk_in (by omega)]
      rfl
    | succ q =>
      rw [c1]
      exact trivial) (xx_hc (by show (xx_blk h r _ cc r).isSome = true; rw [xx_blk_0 (by omega)]; rfl) (fun v hv => xx_in_blk hr (xx_ht (xx_ht r9.stk) v hv)))
  have k1 := kk _ _ F.heap locs _ _ lsA R1
  rw [show (Value.ref r :: st).map (xx_v (xx_ρn ρ r (i.toNatClampNeg + 1) H.size)) = Value.ref H.size :: st.map (xx_v ρ) by rw [List.map_cons, xx_map_eq hρ (xx_ht (xx_ht r9.stk))]; show Value.ref (xx_ρn ρ r (i.toNatClampNeg + 1) H.size (r + 0)) :: _ = _; rw [e5 0 (by omega)]; rfl] at k1
  obtain ⟨t, a1, b1⟩ := k1 F rfl (by rw [show cells + (1 + i.toNatClampNeg) = cells + 1 + i.toNatClampNeg by omega, show slots + (i.toNatClampNeg + i.toNatClampNeg * j.toNatClampNeg) = slots + i.toNatClampNeg + i.toNatClampNeg * j.toNatClampNeg by omega]; exact X')
  refine ⟨t, step t ?_, b1⟩
  have eT : T.heap.size = H.size := by rw [hT]
  rw [eT]
  exact a1
end
