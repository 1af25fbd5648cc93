/-! ===== a method under way over an abstract heap ===== -/
def xx_good (w : Cond) : Bool := goodWord w
def xx_gws : List Cond := lw_tbl.filter goodWord
def xx_nest (w : Cond) : Bool := match w with
  | .fieldLinkNest .. => true
  | .methodLinkNest .. => true
  | .declares _ => true
  | .castable _ _ => true
  | .privateMethod _ => true
  | .publicMethod _ => true
  | .unhidden .. => true
  | .interfaceMethod r o _ _ => r == o && r != "java/lang/invoke/MethodHandle" && r != "java/lang/invoke/VarHandle"
  | _ => false
def xx_nws : List Cond := tables_1.filter xx_nest
def xx_strs : List (String × Nat × String) := tables_1.filterMap fun w => match w with
  | .stringRef own k tx => some (own, k, tx)
  | _ => none
/-- texts that the reference puts together: their place, and the name that their cell has -/
def xx_lits : List (String × Nat × String × Nat) := [("WavesaleModel", 335, ",", 5), ("WavesaleModel", 337, "", 6), ("WavesaleModel", 343, "-", 7)]
/-- what a handler's row lets by -/
def xx_ncs : List (String × String) := [("java/lang/IllegalArgumentException", "java/lang/IndexOutOfBoundsException"), ("java/lang/IllegalStateException", "java/lang/IndexOutOfBoundsException"), ("java/lang/IllegalStateException", "java/lang/IllegalArgumentException")]
def xx_N (D : XD) (U : State) : Prop := (∀ w ∈ xx_nws, va_Nw w U) ∧ (∀ q ∈ xx_strs, ∃ a, vk_R q.1 q.2.1 q.2.2 a U) ∧ (∀ q ∈ xx_lits, vk_R q.1 q.2.1 q.2.2.1 (xd_E D q.2.2.2) U) ∧ ∀ q ∈ xx_ncs, va_Nc q.1 q.2 U
theorem xx_N.warm {D : XD} {s U : State} (hW : s.WarmedH U.vm) (h : xx_N D s) : xx_N D U := by
  refine ⟨fun w hw => ?_, fun q hq => (h.2.1 q hq).imp fun a ha => ha.warm hW, fun q hq => (h.2.2.1 q hq).warm hW, fun q hq => (h.2.2.2 q hq).moved hW.alike⟩
  have h1 := h.1 w hw
  have h2 : xx_nest w = true := (List.mem_filter.mp hw).2
  cases w <;> first | exact va_Nw.warmF hW h1 | exact va_Nw.warmM hW h1 | exact va_Nw.warmD hW h1 | exact va_Nw.warmC hW h1 | exact va_tabs rfl (rfl : (s.setVm U.vm).vm = U.vm) (Cond.faceAtom_setVm hW.alike _ h2 h1) | (exact absurd h2 (by simp [xx_nest]))
theorem xx_N.same {D : XD} {s U : State} (e : s.vm = U.vm) (h : xx_N D s) : xx_N D U := by
  refine ⟨fun w hw => ?_, fun q hq => (h.2.1 q hq).imp fun a ha => ha.same e.symm, fun q hq => (h.2.2.1 q hq).same e.symm, fun q hq => (h.2.2.2 q hq).moved (by rw [← e]; exact Vm.Alike.refl _)⟩
  have h1 := h.1 w hw
  have h2 : xx_nest w = true := (List.mem_filter.mp hw).2
  cases w <;> first | exact va_Nw.same rfl e h1 | (exact absurd h2 (by simp [xx_nest]))
theorem xx_N.use {D : XD} {s : State} {args : Array Value} (h : xx_N D s) {w : Cond} (hw : w ∈ xx_nws) : w.before args s = true := by
  have h1 := h.1 w hw
  have h2 : xx_nest w = true := (List.mem_filter.mp hw).2
  cases w <;> first | exact va_Nw.use rfl h1 | (exact absurd h2 (by simp [xx_nest]))
/-- the place of a local that holds nothing to be read -/
abbrev xx_d : Value := .retAddr 0
def xx_lay : List Value → List Value
  | [] => []
  | v :: vs => if v.category = 2 then v :: xx_d :: xx_lay vs else v :: xx_lay vs
def xx_ls (as : List Value) (n : Nat) : List Value := xx_lay as ++ List.replicate (n - (xx_lay as).length) xx_d
def xx_isL (ls : List Value) (i : Nat) : Bool := match ls[i]? with
  | some (.long _) => true
  | some (.double _) => true
  | _ => false
def xx_clr (ls : List Value) (i : Nat) : List Value := match i with
  | 0 => ls
  | j + 1 => if xx_isL ls j then ls.set j xx_d else ls
def xx_set (ls : List Value) (i : Nat) (v : Value) : List Value := (xx_clr ls i).set i v
def xx_set2 (ls : List Value) (i : Nat) (v : Value) : List Value := ((xx_clr ls i).set i v).set (i + 1) xx_d
def xx_L (ρ : Nat → Nat) (nL : Nat) (ls : List Value) (lsA : Array Slot) : Prop := lsA.size = nL ∧ lv_wf lsA ∧ ∀ (i : Nat) (v : Value), ls[i]? = some v → v ≠ xx_d → lsA[i]? = some (Slot.val (xx_v ρ v))
def xx_pr (ρ : Nat → Nat) (ls : List Value) : List (Nat × Value) := (List.range ls.length).filterMap fun i => match ls[i]? with
  | some v => if v = xx_d then none else some (i, xx_v ρ v)
  | none => none
theorem xx_pr_in {ρ : Nat → Nat} {ls : List Value} {i : Nat} {v : Value} (h : ls[i]? = some v) (hv : v ≠ xx_d) : (i, xx_v ρ v) ∈ xx_pr ρ ls := by
  refine List.mem_filterMap.mpr ⟨i, List.mem_range.mpr (List.getElem?_eq_some_iff.mp h).1, ?_⟩
  simp only [h]
  rw [if_neg hv]
theorem xx_L.has {ρ : Nat → Nat} {nL : Nat} {ls : List Value} {lsA : Array Slot} (h : xx_L ρ nL ls lsA) : lv_has lsA nL (xx_pr ρ ls) := by
  refine ⟨h.1, h.2.1, fun q hq => ?_⟩
  obtain ⟨i, -, hi⟩ := List.mem_filterMap.mp hq
  cases e : ls[i]? with
  | none => rw [e] at hi; cases hi
  | some v =>
    rw [e] at hi
    by_cases hv : v = xx_d
    · simp [hv] at hi
    · simp only [hv, if_false, Option.some.injEq] at hi
      subst hi
      exact h.2.2 i v e hv
theorem xx_clr_get {ls : List Value} {i j : Nat} {w : Value} (h : (xx_clr ls i)[j]? = some w) (hw : w ≠ xx_d) : ls[j]? = some w ∧ ¬ (j + 1 = i ∧ w.category = 2) := by
  cases i with
  | zero => exact ⟨h, fun e => by omega⟩
  | succ i =>
    have h7 : (if xx_isL ls i = true then ls.set i xx_d else ls)[j]? = some w := h
    by_cases hl : xx_isL ls i = true
    · rw [if_pos hl, List.getElem?_set] at h7
      by_cases e : i = j
      · subst e
        simp only [if_true] at h7
        split at h7
        · exact absurd (Option.some.inj h7).symm hw
        · cases h7
      · rw [if_neg e] at h7
        exact ⟨h7, fun q => by omega⟩
    · rw [if_neg hl] at h7
      refine ⟨h7, fun ⟨e, c⟩ => ?_⟩
      obtain rfl : j = i := by omega
      apply hl
      unfold xx_isL
      rw [h7]
      cases w <;> first | rfl | (simp [Value.category] at c)
theorem xx_L.store1 {ρ : Nat → Nat} {nL : Nat} {ls : List Value} {lsA : Array Slot} {i : Nat} {v V : Value} (hV : V = xx_v ρ v)
    (hl : lv_has lsA nL ((i, V) :: (xx_pr ρ ls).filter (fun q => !(q.1 == i) && !(q.1 + 1 == i && q.2.category == 2)))) : xx_L ρ nL (xx_set ls i v) lsA := by
  refine ⟨hl.1, hl.2.1, fun j w hj hw => ?_⟩
  unfold xx_set at hj
  rw [List.getElem?_set] at hj
  by_cases e : i = j
  · subst e
    simp only [if_true] at hj
    split at hj
    · cases hj
      rw [← hV]
      exact hl.2.2 (i, V) List.mem_cons_self
    · cases hj
  · rw [if_neg e] at hj
    obtain ⟨h1, h2⟩ := xx_clr_get hj hw
    refine hl.2.2 (j, xx_v ρ w) (List.mem_cons_of_mem _ (List.mem_filter.mpr ⟨xx_pr_in h1 hw, ?_⟩))
    have e1 : (j == i) = false := by simp; exact fun q => e q.symm
    simp only [e1, Bool.not_false, Bool.true_and, Bool.not_eq_true', Bool.and_eq_false_iff, beq_eq_false_iff_ne, ne_eq]
    by_cases q : j + 1 = i
    · right
      intro c
      rw [xx_v_cat] at c
      exact h2 ⟨q, c⟩
    · left
      exact q
theorem xx_L.store2 {ρ : Nat → Nat} {nL : Nat} {ls : List Value} {lsA : Array Slot} {i : Nat} {v V : Value} (hV : V = xx_v ρ v)
    (hl : lv_has lsA nL ((i, V) :: (xx_pr ρ ls).filter (fun q => !(q.1 == i) && (!(q.1 == i + 1) && !(q.1 + 1 == i && q.2.category == 2))))) : xx_L ρ nL (xx_set2 ls i v) lsA := by
  refine ⟨hl.1, hl.2.1, fun j w hj hw => ?_⟩
  unfold xx_set2 at hj
  rw [List.getElem?_set] at hj
  by_cases e2 : i + 1 = j
  · subst e2
    simp only [if_true] at hj
    split at hj
    · exact absurd (Option.some.inj hj).symm hw
    · cases hj
  · rw [if_neg e2, List.getElem?_set] at hj
    by_cases e : i = j
    · subst e
      simp only [if_true] at hj
      split at hj
      · cases hj
        rw [← hV]
        exact hl.2.2 (i, V) List.mem_cons_self
      · cases hj
    · rw [if_neg e] at hj
      obtain ⟨h1, h2⟩ := xx_clr_get hj hw
      refine hl.2.2 (j, xx_v ρ w) (List.mem_cons_of_mem _ (List.mem_filter.mpr ⟨xx_pr_in h1 hw, ?_⟩))
      have e1 : (j == i) = false := by simp; exact fun q => e q.symm
      have e3 : (j == i + 1) = false := by simp; exact fun q => e2 q.symm
      simp only [e1, e3, Bool.not_false, Bool.true_and, Bool.not_eq_true', Bool.and_eq_false_iff, beq_eq_false_iff_ne, ne_eq]
      by_cases q : j + 1 = i
      · right
        intro c
        rw [xx_v_cat] at c
        exact h2 ⟨q, c⟩
      · left
        exact q
theorem xx_lay_args {ρ : Nat → Nat} : ∀ (as : List Value) (b i : Nat) (v : Value), (xx_lay as)[i]? = some v → v ≠ xx_d → (b + i, xx_v ρ v) ∈ lv_args b (as.map (xx_v ρ))
  | [], _, _, _, h, _ => by simp [xx_lay] at h
  | w :: ws, b, i, v, h, hv => by
    unfold xx_lay at h
    show (b + i, xx_v ρ v) ∈ (b, xx_v ρ w) :: lv_args (if (xx_v ρ w).category = 2 then b + 2 else b + 1) (ws.map (xx_v ρ))
    rw [xx_v_cat]
    by_cases c : w.category = 2
    · rw [if_pos c] at h ⊢
      cases i with
      | zero => simp at h; subst h; exact List.mem_cons_self
      | succ i =>
        cases i with
        | zero => simp at h; exact absurd h.symm hv
        | succ i =>
          simp at h
          have := xx_lay_args (ρ := ρ) ws (b + 2) i v h hv
          rw [show b + 2 + i = b + (i + 1 + 1) by omega] at this
          exact List.mem_cons_of_mem _ this
    · rw [if_neg c] at h ⊢
      cases i with
      | zero => simp at h; subst h; exact List.mem_cons_self
      | succ i =>
        simp at h
        have := xx_lay_args (ρ := ρ) ws (b + 1) i v h hv
        rw [show b + 1 + i = b + (i + 1) by omega] at this
        exact List.mem_cons_of_mem _ this
theorem xx_L.entry {ρ : Nat → Nat} {n : Nat} {as : List Value} {lsA : Array Slot} (h : lv_has lsA n (lv_args 0 (as.map (xx_v ρ)))) : xx_L ρ n (xx_ls as n) lsA := by
  refine ⟨h.1, h.2.1, fun i v hi hv => ?_⟩
  unfold xx_ls at hi
  rw [List.getElem?_append] at hi
  split at hi
  · have := xx_lay_args (ρ := ρ) as 0 i v hi hv
    rw [Nat.zero_add] at this
    exact h.2.2 _ this
  · rw [List.getElem?_replicate] at hi
    split at hi
    · exact absurd (Option.some.inj hi).symm hv
    · cases hi
abbrev XT : Type := Program × Launch × Env × Room × State × MethodId × Array Value × List Frame × Method × Code
/-- how a method ends: it returns, or throws an exception of that class -/
abbrev XO : Type := Option Value ⊕ String
/-- a method under way: the machine's own; the classes; names and heap at its start; what is owed at its end -/
abbrev XY : Type := XT × XD × (Nat → Nat) × XH × (XO → XH → Prop)
/-- a method: its name, its bytes, how many locals, what it returns, its class, how many arguments (without the receiver) -/
abbrev XM : Type := MethodName × ByteArray × Nat × Option FieldType × String × Nat
abbrev xt_p (X : XT) : Program := X.1
abbrev xt_l (X : XT) : Launch := X.2.1
abbrev xt_e (X : XT) : Env := X.2.2.1
abbrev xt_R (X : XT) : Room := X.2.2.2.1
abbrev xt_s (X : XT) : State := X.2.2.2.2.1
abbrev xt_m (X : XT) : MethodId := X.2.2.2.2.2.1
abbrev xt_a (X : XT) : Array Value := X.2.2.2.2.2.2.1
abbrev xt_b (X : XT) : List Frame := X.2.2.2.2.2.2.2.1
abbrev xt_h (X : XT) : Method := X.2.2.2.2.2.2.2.2.1
abbrev xt_c (X : XT) : Code := X.2.2.2.2.2.2.2.2.2
abbrev xy_D (Y : XY) : XD := Y.2.1
abbrev xy_ρ (Y : XY) : Nat → Nat := Y.2.2.1
abbrev xy_h (Y : XY) : XH := Y.2.2.2.1
abbrev xy_Q (Y : XY) : XO → XH → Prop := Y.2.2.2.2
def xx_Ag (h0 : XH) (ρ0 : Nat → Nat) (h : XH) (ρ : Nat → Nat) : Prop := ∀ r, (h0 r).isSome = true → (h r).isSome = true ∧ ρ r = ρ0 r
def xx_Qc (D : XD) (ρ0 : Nat → Nat) (h0 : XH) (Q : XO → XH → Prop) : Array Value → State → Outcome → State → Prop := fun _ _ o t =>
  ∃ (v : Option Value) (h' : XH) (ρ' : Nat → Nat) (ow' : Nat → Option Nat), o = .returned (v.map (xx_v ρ')) ∧ Q (.inl v) h' ∧ xx_S D ρ' ow' h' t.heap ∧ xx_Ag h0 ρ0 h' ρ' ∧ ∀ w, v = some w → xx_in h' w
def xx_Xc (D : XD) (ρ0 : Nat → Nat) (h0 : XH) (Q : XO → XH → Prop) : String → State → State → Prop := fun E _ t =>
  ∃ (h' : XH) (ρ' : Nat → Nat) (ow' : Nat → Option Nat), Q (.inr E) h' ∧ xx_S D ρ' ow' h' t.heap ∧ xx_Ag h0 ρ0 h' ρ'
def xx_Pc (D : XD) (ρ : Nat → Nat) (ow : Nat → Option Nat) (h : XH) (as : List Value) : Array Value → State → Prop := fun args U =>
  args = (as.map (xx_v ρ)).toArray ∧ xx_K D U ∧ xx_N D U ∧ xx_S D ρ ow h U.heap ∧ ∀ v ∈ as, xx_in h v
def xx_ws (M : XM) : List Cond := Cond.code M.1 M.2.1 M.2.2.1 M.2.2.2.1 :: xx_gws
def xx_rm (d k n : Nat) : Room := { frames := d, cells := k, slots := n, locals := 40 * d }
abbrev xx_fr (D : XD) : Addr → Prop := fun q => (xd_H D).size ≤ q
/-- a method's contract: called with these arguments over this heap it ends as Q says; it needs d frames, makes at most k cells of n slots -/
def XMet (l : Launch) (M : XM) (d k n : Nat) (as : List Value) (h : XH) (Q : XO → XH → Prop) : Prop :=
  ∀ (D : XD) (ρ : Nat → Nat) (ow : Nat → Option Nat), vx_Met l M.1 (xx_ws M) (xx_rm d k n) (xx_Pc D ρ ow h as) (xx_Qc D ρ h Q) (xx_Xc D ρ h Q) k n (xx_fr D)
def xx_Q (Y : XY) : State → Prop := vx_MQ (xt_b Y.1) (xx_Qc (xy_D Y) (xy_ρ Y) (xy_h Y) (xy_Q Y)) (xx_Xc (xy_D Y) (xy_ρ Y) (xy_h Y) (xy_Q Y)) (xt_a Y.1) (xt_s Y.1) (xt_R Y.1).cells (xt_R Y.1).slots (xx_fr (xy_D Y))
abbrev xx_W (Y : XY) (H : Heap) (locs : List Loc) (cells slots : Nat) (g : JFrame) : Prop := W (xt_p Y.1) (xt_l Y.1) (xt_e Y.1) (xt_R Y.1) (xt_s Y.1) (xt_m Y.1) (xt_a Y.1) (xt_b Y.1) (xt_h Y.1) (xt_c Y.1) H locs cells slots (xx_Q Y) g
/-- the abstract heap, locals and stack are what the machine's are -/
def xx_R (Y : XY) (k n : Nat) (h : XH) (ls st : List Value) (ρ : Nat → Nat) (ow : Nat → Option Nat) (H : Heap) (locs : List Loc) (cells slots : Nat) (lsA : Array Slot) : Prop :=
  xx_S (xy_D Y) ρ ow h H ∧ xx_Ag (xy_h Y) (xy_ρ Y) h ρ ∧ (∀ z ∈ locs, (xd_H (xy_D Y)).size ≤ z.base) ∧ cells + k ≤ (xt_R Y.1).cells ∧ slots + n ≤ (xt_R Y.1).slots ∧ xx_L ρ (xt_c Y.1).maxLocals ls lsA ∧ (∀ v ∈ ls, xx_in h v) ∧ ∀ v ∈ st, xx_in h v
/-- from here, with k cells and n slots left, the method comes to its end -/
def SW (Y : XY) (k n : Nat) (h : XH) (pc : Nat) (ls st : List Value) : Prop :=
  ∀ ρ ow H locs cells slots lsA, xx_R Y k n h ls st ρ ow H locs cells slots lsA → xx_W Y H locs cells slots (F0 (xt_m Y.1) pc lsA (st.map (xx_v ρ)))
/-- what holds of a method under way at all times -/
def xx_O (Y : XY) (M : XM) (l : Launch) (d : Nat) : Prop :=
  (xt_p Y.1).tables.exec = Jvm.exec ∧ (xt_c Y.1).code = M.2.1 ∧ (xt_c Y.1).maxLocals = M.2.2.1 ∧ (xt_h Y.1).sig.returnType = M.2.2.2.1 ∧ (xt_h Y.1).locks = false ∧ (∀ w ∈ xx_gws, w.before (xt_a Y.1) (xt_s Y.1) = true) ∧
  (xt_s Y.1).vm.findClass M.2.2.2.2.1 = some (xt_m Y.1).cls ∧ xx_K (xy_D Y) (xt_s Y.1) ∧ xx_N (xy_D Y) (xt_s Y.1) ∧ l.stackTraces = false ∧ (xt_h Y.1).name = M.1.name ∧ xt_l Y.1 = l ∧ d ≤ (xt_R Y.1).frames ∧ 40 * d ≤ (xt_R Y.1).locals ∧ (∀ E h9, xy_Q Y (.inr E) h9 → ∀ x ∈ (xt_c Y.1).exceptionTable.toList, False) ∧ ∀ a, a < (xd_H (xy_D Y)).size → (xt_s Y.1).heap[a]? = (xd_H (xy_D Y))[a]?
theorem XMet.of {l : Launch} {M : XM} {d k n : Nat} {as : List Value} {h : XH} {Q : XO → XH → Prop} (hl : l.stackTraces = false) (hy : plainName M.1.cls = true) (hown : M.1.cls = M.2.2.2.2.1) (hlen : (lg_sl as).length ≤ M.2.2.1)
    (body : ∀ Y : XY, xx_O Y M l d → xy_h Y = h → xy_Q Y = Q → SW Y k n h 0 (xx_ls as M.2.2.1) []) : XMet l M d k n as h Q := by
  intro D ρ ow
  refine vx_ofW (cc := M.2.1) (maxL := M.2.2.1) (ret := M.2.2.2.1) hy rfl ?_
  intro p e s m args below meth c s₁ B hml htab hv
  obtain ⟨rfl, hK, hN, hS, hin⟩ := hv
  have hts := atoms_spec (ws := xx_ws M) B.pre
  have hlen' : (lg_sl (as.map (xx_v ρ))).length ≤ M.2.2.1 := by
    have e : ∀ vs : List Value, (lg_sl (vs.map (xx_v ρ))).length = (lg_sl vs).length := by
      intro vs
      induction vs with
      | nil => rfl
      | cons v t ih =>
        simp only [lg_sl, List.map_cons, List.flatMap_cons, List.length_append, xx_v_cat] at ih ⊢
        rw [ih]
        split <;> rfl
    rw [e]
    exact hlen
  have hx := body ((p, l, e, (headSpec (xx_ws M) (xx_rm d k n)).room, s, m, (as.map (xx_v ρ)).toArray, below, meth, c), D, ρ, h, Q)
    ⟨B.exec, B.bytes, hml, B.returns, B.notSynchronized, fun w hw => hts w (List.mem_cons_of_mem _ hw), by rw [← hown]; exact findClass_of_methodNamed B.named, hK, hN, hl, (name_of_methodNamed B.named B.method).1, rfl, Nat.le_refl _, Nat.le_refl _, fun _ _ _ => htab, hS.2.1⟩ rfl rfl
  have hent := lv_entry (as.map (xx_v ρ)) (n := M.2.2.1) hlen'
  rw [lg_entry_eq]
  refine hx ρ ow s.heap [] 0 0 _ ⟨hS, fun r hr => ⟨hr, rfl⟩, fun z hz => absurd hz List.not_mem_nil, ?_, ?_, ?_, ?_, fun v hv => absurd hv List.not_mem_nil⟩
  · show 0 + k ≤ k
    omega
  · show 0 + n ≤ n
    omega
  · show xx_L ρ c.maxLocals _ _
    rw [hml]
    exact xx_L.entry hent
  · intro v hv
    unfold xx_ls at hv
    rcases List.mem_append.mp hv with h1 | h1
    · have : ∀ vs : List Value, (∀ w ∈ vs, xx_in h w) → ∀ w ∈ xx_lay vs, xx_in h w := by
        intro vs
        induction vs with
        | nil => intro _ w hw; cases hw
        | cons u t ih =>
          intro hu w hw
          unfold xx_lay at hw
          split at hw
          · rcases List.mem_cons.mp hw with rfl | hw
            · exact hu _ List.mem_cons_self
            · rcases List.mem_cons.mp hw with rfl | hw
              · exact trivial
              · exact ih (fun z hz => hu z (List.mem_cons_of_mem _ hz)) w hw
          · rcases List.mem_cons.mp hw with rfl | hw
            · exact hu _ List.mem_cons_self
            · exact ih (fun z hz => hu z (List.mem_cons_of_mem _ hz)) w hw
      exact this as hin v h1
    · rw [(List.mem_replicate.mp h1).2]
      exact trivial
