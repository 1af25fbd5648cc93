section
/-! ===== BEGIN a method of a class above, found by the receiver, that may throw (follows va_callVU, va_runU of this kit) ===== -/
section
variable {p : Program} {l : Launch} {e : Env} {R : Room} {s : State} {m : MethodId} {args : Array Value} {below : List Frame} {meth : Method} {c : Code} {H : Heap} {locs : List Loc} {cells slots : Nat}
theorem vx_callVU {T : State} {locs : List Loc} {cells slots : Nat} (X : Stand p l e R s m args below meth c T locs cells slots) (hexec : p.tables.exec = Jvm.exec) {own C owner : String} {index : Nat} {x y : MethodName} {bytes : ByteArray} {maxL : Nat} {ret : Option FieldType}
    (hown : s.vm.findClass own = some m.cls) (hlink : (Cond.methodLink own index x).before args s = true) (hsame : (Cond.sameMethod x.cls owner x.name x.desc).before args s = true)
    (hd0 : va_Decl s ⟨owner, x.name, x.desc⟩) (howner : owner ≠ "java/lang/invoke/MethodHandle" ∧ owner ≠ "java/lang/invoke/VarHandle")
    (hsel : (Cond.selects C x y).before args s = true) (hinst : (Cond.instanceMethod y).before args s = true) (hcode : (Cond.code y bytes maxL ret).before args s = true)
    {W : Nat} {Pre : Pt → Array Value → Prop} {Post : Pt → Array Value → Option Value → Pt → Prop} {PostX : Pt → Array Value → Addr → Pt → Prop} (hK : vx_Back l R p e below s args y 3 W Pre Post PostX)
    {b : Addr} {cellB : Cell} (hcell : T.heap[b]? = some cellB) (hobj : cellB.vm.isStatics = false) (hcls : s.vm.findClass C = some cellB.cls)
    {g : JFrame} (hg : g.method = m) (hsize : g.locals.size = c.maxLocals) {argsL rest : List Value} (hlen : ∀ sig, parseMethodDescriptor x.desc = some sig → argsL.length = sig.parameters.length)
    (hstack : g.stack = argsL.reverse ++ .ref b :: rest) (hW : 2 * g.monitorRoom + (rest.map fun v => v.category).sum ≤ W) (hdg : decode c.code g.pc = .ok (.invokevirtual index, 3))
    (hpre : ∀ vm₁, s.WarmedH vm₁ → Pre ⟨T.setVm vm₁, locs, cells, slots⟩ (Value.ref b :: argsL).toArray) :
    (∃ (v : Option Value) (vm₁ : Vm) (B : Pt), s.WarmedH vm₁ ∧ Stand p l e R s m args below meth c B.U B.locs B.cells B.slots ∧ Post ⟨T.setVm vm₁, locs, cells, slots⟩ (Value.ref b :: argsL).toArray v B ∧
      ∀ target, Steps p.tables e below (B.U.setTop { g with pc := g.pc + 3, stack := v.toList ++ rest }) target → Steps p.tables e below (T.setTop g) target) ∨
    (∃ (q : Addr) (vm₁ : Vm) (B : Pt), s.WarmedH vm₁ ∧ Stand p l e R s m args below meth c B.U B.locs B.cells B.slots ∧ PostX ⟨T.setVm vm₁, locs, cells, slots⟩ (Value.ref b :: argsL).toArray q B ∧
      Steps p.tables e below (T.setTop g) ((B.U.setTop { g with stack := rest }).pushFrame (.throwing q))) := by
  obtain ⟨r0, r, hn, hrm, hstR, hsigR⟩ := hd0
  obtain ⟨cn, ck, r1, hcn, hck, hni, hf, hn1⟩ := Cond.sameMethod_found hsame
  cases hn.symm.trans hn1
  obtain ⟨mk, methM, hnamed, hmethM, -, habM⟩ := Cond.instanceMethod_spec hinst
  obtain ⟨c2, r2, m2, q1, q2, q3, q4, kP, hkP, hkPi⟩ := Cond.selects_spec hsel
  cases hcls.symm.trans q1
  cases hf.symm.trans q2
  cases hnamed.symm.trans q3
  have hselP : selectMethod e.platform s.vm cellB.cls r0 = .method mk := by rw [Launch.admits_selectMethod X.admits]; exact q4
  obtain ⟨vm₁, X₁, hstep₁⟩ := X.invokevirtualUp hexec hown hlink hsame howner hn hrm hstR (a := b) (cell := cellB) hcell
    (fun z h => by rw [h] at hobj; cases hobj) hselP hmethM habM hkP hkPi (g := g) hg (argsL := argsL) (rest := rest) (hlen _ hsigR) hstack hdg
  rcases hK m meth c ⟨T.setVm vm₁, locs, cells, slots⟩ { g with stack := rest } (.invokevirtual index) mk (Value.ref b :: argsL).toArray X₁ hg hsize hdg hW (X₁.named hnamed) (hpre vm₁ X₁.warmed) with ⟨v, B, X', hpost, hsteps⟩ | ⟨q, B, X', hpost, hsteps⟩
  · exact Or.inl ⟨v, vm₁, B, X₁.warmed, X', hpost, fun target h => hstep₁ _ fun acts => by rw [doInvoke_state]; exact hsteps.trans h⟩
  · exact Or.inr ⟨q, vm₁, B, X₁.warmed, X', hpost, hstep₁ _ fun acts => by rw [doInvoke_state]; exact hsteps⟩
theorem vx_runU {x y : MethodName} {bytes cc : ByteArray} {maxL nL mc ms n index : Nat} {ret : Option FieldType} {ws : List Cond} {rm : Room} {Pc : Array Value → State → Prop} {Qc : Array Value → State → Outcome → State → Prop} {XC : String → State → State → Prop} {free : Addr → Prop} {Ts : List Cond} {own C owner : String} {b : Addr} {As rest : List Value} {g : JFrame}
    (S : CallFix p m c cc nL s args Ts own) (hM : vx_Met l y ws rm Pc Qc XC mc ms free) (cw : va_CU R s args own C owner index x y bytes maxL ret ws rm mc ms n) (hp : PreV s H C b Pc As)
    (hg : g.method = m) (hn : As.length = n) (hsize : g.locals.size = nL) (hstack : g.stack = As.reverse ++ .ref b :: rest) (hW : 2 * g.monitorRoom + (rest.map fun v => v.category).sum ≤ 8) (hdg : decode cc g.pc = .ok (.invokevirtual index, 3)) (hf : cells + mc ≤ R.cells ∧ slots + ms ≤ R.slots) :
    vx_Run p l e R s m args below meth c H locs cells slots mc ms g rest (Qc (Value.ref b :: As).toArray) XC free := by
  obtain ⟨hrc, hrs, hfr, hlo, hws, hcw⟩ := cw.back
  have hini := cw.init
  have hK : vx_Back l R p e below s args y 3 8 (PreOf R mc ms Pc) (PostOf Qc mc ms free) (vx_Post XC mc ms free) := vx_back (bytes := bytes) (maxL := maxL) (ret := ret) hM hp.1 hrc hrs hfr hlo hws hcw (fun a' U hW => word_at hW (Or.inl (by first | rfl | simp [Cond.onTables, Cond.keeps, Cond.steady])) hini)
  obtain ⟨hx, hb, hml, ho, -⟩ := S
  obtain ⟨-, ⟨cellB, hcB, hoB, hclB⟩, hPc⟩ := hp
  intro T hT X
  rcases vx_callVU X hx (C := C) (owner := owner) (bytes := bytes) (maxL := maxL) (ret := ret) ho cw.link cw.same cw.decl cw.notMH cw.sel cw.inst cw.code hK (by rw [hT]; exact hcB) hoB hclB hg (hsize.trans hml.symm) (argsL := As) (rest := rest) (fun sig h => hn.trans (cw.len sig h)) hstack hW (by rw [hb]; exact hdg)
    (fun vm₁ hW₁ => ⟨hf.1, hf.2, hPc (T.setVm vm₁) hT hW₁⟩) with ⟨v, vm₁, ⟨U', l2, c2, s2⟩, hW₁, X', ⟨g', mk, t, L, e1, e2, hq, h1, hL, h2, h3⟩, st⟩ | ⟨q, vm₁, ⟨U', l2, c2, s2⟩, hW₁, X', ⟨g', mk, t, L, E, ce, e1, e2, hq, hce, hcv, hcl, h1, hL, h2, h3⟩, st⟩
  · dsimp only [Pt.U, Pt.locs, Pt.cells, Pt.slots] at X' e1 e2 h1 h2 h3 st
    subst h1; subst h2; subst h3
    exact Or.inl ⟨v, (T.setVm vm₁).calling g' mk (Value.ref b :: As).toArray, t, U', L, hT, X', hL, e1, e2, hq, st⟩
  · dsimp only [Pt.U, Pt.locs, Pt.cells, Pt.slots] at X' e1 e2 h1 h2 h3 st hcl
    subst h1; subst h2; subst h3
    exact Or.inr ⟨q, (T.setVm vm₁).calling g' mk (Value.ref b :: As).toArray, t, U', L, E, ce, hT, X', hL, e1, e2, hq, hce, hcv, vx_cls hW₁ hcl, st⟩
end
/-! ===== END ===== -/
/-! ===== BEGIN super.m(..) that may throw (follows va_callSU, va_runSU) ===== -/
section
variable {p : Program} {l : Launch} {e : Env} {R : Room} {s : State} {m : MethodId} {args : Array Value} {below : List Frame} {meth : Method} {c : Code} {H : Heap} {locs : List Loc} {cells slots : Nat}
theorem vx_callSU {T : State} {locs : List Loc} {cells slots : Nat} (X : Stand p l e R s m args below meth c T locs cells slots) (hexec : p.tables.exec = Jvm.exec) {own : String} {index : Nat} {y : MethodName} {bytes : ByteArray} {maxL : Nat} {ret : Option FieldType}
    (hown : s.vm.findClass own = some m.cls) (hlink : (Cond.methodLink own index y).before args s = true) (hsame : (Cond.sameMethod y.cls y.cls y.name y.desc).before args s = true) (hsup : (Cond.superclass own y.cls).before args s = true)
    (hinst : (Cond.instanceMethod y).before args s = true) (hcode : (Cond.code y bytes maxL ret).before args s = true) (hno : y.name ≠ "<init>")
    {W : Nat} {Pre : Pt → Array Value → Prop} {Post : Pt → Array Value → Option Value → Pt → Prop} {PostX : Pt → Array Value → Addr → Pt → Prop} (hK : vx_Back l R p e below s args y 3 W Pre Post PostX)
    {b : Addr} {cellB : Cell} {kB : Class} (hcell : T.heap[b]? = some cellB) (hobj : cellB.vm.isStatics = false) (hkB : s.vm.classes[cellB.cls]? = some kB)
    {g : JFrame} (hg : g.method = m) (hsize : g.locals.size = c.maxLocals) {argsL rest : List Value} (hlen : ∀ sig, parseMethodDescriptor y.desc = some sig → argsL.length = sig.parameters.length)
    (hstack : g.stack = argsL.reverse ++ .ref b :: rest) (hW : 2 * g.monitorRoom + (rest.map fun v => v.category).sum ≤ W) (hdg : decode c.code g.pc = .ok (.invokespecial index, 3))
    (hpre : ∀ vm₁, s.WarmedH vm₁ → Pre ⟨T.setVm vm₁, locs, cells, slots⟩ (Value.ref b :: argsL).toArray) :
    (∃ (v : Option Value) (vm₁ : Vm) (B : Pt), s.WarmedH vm₁ ∧ Stand p l e R s m args below meth c B.U B.locs B.cells B.slots ∧ Post ⟨T.setVm vm₁, locs, cells, slots⟩ (Value.ref b :: argsL).toArray v B ∧
      ∀ target, Steps p.tables e below (B.U.setTop { g with pc := g.pc + 3, stack := v.toList ++ rest }) target → Steps p.tables e below (T.setTop g) target) ∨
    (∃ (q : Addr) (vm₁ : Vm) (B : Pt), s.WarmedH vm₁ ∧ Stand p l e R s m args below meth c B.U B.locs B.cells B.slots ∧ PostX ⟨T.setVm vm₁, locs, cells, slots⟩ (Value.ref b :: argsL).toArray q B ∧
      Steps p.tables e below (T.setTop g) ((B.U.setTop { g with stack := rest }).pushFrame (.throwing q))) := by
  obtain ⟨mk, methM, hnamed, hmethM, hstM, habM⟩ := Cond.instanceMethod_spec hinst
  obtain ⟨methM', cM, hmethM', -, -, -, -, -, -, hsigM⟩ := Cond.code_spec hnamed hcode
  cases hmethM.symm.trans hmethM'
  obtain ⟨ps, dk, kp, hps, hdk, hkp, hsuper, -, -, hnid⟩ := Cond.superclass_spec hown hsup
  have hn : s.methodNamed? ⟨y.cls, y.name, y.desc⟩ = some mk := hnamed
  have hpm : ps = mk.cls := Option.some.inj (hps.symm.trans (findClass_of_methodNamed hnamed))
  have hsub : s.vm.isSubclass ps mk.cls = true := by rw [hpm]; simp [Vm.isSubclass, Vm.isSubclassAux]
  obtain ⟨vm₁, X₁, hstep₁⟩ := X.invokespecialUp hexec hown hlink hsame hn hmethM hstM habM hno hdk hnid hps hsuper hsub (a := b) (cell := cellB) hcell
    (fun z h => by rw [h] at hobj; cases hobj) hkB (g := g) hg (argsL := argsL) (rest := rest) (hlen _ hsigM) hstack hdg
  rcases hK m meth c ⟨T.setVm vm₁, locs, cells, slots⟩ { g with stack := rest } (.invokespecial index) mk (Value.ref b :: argsL).toArray X₁ hg hsize hdg hW (X₁.named hnamed) (hpre vm₁ X₁.warmed) with ⟨v, B, X', hpost, hsteps⟩ | ⟨q, B, X', hpost, hsteps⟩
  · exact Or.inl ⟨v, vm₁, B, X₁.warmed, X', hpost, fun target h => hstep₁ _ (by rw [doInvoke_state]; exact hsteps.trans h)⟩
  · exact Or.inr ⟨q, vm₁, B, X₁.warmed, X', hpost, hstep₁ _ (by rw [doInvoke_state]; exact hsteps)⟩
theorem vx_runSU {y : MethodName} {bytes cc : ByteArray} {maxL nL mc ms n index : Nat} {ret : Option FieldType} {ws : List Cond} {rm : Room} {Pc : Array Value → State → Prop} {Qc : Array Value → State → Outcome → State → Prop} {XC : String → State → State → Prop} {free : Addr → Prop} {Ts : List Cond} {own C : String} {cC : ClassId} {b : Addr} {As rest : List Value} {g : JFrame}
    (hat : ClassAt s C cC) (S : CallFix p m c cc nL s args Ts own) (hM : vx_Met l y ws rm Pc Qc XC mc ms free) (cw : va_CS R s args own index y bytes maxL ret ws rm mc ms n) (hp : PreV s H C b Pc As)
    (hg : g.method = m) (hn : As.length = n) (hsize : g.locals.size = nL) (hstack : g.stack = As.reverse ++ .ref b :: rest) (hW : 2 * g.monitorRoom + (rest.map fun v => v.category).sum ≤ 8) (hdg : decode cc g.pc = .ok (.invokespecial index, 3)) (hf : cells + mc ≤ R.cells ∧ slots + ms ≤ R.slots) :
    vx_Run p l e R s m args below meth c H locs cells slots mc ms g rest (Qc (Value.ref b :: As).toArray) XC free := by
  obtain ⟨⟨hrc, hrs, hfr, hlo, hws, hcw⟩, hl1, hl2, hl3, hl4, hini, hcode, hno, hlen⟩ := cw
  have hK : vx_Back l R p e below s args y 3 8 (PreOf R mc ms Pc) (PostOf Qc mc ms free) (vx_Post XC mc ms free) := vx_back (bytes := bytes) (maxL := maxL) (ret := ret) hM hp.1 hrc hrs hfr hlo hws hcw (fun a' U hW => word_at hW (Or.inl (by first | rfl | simp [Cond.onTables, Cond.keeps, Cond.steady])) hini)
  obtain ⟨hx, hb, hml, ho, -⟩ := S
  obtain ⟨-, ⟨cellB, hcB, hoB, hclB⟩, hPc⟩ := hp
  obtain ⟨hfc, kB, hkB, -⟩ := hat
  cases hfc.symm.trans hclB
  intro T hT X
  rcases vx_callSU X hx (bytes := bytes) (maxL := maxL) (ret := ret) ho hl1 hl2 hl3 hl4 hcode hno hK (by rw [hT]; exact hcB) hoB hkB hg (hsize.trans hml.symm) (argsL := As) (rest := rest) (fun sig h => hn.trans (hlen sig h)) hstack hW (by rw [hb]; exact hdg)
    (fun vm₁ hW₁ => ⟨hf.1, hf.2, hPc (T.setVm vm₁) hT hW₁⟩) with ⟨v, vm₁, ⟨U', l2, c2, s2⟩, hW₁, X', ⟨g', mk, t, L, e1, e2, hq, h1, hL, h2, h3⟩, st⟩ | ⟨q, vm₁, ⟨U', l2, c2, s2⟩, hW₁, X', ⟨g', mk, t, L, E, ce, e1, e2, hq, hce, hcv, hcl, h1, hL, h2, h3⟩, st⟩
  · dsimp only [Pt.U, Pt.locs, Pt.cells, Pt.slots] at X' e1 e2 h1 h2 h3 st
    subst h1; subst h2; subst h3
    exact Or.inl ⟨v, (T.setVm vm₁).calling g' mk (Value.ref b :: As).toArray, t, U', L, hT, X', hL, e1, e2, hq, st⟩
  · dsimp only [Pt.U, Pt.locs, Pt.cells, Pt.slots] at X' e1 e2 h1 h2 h3 st hcl
    subst h1; subst h2; subst h3
    exact Or.inr ⟨q, (T.setVm vm₁).calling g' mk (Value.ref b :: As).toArray, t, U', L, E, ce, hT, X', hL, e1, e2, hq, hce, hcv, vx_cls hW₁ hcl, st⟩
end
/-! ===== END ===== -/
/-! ===== calls of what a class above declares; copies of bytes ===== -/
theorem xx_selP {C : String} {n : Nat} {y : MethodName} {args : Array Value} {s : State} (hins : (Cond.instantiable C n).before args s = true) (hsame : (Cond.sameMethod y.cls y.cls y.name y.desc).before args s = true) (hpriv : (Cond.privateMethod y).before args s = true) (hinst : (Cond.instanceMethod y).before args s = true) :
    (Cond.selects C y y).before args s = true := by
  obtain ⟨c, k, hc, hk, -, -, -, -⟩ := Cond.instantiable_spec hins
  obtain ⟨cn, ck, r, hcn, hck, hni, hfound, hn1⟩ := Cond.sameMethod_found hsame
  obtain ⟨mk, methM, hnamed, hmethM, -, -⟩ := Cond.instanceMethod_spec hinst
  have e9 : mk = r := Option.some.inj (hnamed.symm.trans (show s.methodNamed? y = some r from hn1))
  subst e9
  have hcls : mk.cls = cn := Option.some.inj ((findClass_of_methodNamed hnamed).symm.trans hcn)
  have hsel : selectMethod {} s.vm c mk = .method mk := selectMethod_private hmethM (Cond.privateMethod_at hpriv mk methM hnamed hmethM)
  simp only [Cond.before, Cond.holds, Cond.value, hc, hfound, hnamed, hsel, hcls, hck]
  simp; exact hni
section
variable {Y : XY} {M : XM} {l : Launch} {d k n : Nat} {h : XH} {pc : Nat} {ls st : List Value} {ρ : Nat → Nat} {ow : Nat → Option Nat} {H : Heap} {locs : List Loc} {cells slots : Nat} {lsA : Array Slot}
/-- how a method is found from an object's class -/
def xx_slc (C : String) (y : MethodName) : Prop := Cond.instanceMethod y ∈ xx_gws ∧ (Cond.selects C y y ∈ xx_gws ∨ ∃ n, Cond.instantiable C n ∈ xx_gws ∧ Cond.sameMethod y.cls y.cls y.name y.desc ∈ xx_gws ∧ Cond.privateMethod y ∈ xx_nws)
/-- a method that a class above declares (and the object's class doesn't) -/
theorem sw_callWx {M' : XM} {d' k' n' idx ci N b : Nat} {f : Nat → Value} {C : String} {T : u_T} {ty : Nat → FieldType} {as stk : List Value} {v : Option Value} {h2 : XH} (O : xx_O Y M l d) (hM : XEx l M' d' k' n' (.ref b :: as) h v h2) (E : xx_ce M') (hl : Cond.methodLink M.2.2.2.2.1 idx M'.1 ∈ xx_gws) (hsel : xx_slc C M'.1)
    (K : xx_cl ci C T N ty) (hb : h b = some (ci, N, f)) (hd : decode M.2.1 pc = .ok (.invokevirtual idx, 3)) (hdd : d' + 1 ≤ d) (hn : as.length = M'.2.2.2.2.2) (hs : stk = as.reverse ++ .ref b :: st) (hc : (st.map fun v => v.category).sum ≤ 8)
    {st2 : List Value} (h2s : v.toList ++ st = st2) (kk : SW Y k n h2 (pc + 3) ls st2) : SW Y (k + k') (n + n') h pc ls stk := by
  subst hs
  intro ρ ow H locs cells slots lsA r9
  obtain ⟨⟨cell, q1, q2, q3, q4⟩, hS, hfc, -⟩ := r9.obj O K hb
  have hst : ∀ v ∈ st, xx_in h v := fun v hv => r9.stk v (List.mem_append_right _ (List.mem_cons_of_mem _ hv))
  have has : ∀ v ∈ (Value.ref b :: as), xx_in h v := fun v hv => by
    rcases List.mem_cons.mp hv with rfl | hv
    · exact r9.stk _ (List.mem_append_right _ List.mem_cons_self)
    · exact r9.stk v (List.mem_append_left _ (List.mem_reverse.mpr hv))
  have S : CallFix (xt_p Y.1) (xt_m Y.1) (xt_c Y.1) M.2.1 (xt_c Y.1).maxLocals (xt_s Y.1) (xt_a Y.1) xx_gws M.2.2.2.2.1 := ⟨O.1, O.2.1, rfl, O.2.2.2.2.2.2.1, O.2.2.2.2.2.1⟩
  have hM' := hM (xy_D Y) ρ ow
  rw [← O.2.2.2.2.2.2.2.2.2.2.2.1] at hM'
  have hp : PreV (xt_s Y.1) H C (ρ b) (xx_Pc (xy_D Y) ρ ow h (.ref b :: as)) (as.map (xx_v ρ)) := ⟨xx_blind, ⟨cell, q1, q3.1, by rw [q2]; exact hfc⟩, fun U hU hW => ⟨rfl, xx_K.moved hW.alike O.2.2.2.2.2.2.2.1, xx_N.warm hW O.2.2.2.2.2.2.2.2.1, by rw [hU]; exact r9.1, has⟩⟩
  have hw := O.2.2.2.2.2.1
  have hse : (Cond.selects C M'.1 M'.1).before (xt_a Y.1) (xt_s Y.1) = true := by
    rcases hsel.2 with w | ⟨n9, w1, w2, w3⟩
    · exact hw _ w
    · exact xx_selP (hw _ w1) (hw _ w2) (va_Nw.use rfl (O.2.2.2.2.2.2.2.2.1.1 _ w3)) (hw _ hsel.1)
  refine xx_run (Q' := fun o g => o = .inl v ∧ g = h2) O r9 hst (a := (Value.ref (ρ b) :: as.map (xx_v ρ)).toArray) ?_ (fun v' h' q _ => by obtain ⟨e1, rfl⟩ := q; cases e1; rw [h2s]; exact kk) (fun E h' q => by obtain ⟨e1, -⟩ := q; cases e1)
  exact vx_runV S hM' ⟨xx_callB O E hdd hl, hw _ hsel.1, hse⟩ hp rfl (by rw [List.length_map]; exact hn) r9.L.1 xx_stk (lv_room (by rw [xx_cats]; exact hc)) hd (by have := r9.2.2.2.1; have := r9.2.2.2.2.1; omega)
/-- super.m(..) -/
def xx_su (own : String) (idx : Nat) (y : MethodName) : Prop := Cond.methodLink own idx y ∈ xx_gws ∧ Cond.sameMethod y.cls y.cls y.name y.desc ∈ xx_gws ∧ Cond.superclass own y.cls ∈ xx_gws ∧ Cond.instanceMethod y ∈ xx_gws ∧ y.name ≠ "<init>"
theorem sw_callSUx {M' : XM} {d' k' n' idx ci N b : Nat} {f : Nat → Value} {C : String} {T : u_T} {ty : Nat → FieldType} {as stk : List Value} {v : Option Value} {h2 : XH} (O : xx_O Y M l d) (hM : XEx l M' d' k' n' (.ref b :: as) h v h2) (E : xx_ce M') (hl : xx_su M.2.2.2.2.1 idx M'.1)
    (K : xx_cl ci C T N ty) (hb : h b = some (ci, N, f)) (hd : decode M.2.1 pc = .ok (.invokespecial idx, 3)) (hdd : d' + 1 ≤ d) (hn : as.length = M'.2.2.2.2.2) (hs : stk = as.reverse ++ .ref b :: st) (hc : (st.map fun v => v.category).sum ≤ 8)
    {st2 : List Value} (h2s : v.toList ++ st = st2) (kk : SW Y k n h2 (pc + 3) ls st2) : SW Y (k + k') (n + n') h pc ls stk := by
  subst hs
  intro ρ ow H locs cells slots lsA r9
  obtain ⟨⟨cell, q1, q2, q3, q4⟩, hS, hfc, kC, hkC, hkind⟩ := r9.obj O K hb
  have hst : ∀ v ∈ st, xx_in h v := fun v hv => r9.stk v (List.mem_append_right _ (List.mem_cons_of_mem _ hv))
  have has : ∀ v ∈ (Value.ref b :: as), xx_in h v := fun v hv => by
    rcases List.mem_cons.mp hv with rfl | hv
    · exact r9.stk _ (List.mem_append_right _ List.mem_cons_self)
    · exact r9.stk v (List.mem_append_left _ (List.mem_reverse.mpr hv))
  have S : CallFix (xt_p Y.1) (xt_m Y.1) (xt_c Y.1) M.2.1 (xt_c Y.1).maxLocals (xt_s Y.1) (xt_a Y.1) xx_gws M.2.2.2.2.1 := ⟨O.1, O.2.1, rfl, O.2.2.2.2.2.2.1, O.2.2.2.2.2.1⟩
  have hM' := hM (xy_D Y) ρ ow
  rw [← O.2.2.2.2.2.2.2.2.2.2.2.1] at hM'
  have hp : PreV (xt_s Y.1) H C (ρ b) (xx_Pc (xy_D Y) ρ ow h (.ref b :: as)) (as.map (xx_v ρ)) := ⟨xx_blind, ⟨cell, q1, q3.1, by rw [q2]; exact hfc⟩, fun U hU hW => ⟨rfl, xx_K.moved hW.alike O.2.2.2.2.2.2.2.1, xx_N.warm hW O.2.2.2.2.2.2.2.2.1, by rw [hU]; exact r9.1, has⟩⟩
  have hw := O.2.2.2.2.2.1
  have B := xx_callB (k' := k') (n' := n') O E hdd hl.1
  refine xx_run (Q' := fun o g => o = .inl v ∧ g = h2) O r9 hst (a := (Value.ref (ρ b) :: as.map (xx_v ρ)).toArray) ?_ (fun v' h' q _ => by obtain ⟨e1, rfl⟩ := q; cases e1; rw [h2s]; exact kk) (fun E h' q => by obtain ⟨e1, -⟩ := q; cases e1)
  obtain ⟨b1, b2, b3, b4, b5, b6, b7, b8, -, b9, b10⟩ := B
  exact vx_runSU ⟨hfc, kC, hkC, hkind⟩ S hM' ⟨⟨b1, b2, b3, b4, b5, b6⟩, b10, hw _ hl.2.1, hw _ hl.2.2.1, hw _ hl.2.2.2.1, b8, b7, hl.2.2.2.2, b9⟩ hp rfl (by rw [List.length_map]; exact hn) r9.L.1 xx_stk (lv_room (by rw [xx_cats]; exact hc)) hd (by have := r9.2.2.2.1; have := r9.2.2.2.2.1; omega)
/-- a method of a class above that the object's class overrides -/
def xx_ov (own C : String) (idx : Nat) (x y : MethodName) (b0 : ByteArray) (m0 : Nat) (r0 : Option FieldType) : Prop := Cond.methodLink own idx x ∈ xx_gws ∧ Cond.sameMethod x.cls x.cls x.name x.desc ∈ xx_gws ∧ Cond.instanceMethod x ∈ xx_gws ∧ Cond.code x b0 m0 r0 ∈ xx_gws ∧ Cond.selects C x y ∈ xx_gws ∧ Cond.instanceMethod y ∈ xx_gws ∧ (x.cls ≠ "java/lang/invoke/MethodHandle" ∧ x.cls ≠ "java/lang/invoke/VarHandle") ∧ x.desc = y.desc
theorem sw_callUx {x : MethodName} {b0 : ByteArray} {m0 : Nat} {r0 : Option FieldType} {M' : XM} {d' k' n' idx ci N b : Nat} {f : Nat → Value} {C : String} {T : u_T} {ty : Nat → FieldType} {as stk : List Value} {v : Option Value} {h2 : XH} (O : xx_O Y M l d) (hM : XEx l M' d' k' n' (.ref b :: as) h v h2) (E : xx_ce M') (hl : xx_ov M.2.2.2.2.1 C idx x M'.1 b0 m0 r0)
    (K : xx_cl ci C T N ty) (hb : h b = some (ci, N, f)) (hd : decode M.2.1 pc = .ok (.invokevirtual idx, 3)) (hdd : d' + 1 ≤ d) (hn : as.length = M'.2.2.2.2.2) (hs : stk = as.reverse ++ .ref b :: st) (hc : (st.map fun v => v.category).sum ≤ 8)
    {st2 : List Value} (h2s : v.toList ++ st = st2) (kk : SW Y k n h2 (pc + 3) ls st2) : SW Y (k + k') (n + n') h pc ls stk := by
  subst hs
  intro ρ ow H locs cells slots lsA r9
  obtain ⟨⟨cell, q1, q2, q3, q4⟩, hS, hfc, -⟩ := r9.obj O K hb
  have hst : ∀ v ∈ st, xx_in h v := fun v hv => r9.stk v (List.mem_append_right _ (List.mem_cons_of_mem _ hv))
  have has : ∀ v ∈ (Value.ref b :: as), xx_in h v := fun v hv => by
    rcases List.mem_cons.mp hv with rfl | hv
    · exact r9.stk _ (List.mem_append_right _ List.mem_cons_self)
    · exact r9.stk v (List.mem_append_left _ (List.mem_reverse.mpr hv))
  have S : CallFix (xt_p Y.1) (xt_m Y.1) (xt_c Y.1) M.2.1 (xt_c Y.1).maxLocals (xt_s Y.1) (xt_a Y.1) xx_gws M.2.2.2.2.1 := ⟨O.1, O.2.1, rfl, O.2.2.2.2.2.2.1, O.2.2.2.2.2.1⟩
  have hM' := hM (xy_D Y) ρ ow
  rw [← O.2.2.2.2.2.2.2.2.2.2.2.1] at hM'
  have hp : PreV (xt_s Y.1) H C (ρ b) (xx_Pc (xy_D Y) ρ ow h (.ref b :: as)) (as.map (xx_v ρ)) := ⟨xx_blind, ⟨cell, q1, q3.1, by rw [q2]; exact hfc⟩, fun U hU hW => ⟨rfl, xx_K.moved hW.alike O.2.2.2.2.2.2.2.1, xx_N.warm hW O.2.2.2.2.2.2.2.2.1, by rw [hU]; exact r9.1, has⟩⟩
  have hw := O.2.2.2.2.2.1
  have hR := O.2.2.2.2.2.2.2.2.2.2.2.2
  obtain ⟨l1, l2, l3, l4, l5, l6, l7, l8⟩ := hl
  have hlo := E.2.2.2.2
  refine xx_run (Q' := fun o g => o = .inl v ∧ g = h2) O r9 hst (a := (Value.ref (ρ b) :: as.map (xx_v ρ)).toArray) ?_ (fun v' h' q _ => by obtain ⟨e1, rfl⟩ := q; cases e1; rw [h2s]; exact kk) (fun E h' q => by obtain ⟨e1, -⟩ := q; cases e1)
  refine vx_runU (C := C) (owner := x.cls) (x := x) S hM' ⟨⟨rfl, rfl, ?_, ?_, xx_ws_at O E.1, List.mem_cons_self⟩, hw _ E.1, hw _ E.2.1, l7, fun sig q => E.par sig (by rw [← l8]; exact q), hw _ l1, hw _ l2, va_Decl.of (hw _ l3) (hw _ l4), hw _ l5, hw _ l6⟩ hp rfl (by rw [List.length_map]; exact hn) r9.L.1 xx_stk (lv_room (by rw [xx_cats]; exact hc)) hd (by have := r9.2.2.2.1; have := r9.2.2.2.2.1; omega)
  · exact Nat.le_trans hdd hR.1
  · refine Nat.le_trans ?_ hR.2.1
    show 8 + (M'.2.2.1 + 11) + 40 * d' ≤ 40 * d
    omega
theorem sw_copyB {idx N0 N1 r0 r1 : Nat} {f g : Nat → Value} {n9 : Int32} (O : xx_O Y M l d) (K : xx_ac M.2.2.2.2.1 idx) (hd : decode M.2.1 pc = .ok (.invokestatic idx, 3)) (hc0 : h r0 = some (102, N0, f)) (hc1 : h r1 = some (102, N1, g)) (h9 : 1000 ≤ r1) (h3 : ¬ n9 < 0) (h4 : n9.toNatClampNeg ≤ N0) (h5 : n9.toNatClampNeg ≤ N1)
    (hel : ∀ j, j < n9.toNatClampNeg → ∃ z : Int32, f j = .int z ∧ fits .byte (.int z) = true)
    (hdd : 1 ≤ d) (hw : (st.map fun v => v.category).sum + (nativeFrameWords "java/lang/System" "arraycopy" 5 + 11) ≤ 40) {h2' : XH} (he : xx_up h r1 (102, N1, fun j => if j < n9.toNatClampNeg then f j else g j) = h2') (kk : SW Y k n h2' (pc + 3) ls st) : SW Y k n h pc ls (.int n9 :: .int 0 :: .ref r1 :: .int 0 :: .ref r0 :: st) := by
  subst he
  intro ρ ow H locs cells slots lsA r9
  have nn : ∀ z : Int32, ¬ z < 0 → z.toInt = (z.toNatClampNeg : Int) := by
    intro z hz
    have hz0 : (0 : Int) ≤ z.toInt := by
      have := Int32.not_lt.mp hz
      simpa using Int32.le_iff_toInt_le.mp this
    show z.toInt = ((z.toInt.toNat : Nat) : Int)
    omega
  have hcat : ((st.map (xx_v ρ)).map fun v => v.category).sum = (st.map fun v => v.category).sum := by
    rw [List.map_map]
    exact congrArg List.sum (List.map_congr_left fun v _ => xx_v_cat ρ v)
  obtain ⟨hK0, -⟩ := O.2.2.2.2.2.2.2.1.2.2 102 (by omega) (by omega)
  obtain ⟨cs, q0, a0, a1, a2, -, a4⟩ := r9.arrW O (by omega) (by omega) hc0
  obtain ⟨q1, -⟩ := r9.arr O (by omega) (by omega) hc1 h9
  generalize hcA : xd_A (xy_D Y) 102 = cA at hK0 q1
  obtain ⟨hns, k0, hk0, cm0, hkk0⟩ := a0
  obtain ⟨-, k1, hk1, cm1, hkk1⟩ := hK0 N1 (fun j => xx_v ρ (g j))
  have hgw := O.2.2.2.2.2.1
  intro T hT X
  obtain ⟨vm', X', step⟩ := X.arraycopy O.1 O.2.2.2.2.2.2.1 (hgw _ K.1) (hgw _ K.2.1) (hgw _ K.2.2.1) (hgw _ K.2.2.2) (src := ρ r0) (dst := ρ r1) (cs := cs) (cd := arrV cA N1 (fun j => xx_v ρ (g j))) (srcPos := 0) (destPos := 0) (n := n9) (by rw [hT]; exact q0) (by rw [hT]; exact q1)
    hns (fun _ h => by cases h) a1 (fun h => by cases h) hk0 hk1 hkk0 hkk1 (by simp [xx_aty, refKind]) (by decide) (by decide) h3
    (by rw [nn n9 h3, show (0 : Int32).toInt = 0 from rfl]; omega)
    (by rw [nn n9 h3, show (0 : Int32).toInt = 0 from rfl]; rw [arrV_size]; omega)
    (fun vm₁ hal i hi => by
      have e : cs.slots.getD ((0 : Int32).toNatClampNeg + i) .null = xx_v ρ (f i) := by
        rw [show (0 : Int32).toNatClampNeg + i = i from Nat.zero_add i, Array.getD_eq_getD_getElem?, a4 _ (by omega)]
        rfl
      rw [e]
      obtain ⟨z, e2, e3⟩ := hel i hi
      rw [e2]
      exact ⟨e3, trivial⟩)
    (g := F0 (xt_m Y.1) pc lsA (.int n9 :: .int 0 :: .ref (ρ r1) :: .int 0 :: .ref (ρ r0) :: st.map (xx_v ρ))) rfl (by show lsA.size = _; exact r9.L.1) (rest := st.map (xx_v ρ)) rfl (by rw [O.2.1]; exact hd) (by exact Nat.le_trans hdd O.2.2.2.2.2.2.2.2.2.2.2.2.1) (by show 2 * 0 + _ + _ ≤ _; rw [hcat]; have h9 := O.2.2.2.2.2.2.2.2.2.2.2.2.2.1; omega)
  have e1 : copied cs (arrV cA N1 (fun j => xx_v ρ (g j))) 0 0 n9 = arrV cA N1 (fun j => xx_v ρ (if j < n9.toNatClampNeg then f j else g j)) := by
    have h6 := va_copiedX (fun z => xx_v ρ z) cs cA f g a4 (sp := (0 : Int32).toNatClampNeg) (dp := (0 : Int32).toNatClampNeg) (n := n9.toNatClampNeg) (n0 := N0) (n1 := N1) (by show 0 + _ ≤ _; omega)
    refine h6.trans (xx_arr_eq fun j hj => ?_)
    show xx_v ρ (va_cpy f g 0 0 n9.toNatClampNeg j) = _
    unfold va_cpy
    congr 1
    by_cases q : j < n9.toNatClampNeg
    · rw [if_pos (by omega), if_pos q, Nat.zero_add, Nat.sub_zero]
    · rw [if_neg (by omega), if_neg q]
  rw [e1] at X' step
  have hl : ρ r1 < H.size := (Array.getElem?_eq_some_iff.mp q1).1
  generalize hnew : arrV cA N1 (fun j => xx_v ρ (if j < n9.toNatClampNeg then f j else g j)) = cnew at X' step
  have hheap : ((T.setVm vm').setCell (ρ r1) cnew).heap = H.setIfInBounds (ρ r1) cnew := by rw [← hT]; rfl
  have oq : ∀ q : Nat, q ≠ ρ r1 → (H.setIfInBounds (ρ r1) cnew)[q]? = H[q]? := fun q hq => by simp [Array.getElem?_setIfInBounds, Ne.symm hq]
  have oe : (H.setIfInBounds (ρ r1) cnew)[ρ r1]? = some cnew := by simp [Array.getElem?_setIfInBounds, hl]
  obtain ⟨t, a1, b1⟩ := kk ρ ow _ _ cells slots lsA (r9.putL hc1 h9 (by simp) oq (fun q hq => by
      rcases List.mem_append.mp hq with h | h
      · exact .inl h
      · obtain ⟨z, -, hz⟩ := List.mem_map.mp h
        exact .inr (by rw [← hz])) (by
      refine xx_cell.mk h9 ?_
      unfold xx_newc
      rw [if_neg (by show ¬ 102 < 100; omega), if_pos (by show 102 < 200; omega), oe, ← hnew, ← hcA]) (fun j hj => by
      show xx_in h (if j < n9.toNatClampNeg then f j else g j)
      split
      · rename_i q
        exact r9.1.2.2.2.2 r0 _ j hc0 (show j < N0 by omega)
      · exact r9.1.2.2.2.2 r1 _ j hc1 hj) (xx_ht (xx_ht (xx_ht (xx_ht (xx_ht r9.stk)))))) _ hheap X'
  exact ⟨t, step t a1, b1⟩
end
end
section
/-! ===== words of calls up the classes ===== -/
def gwl_S2 : List Cond := [(Jvm.Cond.instantiable "java/lang/StringBuilder" (4 : Nat)), (Jvm.Cond.superclass "java/lang/StringBuilder" "java/lang/AbstractStringBuilder"), (Jvm.Cond.methodLink "java/lang/StringBuilder" (333 : Nat) ({ cls := "java/lang/AbstractStringBuilder", name := "setLength", desc := "(I)V" } : Jvm.MethodName)), (Jvm.Cond.instanceMethod ({ cls := "java/lang/AbstractStringBuilder", name := "setLength", desc := "(I)V" } : Jvm.MethodName)), (Jvm.Cond.methodLink "java/lang/StringBuilder" (29 : Nat) ({ cls := "java/lang/AbstractStringBuilder", name := "append", desc := "(Ljava/lang/String;)Ljava/lang/AbstractStringBuilder;" } : Jvm.MethodName)), (Jvm.Cond.instanceMethod ({ cls := "java/lang/AbstractStringBuilder", name := "append", desc := "(Ljava/lang/String;)Ljava/lang/AbstractStringBuilder;" } : Jvm.MethodName)), (Jvm.Cond.methodLink "java/lang/AbstractStringBuilder" (100 : Nat) ({ cls := "java/lang/AbstractStringBuilder", name := "ensureCapacityInternal", desc := "(I)V" } : Jvm.MethodName)), (Jvm.Cond.instanceMethod ({ cls := "java/lang/AbstractStringBuilder", name := "ensureCapacityInternal", desc := "(I)V" } : Jvm.MethodName)), (Jvm.Cond.methodLink "java/lang/AbstractStringBuilder" (83 : Nat) ({ cls := "java/lang/AbstractStringBuilder", name := "isLatin1", desc := "()Z" } : Jvm.MethodName)), (Jvm.Cond.instanceMethod ({ cls := "java/lang/AbstractStringBuilder", name := "isLatin1", desc := "()Z" } : Jvm.MethodName)), (Jvm.Cond.selects "java/lang/StringBuilder" ({ cls := "java/lang/AbstractStringBuilder", name := "isLatin1", desc := "()Z" } : Jvm.MethodName) ({ cls := "java/lang/AbstractStringBuilder", name := "isLatin1", desc := "()Z" } : Jvm.MethodName)), (Jvm.Cond.methodLink "java/lang/AbstractStringBuilder" (208 : Nat) ({ cls := "java/lang/AbstractStringBuilder", name := "putStringAt", desc := "(ILjava/lang/String;)V" } : Jvm.MethodName)), (Jvm.Cond.instanceMethod ({ cls := "java/lang/AbstractStringBuilder", name := "putStringAt", desc := "(ILjava/lang/String;)V" } : Jvm.MethodName)), (Jvm.Cond.methodLink "java/lang/AbstractStringBuilder" (397 : Nat) ({ cls := "java/lang/AbstractStringBuilder", name := "inflateIfNeededFor", desc := "(Ljava/lang/String;)V" } : Jvm.MethodName)), (Jvm.Cond.instanceMethod ({ cls := "java/lang/AbstractStringBuilder", name := "inflateIfNeededFor", desc := "(Ljava/lang/String;)V" } : Jvm.MethodName)), (Jvm.Cond.methodLink "java/lang/StringBuilder" (53 : Nat) ({ cls := "java/lang/AbstractStringBuilder", name := "append", desc := "(I)Ljava/lang/AbstractStringBuilder;" } : Jvm.MethodName)), (Jvm.Cond.instanceMethod ({ cls := "java/lang/AbstractStringBuilder", name := "append", desc := "(I)Ljava/lang/AbstractStringBuilder;" } : Jvm.MethodName)), (Jvm.Cond.methodLink "java/lang/String" (552 : Nat) ({ cls := "java/lang/AbstractStringBuilder", name := "getValue", desc := "()[B" } : Jvm.MethodName)), (Jvm.Cond.instanceMethod ({ cls := "java/lang/AbstractStringBuilder", name := "getValue", desc := "()[B" } : Jvm.MethodName)), (Jvm.Cond.selects "java/lang/StringBuilder" ({ cls := "java/lang/AbstractStringBuilder", name := "getValue", desc := "()[B" } : Jvm.MethodName) ({ cls := "java/lang/AbstractStringBuilder", name := "getValue", desc := "()[B" } : Jvm.MethodName)), (Jvm.Cond.methodLink "java/lang/String" (549 : Nat) ({ cls := "java/lang/AbstractStringBuilder", name := "length", desc := "()I" } : Jvm.MethodName)), (Jvm.Cond.instanceMethod ({ cls := "java/lang/AbstractStringBuilder", name := "length", desc := "()I" } : Jvm.MethodName)), (Jvm.Cond.sameMethod "java/lang/AbstractStringBuilder" "java/lang/AbstractStringBuilder" "length" "()I"), (Jvm.Cond.selects "java/lang/StringBuilder" ({ cls := "java/lang/AbstractStringBuilder", name := "length", desc := "()I" } : Jvm.MethodName) ({ cls := "java/lang/StringBuilder", name := "length", desc := "()I" } : Jvm.MethodName)), (Jvm.Cond.instanceMethod ({ cls := "java/lang/StringBuilder", name := "length", desc := "()I" } : Jvm.MethodName)), (Jvm.Cond.methodLink "java/lang/StringBuilder" (343 : Nat) ({ cls := "java/lang/AbstractStringBuilder", name := "length", desc := "()I" } : Jvm.MethodName)), (Jvm.Cond.methodLink "java/lang/String" (1047 : Nat) ({ cls := "java/lang/AbstractStringBuilder", name := "isLatin1", desc := "()Z" } : Jvm.MethodName)), (Jvm.Cond.methodLink "java/lang/StringBuilder" (50 : Nat) ({ cls := "java/lang/AbstractStringBuilder", name := "append", desc := "(C)Ljava/lang/AbstractStringBuilder;" } : Jvm.MethodName)), (Jvm.Cond.instanceMethod ({ cls := "java/lang/AbstractStringBuilder", name := "append", desc := "(C)Ljava/lang/AbstractStringBuilder;" } : Jvm.MethodName)), (Jvm.Cond.sameMethod "java/lang/AbstractStringBuilder" "java/lang/AbstractStringBuilder" "setLength" "(I)V"), (Jvm.Cond.sameMethod "java/lang/AbstractStringBuilder" "java/lang/AbstractStringBuilder" "append" "(Ljava/lang/String;)Ljava/lang/AbstractStringBuilder;"), (Jvm.Cond.sameMethod "java/lang/AbstractStringBuilder" "java/lang/AbstractStringBuilder" "ensureCapacityInternal" "(I)V"), (Jvm.Cond.sameMethod "java/lang/AbstractStringBuilder" "java/lang/AbstractStringBuilder" "putStringAt" "(ILjava/lang/String;)V"), (Jvm.Cond.sameMethod "java/lang/AbstractStringBuilder" "java/lang/AbstractStringBuilder" "inflateIfNeededFor" "(Ljava/lang/String;)V"), (Jvm.Cond.sameMethod "java/lang/AbstractStringBuilder" "java/lang/AbstractStringBuilder" "append" "(I)Ljava/lang/AbstractStringBuilder;"), (Jvm.Cond.sameMethod "java/lang/AbstractStringBuilder" "java/lang/AbstractStringBuilder" "append" "(C)Ljava/lang/AbstractStringBuilder;")]
set_option maxRecDepth 100000 in
theorem gv_S : ∀ w ∈ gwl_S2, w ∈ xx_gws := xx_inT [564, 29, 18, 0, 13, 0, 5, 1, 26, 0, 1, 36, 1, 1, 1, 31, 0, 32, 0, 1, 1, 0, 0, 0, 0, 1, 1, 165, 0, 1407, 0, 1, 1, 0, 1, 1] rfl (by decide +kernel)
def xx_prv : List Cond := [(Jvm.Cond.privateMethod ({ cls := "java/lang/AbstractStringBuilder", name := "ensureCapacityInternal", desc := "(I)V" } : Jvm.MethodName)), (Jvm.Cond.privateMethod ({ cls := "java/lang/AbstractStringBuilder", name := "inflateIfNeededFor", desc := "(Ljava/lang/String;)V" } : Jvm.MethodName)), (Jvm.Cond.privateMethod ({ cls := "java/lang/AbstractStringBuilder", name := "putStringAt", desc := "(ILjava/lang/String;)V" } : Jvm.MethodName))]
theorem xx_prv_ok : ∀ w ∈ xx_prv, w ∈ xx_nws := by decide +kernel
theorem slc_J5_isLatin1_aae02 : xx_slc RJ4 yJ5_isLatin1_aae02 := ⟨(gv_S _ (List.mem_of_getElem? (i := 9) rfl)), .inl (gv_S _ (List.mem_of_getElem? (i := 10) rfl))⟩
theorem slc_J5_getValue_6d5f1 : xx_slc RJ4 yJ5_getValue_6d5f1 := ⟨(gv_S _ (List.mem_of_getElem? (i := 18) rfl)), .inl (gv_S _ (List.mem_of_getElem? (i := 19) rfl))⟩
theorem slc_J5_ensureCapacityInternal_d00df : xx_slc RJ4 yJ5_ensureCapacityInternal_d00df := ⟨(gv_S _ (List.mem_of_getElem? (i := 7) rfl)), .inr ⟨4, (gv_S _ (List.mem_of_getElem? (i := 0) rfl)), (gv_S _ (List.mem_of_getElem? (i := 31) rfl)), (xx_prv_ok _ (List.mem_of_getElem? (i := 0) rfl))⟩⟩
theorem slc_J5_inflateIfNeededFor_a7421 : xx_slc RJ4 yJ5_inflateIfNeededFor_a7421 := ⟨(gv_S _ (List.mem_of_getElem? (i := 14) rfl)), .inr ⟨4, (gv_S _ (List.mem_of_getElem? (i := 0) rfl)), (gv_S _ (List.mem_of_getElem? (i := 33) rfl)), (xx_prv_ok _ (List.mem_of_getElem? (i := 1) rfl))⟩⟩
theorem slc_J5_putStringAt_47b60 : xx_slc RJ4 yJ5_putStringAt_47b60 := ⟨(gv_S _ (List.mem_of_getElem? (i := 12) rfl)), .inr ⟨4, (gv_S _ (List.mem_of_getElem? (i := 0) rfl)), (gv_S _ (List.mem_of_getElem? (i := 32) rfl)), (xx_prv_ok _ (List.mem_of_getElem? (i := 2) rfl))⟩⟩
theorem su_J4_333 : xx_su RJ4 333 yJ5_setLength_d00df := ⟨(gv_S _ (List.mem_of_getElem? (i := 2) rfl)), (gv_S _ (List.mem_of_getElem? (i := 29) rfl)), (gv_S _ (List.mem_of_getElem? (i := 1) rfl)), (gv_S _ (List.mem_of_getElem? (i := 3) rfl)), by decide⟩
theorem su_J4_29 : xx_su RJ4 29 yJ5_append_cf1ce := ⟨(gv_S _ (List.mem_of_getElem? (i := 4) rfl)), (gv_S _ (List.mem_of_getElem? (i := 30) rfl)), (gv_S _ (List.mem_of_getElem? (i := 1) rfl)), (gv_S _ (List.mem_of_getElem? (i := 5) rfl)), by decide⟩
theorem su_J4_53 : xx_su RJ4 53 yJ5_append_c97b9 := ⟨(gv_S _ (List.mem_of_getElem? (i := 15) rfl)), (gv_S _ (List.mem_of_getElem? (i := 34) rfl)), (gv_S _ (List.mem_of_getElem? (i := 1) rfl)), (gv_S _ (List.mem_of_getElem? (i := 16) rfl)), by decide⟩
theorem su_J4_343 : xx_su RJ4 343 yJ5_length_8abf5 := ⟨(gv_S _ (List.mem_of_getElem? (i := 25) rfl)), (gv_S _ (List.mem_of_getElem? (i := 22) rfl)), (gv_S _ (List.mem_of_getElem? (i := 1) rfl)), (gv_S _ (List.mem_of_getElem? (i := 21) rfl)), by decide⟩
theorem su_J4_50 : xx_su RJ4 50 yJ5_append_3fe6f := ⟨(gv_S _ (List.mem_of_getElem? (i := 27) rfl)), (gv_S _ (List.mem_of_getElem? (i := 35) rfl)), (gv_S _ (List.mem_of_getElem? (i := 1) rfl)), (gv_S _ (List.mem_of_getElem? (i := 28) rfl)), by decide⟩
theorem ov_J0_549 : xx_ov RJ0 RJ4 549 yJ5_length_8abf5 yJ4_length_8abf5 m_J5_length_8abf5.2.1 m_J5_length_8abf5.2.2.1 m_J5_length_8abf5.2.2.2.1 := ⟨(gv_S _ (List.mem_of_getElem? (i := 20) rfl)), (gv_S _ (List.mem_of_getElem? (i := 22) rfl)), (gv_S _ (List.mem_of_getElem? (i := 21) rfl)), ce_J5_length_8abf5.1, (gv_S _ (List.mem_of_getElem? (i := 23) rfl)), (gv_S _ (List.mem_of_getElem? (i := 24) rfl)), ⟨by decide, by decide⟩, rfl⟩
theorem mk_J0_1047 : Cond.methodLink RJ0 1047 yJ5_isLatin1_aae02 ∈ xx_gws := (gv_S _ (List.mem_of_getElem? (i := 26) rfl))
theorem mk_J0_552 : Cond.methodLink RJ0 552 yJ5_getValue_6d5f1 ∈ xx_gws := (gv_S _ (List.mem_of_getElem? (i := 17) rfl))
theorem mk_J5_100 : Cond.methodLink RJ5 100 yJ5_ensureCapacityInternal_d00df ∈ xx_gws := (gv_S _ (List.mem_of_getElem? (i := 6) rfl))
theorem mk_J5_83 : Cond.methodLink RJ5 83 yJ5_isLatin1_aae02 ∈ xx_gws := (gv_S _ (List.mem_of_getElem? (i := 8) rfl))
theorem mk_J5_397 : Cond.methodLink RJ5 397 yJ5_inflateIfNeededFor_a7421 ∈ xx_gws := (gv_S _ (List.mem_of_getElem? (i := 13) rfl))
theorem mk_J5_208 : Cond.methodLink RJ5 208 yJ5_putStringAt_47b60 ∈ xx_gws := (gv_S _ (List.mem_of_getElem? (i := 11) rfl))
end
section
/-! ===== StringBuilder and the strings it makes ===== -/
def xx_sb0 (v : Nat) : Nat → Value := updV (updV (fun j => defaultValue (tyJ4 j)) 0 (.ref v)) 1 (.int 0)
def xx_sb (v c : Nat) (b : Int32) : Nat → Value := updV (updV (xx_sb0 v) 2 (.int b)) 3 (.int (nI c))
theorem xx_sb_c {v c c2 : Nat} {b : Int32} : updV (xx_sb v c b) 3 (.int (nI c2)) = xx_sb v c2 b := by
  funext k
  unfold xx_sb updV
  by_cases e : k = 3
  · rw [if_pos e, if_pos e]
  · rw [if_neg e, if_neg e, if_neg e]
theorem xx_sb_b {v c : Nat} {b z : Int32} : updV (xx_sb v c b) 2 (.int z) = xx_sb v c z := by
  funext k
  unfold xx_sb updV
  by_cases e : k = 2
  · subst e; rfl
  · rw [if_neg e]
    by_cases e3 : k = 3
    · rw [if_pos e3, if_pos e3]
    · rw [if_neg e3, if_neg e3, if_neg e, if_neg e]
theorem xx_sb_0 {v : Nat} : xx_sb0 v = xx_sb v 0 0 := by
  funext k
  unfold xx_sb updV
  by_cases e3 : k = 3
  · subst e3; rfl
  · rw [if_neg e3]
    by_cases e : k = 2
    · subst e; rfl
    · rw [if_neg e]
theorem xx_ens {a : Nat} (ha : a ≤ 16) : nI a - (nI 16) >>> ((0 : Int32) &&& 31) ≤ 0 := by
  have : ∀ a : Fin 17, nI a.1 - (nI 16) >>> ((0 : Int32) &&& 31) ≤ 0 := by decide +kernel
  exact this ⟨a, by omega⟩
theorem xx_dg1 {x : Nat} (hx : x < 10) : ¬ -(nI x) ≤ (-10 : Int32) := by
  have : ∀ a : Fin 10, ¬ -(nI a.1) ≤ (-10 : Int32) := by decide +kernel
  exact this ⟨x, hx⟩
theorem xx_dg2 {x : Nat} (hx : x < 10) : (-100 : Int32) < -(nI x) := by
  have : ∀ a : Fin 10, (-100 : Int32) < -(nI a.1) := by decide +kernel
  exact this ⟨x, hx⟩
theorem xx_dg3 {x : Nat} (hx : x < 10) : (-9 : Int32) ≤ -(nI x) := by
  have : ∀ a : Fin 10, (-9 : Int32) ≤ -(nI a.1) := by decide +kernel
  exact this ⟨x, hx⟩
theorem xx_negneg {x : Nat} (hx : x < 10) : -(-(nI x)) = nI x := by
  have : ∀ a : Fin 10, -(-(nI a.1)) = nI a.1 := by decide +kernel
  exact this ⟨x, hx⟩
theorem xx_sub0 (x : Int32) : x - 0 = x := by simp
theorem xx_ge0 (x : Nat) (hx : x < 2147483648) : (0 : Int32) ≤ nI x := (nI_leI (a := 0) (b := x) (by omega) hx).mpr (Nat.zero_le _)
theorem xx_nlt0 (x : Nat) (hx : x < 2147483648) : ¬ nI x < (0 : Int32) := Int32.not_lt.mpr (xx_ge0 x hx)
theorem sb_isLatin1 {l : Launch} {h : XH} (hl : l.stackTraces = false) {r v c : Nat} {b : Int32} (hr : h r = some (1, 4, xx_sb v c b))  : XEx l m_J5_isLatin1_aae02 0 0 0 [.ref r] (h) (some (.int 1)) (h) := by
  refine XMet.of hl rfl rfl (Nat.le_of_ble_eq_true rfl) (fun Y O hh hQ => ?_)
  show SW Y 0 0 (h) 0 [.ref r] []
  refine sw_gets (i := 0) (z := 1) O (xx_dt dd_J5_isLatin1_aae02 0 rfl) rfl gs_J5_18 ?_
  refine sw_if_eq (tgt := 17) O (xx_dt dd_J5_isLatin1_aae02 1 rfl) (by decide) (fun q => absurd q (by decide)) (fun _ => ?_)
  refine sw_aload_n O (xx_dt dd_J5_isLatin1_aae02 2 rfl) rfl ?_
  refine sw_get2 (v := .int 0) O (xx_dt dd_J5_isLatin1_aae02 3 rfl) cl_J4 f2_J5_22 hr (by decide) rfl ?_
  refine sw_if_ne (tgt := 17) O (xx_dt dd_J5_isLatin1_aae02 4 rfl) (by decide) (fun q => absurd rfl q) (fun _ => ?_)
  refine sw_iconst (x := 1) O (xx_dt dd_J5_isLatin1_aae02 5 rfl) (by decide) ?_
  refine sw_goto (tgt := 18) O (xx_dt dd_J5_isLatin1_aae02 6 rfl) (by decide) ?_
  exact sw_iret O (xx_dt dd_J5_isLatin1_aae02 8 rfl) rfl rfl (by rw [hQ]; exact ⟨rfl, rfl⟩)
theorem sb_getValue {l : Launch} {h : XH} (hl : l.stackTraces = false) {r v c : Nat} {b : Int32} (hr : h r = some (1, 4, xx_sb v c b))  : XEx l m_J5_getValue_6d5f1 0 0 0 [.ref r] (h) (some (.ref v)) (h) := by
  refine XMet.of hl rfl rfl (Nat.le_of_ble_eq_true rfl) (fun Y O hh hQ => ?_)
  show SW Y 0 0 (h) 0 [.ref r] []
  refine sw_aload_n O (xx_dt dd_J5_getValue_6d5f1 0 rfl) rfl ?_
  refine sw_get2 (v := .ref v) O (xx_dt dd_J5_getValue_6d5f1 1 rfl) cl_J4 f2_J5_15 hr (by decide) rfl ?_
  exact sw_aret O (xx_dt dd_J5_getValue_6d5f1 2 rfl) rfl (.inr ⟨_, rfl⟩) (by rw [hQ]; exact ⟨rfl, rfl⟩)
theorem sb_length5 {l : Launch} {h : XH} (hl : l.stackTraces = false) {r v c : Nat} {b : Int32} (hr : h r = some (1, 4, xx_sb v c b))  : XEx l m_J5_length_8abf5 0 0 0 [.ref r] (h) (some (.int (nI c))) (h) := by
  refine XMet.of hl rfl rfl (Nat.le_of_ble_eq_true rfl) (fun Y O hh hQ => ?_)
  show SW Y 0 0 (h) 0 [.ref r] []
  refine sw_aload_n O (xx_dt dd_J5_length_8abf5 0 rfl) rfl ?_
  refine sw_get2 (v := .int (nI c)) O (xx_dt dd_J5_length_8abf5 1 rfl) cl_J4 f2_J5_79 hr (by decide) rfl ?_
  exact sw_iret O (xx_dt dd_J5_length_8abf5 2 rfl) rfl rfl (by rw [hQ]; exact ⟨rfl, rfl⟩)
theorem sb_length {l : Launch} {h : XH} (hl : l.stackTraces = false) {r v c : Nat} {b : Int32} (hr : h r = some (1, 4, xx_sb v c b))  : XEx l m_J4_length_8abf5 1 0 0 [.ref r] (h) (some (.int (nI c))) (h) := by
  refine XMet.of hl rfl rfl (Nat.le_of_ble_eq_true rfl) (fun Y O hh hQ => ?_)
  show SW Y 0 0 (h) 0 [.ref r] []
  refine sw_aload_n O (xx_dt dd_J4_length_8abf5 0 rfl) rfl ?_
  refine sw_callSUx (as := []) (st := []) (st2 := [.int (nI c)]) O (sb_length5 hl hr) ce_J5_length_8abf5 su_J4_343 cl_J4 (hr) (xx_dt dd_J4_length_8abf5 1 rfl) (by decide) rfl rfl (Nat.le_of_ble_eq_true rfl) rfl ?_
  exact sw_iret O (xx_dt dd_J4_length_8abf5 2 rfl) rfl rfl (by rw [hQ]; exact ⟨rfl, rfl⟩)
theorem sb_ens {l : Launch} {h : XH} (hl : l.stackTraces = false) {a : Nat} {r v c : Nat} {b : Int32} {G : Nat → Value} (hr : h r = some (1, 4, xx_sb v c b)) (hv : h v = some (102, 16, G)) (ha : a ≤ 16)  : XEx l m_J5_ensureCapacityInternal_d00df 0 0 0 [.ref r, .int (nI a)] (h) (none) (h) := by
  refine XMet.of hl rfl rfl (Nat.le_of_ble_eq_true rfl) (fun Y O hh hQ => ?_)
  show SW Y 0 0 (h) 0 [.ref r, .int (nI a), xx_d] []
  refine sw_aload_n O (xx_dt dd_J5_ensureCapacityInternal_d00df 0 rfl) rfl ?_
  refine sw_get2 (v := .ref v) O (xx_dt dd_J5_ensureCapacityInternal_d00df 1 rfl) cl_J4 f2_J5_15 hr (by decide) rfl ?_
  refine sw_alen (t := 102) O (xx_dt dd_J5_ensureCapacityInternal_d00df 2 rfl) (by omega) (by omega) hv ?_
  refine sw_aload_n O (xx_dt dd_J5_ensureCapacityInternal_d00df 3 rfl) rfl ?_
  refine sw_get2 (v := .int 0) O (xx_dt dd_J5_ensureCapacityInternal_d00df 4 rfl) cl_J4 f2_J5_22 hr (by decide) rfl ?_
  refine sw_ishr O (xx_dt dd_J5_ensureCapacityInternal_d00df 5 rfl) ?_
  refine sw_istore_n (ls2 := [.ref r, .int (nI a), .int ((nI 16) >>> (0 &&& 31))]) O (xx_dt dd_J5_ensureCapacityInternal_d00df 6 rfl) (by decide) rfl ?_
  refine sw_iload_n O (xx_dt dd_J5_ensureCapacityInternal_d00df 7 rfl) rfl ?_
  refine sw_iload_n O (xx_dt dd_J5_ensureCapacityInternal_d00df 8 rfl) rfl ?_
  refine sw_isub O (xx_dt dd_J5_ensureCapacityInternal_d00df 9 rfl) ?_
  refine sw_if_le (tgt := 38) O (xx_dt dd_J5_ensureCapacityInternal_d00df 10 rfl) (by decide) (fun _ => ?_) (fun q => absurd (xx_ens ha) q)
  exact sw_ret O (xx_dt dd_J5_ensureCapacityInternal_d00df 22 rfl) rfl (by rw [hQ]; exact ⟨rfl, rfl⟩)
theorem sb_canEnc {l : Launch} {h : XH} (hl : l.stackTraces = false) {x : Int32} (hx : ¬ (255 : Int32) < x)  : XEx l m_J1_canEncode_fc78d 0 0 0 [.int x] (h) (some (.int 1)) (h) := by
  refine XMet.of hl rfl rfl (Nat.le_of_ble_eq_true rfl) (fun Y O hh hQ => ?_)
  show SW Y 0 0 (h) 0 [.int x] []
  refine sw_iload_n O (xx_dt dd_J1_canEncode_fc78d 0 rfl) rfl ?_
  refine sw_sipush (x := 255) O (xx_dt dd_J1_canEncode_fc78d 1 rfl) (by decide) ?_
  refine sw_icmp_gt (tgt := 11) O (xx_dt dd_J1_canEncode_fc78d 2 rfl) (by decide) (fun q => absurd q (hx)) (fun _ => ?_)
  refine sw_iconst (x := 1) O (xx_dt dd_J1_canEncode_fc78d 3 rfl) (by decide) ?_
  refine sw_goto (tgt := 12) O (xx_dt dd_J1_canEncode_fc78d 4 rfl) (by decide) ?_
  exact sw_iret O (xx_dt dd_J1_canEncode_fc78d 6 rfl) rfl rfl (by rw [hQ]; exact ⟨rfl, rfl⟩)
theorem sb_appendC5 {l : Launch} {h : XH} (hl : l.stackTraces = false) {r v c : Nat} {b : Int32} {G : Nat → Value} (hr : h r = some (1, 4, xx_sb v c b)) (hv : h v = some (102, 16, G)) (h1 : 1000 ≤ r) (h9 : 1000 ≤ v) (hrv : r ≠ v) {x : Int32} (hc : c < 16) (hx : ¬ (255 : Int32) < x) (hx2 : x.toInt8.toInt32 = x) (hx3 : narrow .byte (.int x) = .int x)  : XEx l m_J5_append_3fe6f 1 0 0 [.ref r, .int x] (h) (some (.ref r)) (xx_up (xx_up h r (1, 4, xx_sb v (c + 1) b)) v (102, 16, updV G c (.int x))) := by
  refine XMet.of hl rfl rfl (Nat.le_of_ble_eq_true rfl) (fun Y O hh hQ => ?_)
  show SW Y 0 0 (h) 0 [.ref r, .int x] []
  refine sw_aload_n O (xx_dt dd_J5_append_3fe6f 0 rfl) rfl ?_
  refine sw_aload_n O (xx_dt dd_J5_append_3fe6f 1 rfl) rfl ?_
  refine sw_get2 (v := .int (nI c)) O (xx_dt dd_J5_append_3fe6f 2 rfl) cl_J4 f2_J5_79 hr (by decide) rfl ?_
  refine sw_iconst (x := 1) O (xx_dt dd_J5_append_3fe6f 3 rfl) (by decide) ?_
  refine sw_iadd O (xx_dt dd_J5_append_3fe6f 4 rfl) ?_
  rw [nI_a1]
  refine sw_callWx (as := [.int (nI (c + 1))]) (st := []) (st2 := []) O (sb_ens hl hr hv (a := c + 1) (by omega)) ce_J5_ensureCapacityInternal_d00df mk_J5_100 slc_J5_ensureCapacityInternal_d00df cl_J4 (hr) (xx_dt dd_J5_append_3fe6f 5 rfl) (by decide) rfl rfl (Nat.le_of_ble_eq_true rfl) rfl ?_
  refine sw_aload_n O (xx_dt dd_J5_append_3fe6f 6 rfl) rfl ?_
  refine sw_callWx (as := []) (st := []) (st2 := [.int 1]) O (sb_isLatin1 hl hr) ce_J5_isLatin1_aae02 mk_J5_83 slc_J5_isLatin1_aae02 cl_J4 (hr) (xx_dt dd_J5_append_3fe6f 7 rfl) (by decide) rfl rfl (Nat.le_of_ble_eq_true rfl) rfl ?_
  refine sw_if_eq (tgt := 45) O (xx_dt dd_J5_append_3fe6f 8 rfl) (by decide) (fun q => absurd q (by decide)) (fun _ => ?_)
  refine sw_iload_n O (xx_dt dd_J5_append_3fe6f 9 rfl) rfl ?_
  refine sw_callSx (as := [.int x]) (st := []) (st2 := [.int 1]) O (sb_canEnc hl hx) ce_J1_canEncode_fc78d ml_J5_191 st_J1_canEncode_fc78d (xx_dt dd_J5_append_3fe6f 10 rfl) (by decide) rfl rfl (Nat.le_of_ble_eq_true rfl) rfl ?_
  refine sw_if_eq (tgt := 45) O (xx_dt dd_J5_append_3fe6f 11 rfl) (by decide) (fun q => absurd q (by decide)) (fun _ => ?_)
  refine sw_aload_n O (xx_dt dd_J5_append_3fe6f 12 rfl) rfl ?_
  refine sw_get2 (v := .ref v) O (xx_dt dd_J5_append_3fe6f 13 rfl) cl_J4 f2_J5_15 hr (by decide) rfl ?_
  refine sw_aload_n O (xx_dt dd_J5_append_3fe6f 14 rfl) rfl ?_
  refine sw_dup O (xx_dt dd_J5_append_3fe6f 15 rfl) rfl ?_
  refine sw_get2 (v := .int (nI c)) O (xx_dt dd_J5_append_3fe6f 16 rfl) cl_J4 f2_J5_79 hr (by decide) rfl ?_
  refine sw_dup_x1 O (xx_dt dd_J5_append_3fe6f 17 rfl) rfl rfl ?_
  refine sw_iconst (x := 1) O (xx_dt dd_J5_append_3fe6f 18 rfl) (by decide) ?_
  refine sw_iadd O (xx_dt dd_J5_append_3fe6f 19 rfl) ?_
  rw [nI_a1]
  refine sw_put2 (h2 := xx_up h r (1, 4, xx_sb v (c + 1) b)) O (xx_dt dd_J5_append_3fe6f 20 rfl) cl_J4 f2_J5_79 hr (by decide) h1 rfl (fun _ => ⟨rfl, rfl⟩) (by rw [xx_sb_c]) ?_
  refine sw_iload_n O (xx_dt dd_J5_append_3fe6f 21 rfl) rfl ?_
  refine sw_i2b O (xx_dt dd_J5_append_3fe6f 22 rfl) ?_
  rw [hx2]
  refine sw_bastore (h2 := xx_up (xx_up h r (1, 4, xx_sb v (c + 1) b)) v (102, 16, updV G c (.int x))) O (xx_dt dd_J5_append_3fe6f 23 rfl) (by rw [xx_up_ne (Ne.symm hrv)]; exact hv) (pk_in c _ (by omega)) h9 hx3 (by rw [nI_clamp (by omega)]) ?_
  refine sw_goto (tgt := 75) O (xx_dt dd_J5_append_3fe6f 24 rfl) (by decide) ?_
  refine sw_aload_n O (xx_dt dd_J5_append_3fe6f 41 rfl) rfl ?_
  exact sw_aret O (xx_dt dd_J5_append_3fe6f 42 rfl) rfl (.inl ⟨_, rfl⟩) (by rw [hQ]; exact ⟨rfl, rfl⟩)
theorem sb_appendC {l : Launch} {h : XH} (hl : l.stackTraces = false) {r v c : Nat} {b : Int32} {G : Nat → Value} (hr : h r = some (1, 4, xx_sb v c b)) (hv : h v = some (102, 16, G)) (h1 : 1000 ≤ r) (h9 : 1000 ≤ v) (hrv : r ≠ v) {x : Int32} (hc : c < 16) (hx : ¬ (255 : Int32) < x) (hx2 : x.toInt8.toInt32 = x) (hx3 : narrow .byte (.int x) = .int x)  : XEx l m_J4_append_cf468 2 0 0 [.ref r, .int x] (h) (some (.ref r)) (xx_up (xx_up h r (1, 4, xx_sb v (c + 1) b)) v (102, 16, updV G c (.int x))) := by
  refine XMet.of hl rfl rfl (Nat.le_of_ble_eq_true rfl) (fun Y O hh hQ => ?_)
  show SW Y 0 0 (h) 0 [.ref r, .int x] []
  refine sw_aload_n O (xx_dt dd_J4_append_cf468 0 rfl) rfl ?_
  refine sw_iload_n O (xx_dt dd_J4_append_cf468 1 rfl) rfl ?_
  refine sw_callSUx (as := [.int x]) (st := []) (st2 := [.ref r]) O (sb_appendC5 hl hr hv h1 h9 hrv hc hx hx2 hx3) ce_J5_append_3fe6f su_J4_50 cl_J4 (hr) (xx_dt dd_J4_append_cf468 2 rfl) (by decide) rfl rfl (Nat.le_of_ble_eq_true rfl) rfl ?_
  refine sw_pop O (xx_dt dd_J4_append_cf468 3 rfl) rfl ?_
  refine sw_aload_n O (xx_dt dd_J4_append_cf468 4 rfl) rfl ?_
  exact sw_aret O (xx_dt dd_J4_append_cf468 5 rfl) rfl (.inl ⟨_, rfl⟩) (by rw [hQ]; exact ⟨rfl, rfl⟩)
theorem sb_size {l : Launch} {h : XH} (hl : l.stackTraces = false) {x : Nat} (hx : x < 10)  : XEx l m_J6_stringSize_0f7a4 0 0 0 [.int (nI x)] (h) (some (.int 1)) (h) := by
  refine XMet.of hl rfl rfl (Nat.le_of_ble_eq_true rfl) (fun Y O hh hQ => ?_)
  show SW Y 0 0 (h) 0 [.int (nI x), xx_d, xx_d, xx_d] []
  refine sw_iconst (x := 1) O (xx_dt dd_J6_stringSize_0f7a4 0 rfl) (by decide) ?_
  refine sw_istore_n (ls2 := [.int (nI x), .int 1, xx_d, xx_d]) O (xx_dt dd_J6_stringSize_0f7a4 1 rfl) (by decide) rfl ?_
  refine sw_iload_n O (xx_dt dd_J6_stringSize_0f7a4 2 rfl) rfl ?_
  refine sw_if_lt (tgt := 11) O (xx_dt dd_J6_stringSize_0f7a4 3 rfl) (by decide) (fun q => absurd q (xx_nlt0 x (by omega))) (fun _ => ?_)
  refine sw_iconst (x := 0) O (xx_dt dd_J6_stringSize_0f7a4 4 rfl) (by decide) ?_
  refine sw_istore_n (ls2 := [.int (nI x), .int 0, xx_d, xx_d]) O (xx_dt dd_J6_stringSize_0f7a4 5 rfl) (by decide) rfl ?_
  refine sw_iload_n O (xx_dt dd_J6_stringSize_0f7a4 6 rfl) rfl ?_
  refine sw_ineg O (xx_dt dd_J6_stringSize_0f7a4 7 rfl) ?_
  refine sw_istore_n (ls2 := [.int (-(nI x)), .int 0, xx_d, xx_d]) O (xx_dt dd_J6_stringSize_0f7a4 8 rfl) (by decide) rfl ?_
  refine sw_bipush (x := (-10)) O (xx_dt dd_J6_stringSize_0f7a4 9 rfl) (by decide) ?_
  refine sw_istore_n (ls2 := [.int (-(nI x)), .int 0, .int (-10), xx_d]) O (xx_dt dd_J6_stringSize_0f7a4 10 rfl) (by decide) rfl ?_
  refine sw_iconst (x := 1) O (xx_dt dd_J6_stringSize_0f7a4 11 rfl) (by decide) ?_
  refine sw_istore_n (ls2 := [.int (-(nI x)), .int 0, .int (-10), .int 1]) O (xx_dt dd_J6_stringSize_0f7a4 12 rfl) (by decide) rfl ?_
  refine sw_iload_n O (xx_dt dd_J6_stringSize_0f7a4 13 rfl) rfl ?_
  refine sw_bipush (x := 10) O (xx_dt dd_J6_stringSize_0f7a4 14 rfl) (by decide) ?_
  refine sw_icmp_ge (tgt := 42) O (xx_dt dd_J6_stringSize_0f7a4 15 rfl) (by decide) (fun q => absurd q (by decide)) (fun _ => ?_)
  refine sw_iload_n O (xx_dt dd_J6_stringSize_0f7a4 16 rfl) rfl ?_
  refine sw_iload_n O (xx_dt dd_J6_stringSize_0f7a4 17 rfl) rfl ?_
  refine sw_icmp_le (tgt := 31) O (xx_dt dd_J6_stringSize_0f7a4 18 rfl) (by decide) (fun q => absurd q (xx_dg1 hx)) (fun _ => ?_)
  refine sw_iload_n O (xx_dt dd_J6_stringSize_0f7a4 19 rfl) rfl ?_
  refine sw_iload_n O (xx_dt dd_J6_stringSize_0f7a4 20 rfl) rfl ?_
  refine sw_iadd O (xx_dt dd_J6_stringSize_0f7a4 21 rfl) ?_
  rw [show (1 : Int32) + 0 = 1 by decide]
  exact sw_iret O (xx_dt dd_J6_stringSize_0f7a4 22 rfl) rfl rfl (by rw [hQ]; exact ⟨rfl, rfl⟩)
theorem sb_chars {l : Launch} {h : XH} (hl : l.stackTraces = false) {v c : Nat} {G : Nat → Value} (hv : h v = some (102, 16, G)) (h9 : 1000 ≤ v) (hc : c < 16) {x : Nat} {w : Int32} {F : Nat → Value} (hx : x < 10) (h4 : h 4 = some (102, 100, F)) (hw : F x = .int w) (hw3 : narrow .byte (.int w) = .int w)  : XEx l m_J6_getChars_ba4f3 0 0 0 [.int (nI x), .int (nI (c + 1)), .ref v] (h) (some (.int (nI c))) (xx_up h v (102, 16, updV G c (.int w))) := by
  refine XMet.of hl rfl rfl (Nat.le_of_ble_eq_true rfl) (fun Y O hh hQ => ?_)
  show SW Y 0 0 (h) 0 [.int (nI x), .int (nI (c + 1)), .ref v, xx_d, xx_d, xx_d, xx_d] []
  refine sw_iload_n O (xx_dt dd_J6_getChars_ba4f3 0 rfl) rfl ?_
  refine sw_istore (ls2 := [.int (nI x), .int (nI (c + 1)), .ref v, xx_d, xx_d, .int (nI (c + 1)), xx_d]) O (xx_dt dd_J6_getChars_ba4f3 1 rfl) (by decide) rfl ?_
  refine sw_iload_n O (xx_dt dd_J6_getChars_ba4f3 2 rfl) rfl ?_
  refine sw_if_ge (tgt := 11) O (xx_dt dd_J6_getChars_ba4f3 3 rfl) (by decide) (fun _ => ?_) (fun q => absurd (xx_ge0 x (by omega)) q)
  refine sw_iconst (x := 0) O (xx_dt dd_J6_getChars_ba4f3 6 rfl) (by decide) ?_
  refine sw_istore (ls2 := [.int (nI x), .int (nI (c + 1)), .ref v, xx_d, xx_d, .int (nI (c + 1)), .int 0]) O (xx_dt dd_J6_getChars_ba4f3 7 rfl) (by decide) rfl ?_
  refine sw_iload O (xx_dt dd_J6_getChars_ba4f3 8 rfl) rfl ?_
  refine sw_if_ne (tgt := 22) O (xx_dt dd_J6_getChars_ba4f3 9 rfl) (by decide) (fun q => absurd rfl q) (fun _ => ?_)
  refine sw_iload_n O (xx_dt dd_J6_getChars_ba4f3 10 rfl) rfl ?_
  refine sw_ineg O (xx_dt dd_J6_getChars_ba4f3 11 rfl) ?_
  refine sw_istore_n (ls2 := [.int (-(nI x)), .int (nI (c + 1)), .ref v, xx_d, xx_d, .int (nI (c + 1)), .int 0]) O (xx_dt dd_J6_getChars_ba4f3 12 rfl) (by decide) rfl ?_
  refine sw_iload_n O (xx_dt dd_J6_getChars_ba4f3 13 rfl) rfl ?_
  refine sw_bipush (x := (-100)) O (xx_dt dd_J6_getChars_ba4f3 14 rfl) (by decide) ?_
  refine sw_icmp_gt (tgt := 72) O (xx_dt dd_J6_getChars_ba4f3 15 rfl) (by decide) (fun _ => ?_) (fun q => absurd (xx_dg2 hx) q)
  refine sw_aload_n O (xx_dt dd_J6_getChars_ba4f3 43 rfl) rfl ?_
  refine sw_iinc (y := nI c) (ls2 := [.int (-(nI x)), .int (nI (c + 1)), .ref v, xx_d, xx_d, .int (nI c), .int 0]) O (xx_dt dd_J6_getChars_ba4f3 44 rfl) rfl (pk_m1 _) (by decide) rfl ?_
  refine sw_iload O (xx_dt dd_J6_getChars_ba4f3 45 rfl) rfl ?_
  refine sw_getsR (i := 4) (r := 4) O (xx_dt dd_J6_getChars_ba4f3 46 rfl) rfl gs_J6_83 h4 (by omega) ?_
  refine sw_iload_n O (xx_dt dd_J6_getChars_ba4f3 47 rfl) rfl ?_
  refine sw_ineg O (xx_dt dd_J6_getChars_ba4f3 48 rfl) ?_
  rw [xx_negneg hx]
  refine sw_baload (v := .int w) O (xx_dt dd_J6_getChars_ba4f3 49 rfl) h4 (pk_in x _ (by omega)) (by rw [nI_clamp (by omega)]; exact hw) ?_
  refine sw_bastore (h2 := xx_up h v (102, 16, updV G c (.int w))) O (xx_dt dd_J6_getChars_ba4f3 50 rfl) hv (pk_in c _ (by omega)) h9 hw3 (by rw [nI_clamp (by omega)]) ?_
  refine sw_iload_n O (xx_dt dd_J6_getChars_ba4f3 51 rfl) rfl ?_
  refine sw_bipush (x := (-9)) O (xx_dt dd_J6_getChars_ba4f3 52 rfl) (by decide) ?_
  refine sw_icmp_ge (tgt := 104) O (xx_dt dd_J6_getChars_ba4f3 53 rfl) (by decide) (fun _ => ?_) (fun q => absurd (xx_dg3 hx) q)
  refine sw_iload O (xx_dt dd_J6_getChars_ba4f3 62 rfl) rfl ?_
  refine sw_if_eq (tgt := 118) O (xx_dt dd_J6_getChars_ba4f3 63 rfl) (by decide) (fun _ => ?_) (fun q => absurd rfl q)
  refine sw_iload O (xx_dt dd_J6_getChars_ba4f3 69 rfl) rfl ?_
  exact sw_iret O (xx_dt dd_J6_getChars_ba4f3 70 rfl) rfl rfl (by rw [hQ]; exact ⟨rfl, rfl⟩)
theorem sb_appendI5 {l : Launch} {h : XH} (hl : l.stackTraces = false) {r v c : Nat} {b : Int32} {G : Nat → Value} (hr : h r = some (1, 4, xx_sb v c b)) (hv : h v = some (102, 16, G)) (h1 : 1000 ≤ r) (h9 : 1000 ≤ v) (hrv : r ≠ v) (hc : c < 16) {x : Nat} {w : Int32} {F : Nat → Value} (hx : x < 10) (h4 : h 4 = some (102, 100, F)) (hw : F x = .int w) (hw3 : narrow .byte (.int w) = .int w)  : XEx l m_J5_append_c97b9 1 0 0 [.ref r, .int (nI x)] (h) (some (.ref r)) (xx_up (xx_up h r (1, 4, xx_sb v (c + 1) b)) v (102, 16, updV G c (.int w))) := by
  refine XMet.of hl rfl rfl (Nat.le_of_ble_eq_true rfl) (fun Y O hh hQ => ?_)
  show SW Y 0 0 (h) 0 [.ref r, .int (nI x), xx_d, xx_d] []
  refine sw_aload_n O (xx_dt dd_J5_append_c97b9 0 rfl) rfl ?_
  refine sw_get2 (v := .int (nI c)) O (xx_dt dd_J5_append_c97b9 1 rfl) cl_J4 f2_J5_79 hr (by decide) rfl ?_
  refine sw_istore_n (ls2 := [.ref r, .int (nI x), .int (nI c), xx_d]) O (xx_dt dd_J5_append_c97b9 2 rfl) (by decide) rfl ?_
  refine sw_iload_n O (xx_dt dd_J5_append_c97b9 3 rfl) rfl ?_
  refine sw_iload_n O (xx_dt dd_J5_append_c97b9 4 rfl) rfl ?_
  refine sw_callSx (as := [.int (nI x)]) (st := [.int (nI c)]) (st2 := [.int 1, .int (nI c)]) O (sb_size hl hx) ce_J6_stringSize_0f7a4 ml_J5_245 st_J6_stringSize_0f7a4 (xx_dt dd_J5_append_c97b9 5 rfl) (by decide) rfl rfl (Nat.le_of_ble_eq_true rfl) rfl ?_
  refine sw_iadd O (xx_dt dd_J5_append_c97b9 6 rfl) ?_
  rw [nI_a1]
  refine sw_istore_n (ls2 := [.ref r, .int (nI x), .int (nI c), .int (nI (c + 1))]) O (xx_dt dd_J5_append_c97b9 7 rfl) (by decide) rfl ?_
  refine sw_aload_n O (xx_dt dd_J5_append_c97b9 8 rfl) rfl ?_
  refine sw_iload_n O (xx_dt dd_J5_append_c97b9 9 rfl) rfl ?_
  refine sw_callWx (as := [.int (nI (c + 1))]) (st := []) (st2 := []) O (sb_ens hl hr hv (a := c + 1) (by omega)) ce_J5_ensureCapacityInternal_d00df mk_J5_100 slc_J5_ensureCapacityInternal_d00df cl_J4 (hr) (xx_dt dd_J5_append_c97b9 10 rfl) (by decide) rfl rfl (Nat.le_of_ble_eq_true rfl) rfl ?_
  refine sw_aload_n O (xx_dt dd_J5_append_c97b9 11 rfl) rfl ?_
  refine sw_callWx (as := []) (st := []) (st2 := [.int 1]) O (sb_isLatin1 hl hr) ce_J5_isLatin1_aae02 mk_J5_83 slc_J5_isLatin1_aae02 cl_J4 (hr) (xx_dt dd_J5_append_c97b9 12 rfl) (by decide) rfl rfl (Nat.le_of_ble_eq_true rfl) rfl ?_
  refine sw_if_eq (tgt := 37) O (xx_dt dd_J5_append_c97b9 13 rfl) (by decide) (fun q => absurd q (by decide)) (fun _ => ?_)
  refine sw_iload_n O (xx_dt dd_J5_append_c97b9 14 rfl) rfl ?_
  refine sw_iload_n O (xx_dt dd_J5_append_c97b9 15 rfl) rfl ?_
  refine sw_aload_n O (xx_dt dd_J5_append_c97b9 16 rfl) rfl ?_
  refine sw_get2 (v := .ref v) O (xx_dt dd_J5_append_c97b9 17 rfl) cl_J4 f2_J5_15 hr (by decide) rfl ?_
  refine sw_callSx (as := [.int (nI x), .int (nI (c + 1)), .ref v]) (st := []) (st2 := [.int (nI c)]) O (sb_chars hl hv h9 hc hx h4 hw hw3) ce_J6_getChars_ba4f3 ml_J5_248 st_J6_getChars_ba4f3 (xx_dt dd_J5_append_c97b9 18 rfl) (by decide) rfl rfl (Nat.le_of_ble_eq_true rfl) rfl ?_
  refine sw_pop O (xx_dt dd_J5_append_c97b9 19 rfl) rfl ?_
  refine sw_goto (tgt := 48) O (xx_dt dd_J5_append_c97b9 20 rfl) (by decide) ?_
  refine sw_aload_n O (xx_dt dd_J5_append_c97b9 28 rfl) rfl ?_
  refine sw_iload_n O (xx_dt dd_J5_append_c97b9 29 rfl) rfl ?_
  refine sw_put2 (h2 := xx_up (xx_up h r (1, 4, xx_sb v (c + 1) b)) v (102, 16, updV G c (.int w))) O (xx_dt dd_J5_append_c97b9 30 rfl) cl_J4 f2_J5_79 (by rw [xx_up_ne hrv]; exact hr) (by decide) h1 rfl (fun _ => ⟨rfl, rfl⟩) (by rw [xx_sb_c]; exact (xx_up_sw hrv).symm) ?_
  refine sw_aload_n O (xx_dt dd_J5_append_c97b9 31 rfl) rfl ?_
  exact sw_aret O (xx_dt dd_J5_append_c97b9 32 rfl) rfl (.inl ⟨_, rfl⟩) (by rw [hQ]; exact ⟨rfl, rfl⟩)
theorem sb_appendI {l : Launch} {h : XH} (hl : l.stackTraces = false) {r v c : Nat} {b : Int32} {G : Nat → Value} (hr : h r = some (1, 4, xx_sb v c b)) (hv : h v = some (102, 16, G)) (h1 : 1000 ≤ r) (h9 : 1000 ≤ v) (hrv : r ≠ v) (hc : c < 16) {x : Nat} {w : Int32} {F : Nat → Value} (hx : x < 10) (h4 : h 4 = some (102, 100, F)) (hw : F x = .int w) (hw3 : narrow .byte (.int w) = .int w)  : XEx l m_J4_append_bf812 2 0 0 [.ref r, .int (nI x)] (h) (some (.ref r)) (xx_up (xx_up h r (1, 4, xx_sb v (c + 1) b)) v (102, 16, updV G c (.int w))) := by
  refine XMet.of hl rfl rfl (Nat.le_of_ble_eq_true rfl) (fun Y O hh hQ => ?_)
  show SW Y 0 0 (h) 0 [.ref r, .int (nI x)] []
  refine sw_aload_n O (xx_dt dd_J4_append_bf812 0 rfl) rfl ?_
  refine sw_iload_n O (xx_dt dd_J4_append_bf812 1 rfl) rfl ?_
  refine sw_callSUx (as := [.int (nI x)]) (st := []) (st2 := [.ref r]) O (sb_appendI5 hl hr hv h1 h9 hrv hc hx h4 hw hw3) ce_J5_append_c97b9 su_J4_53 cl_J4 (hr) (xx_dt dd_J4_append_bf812 2 rfl) (by decide) rfl rfl (Nat.le_of_ble_eq_true rfl) rfl ?_
  refine sw_pop O (xx_dt dd_J4_append_bf812 3 rfl) rfl ?_
  refine sw_aload_n O (xx_dt dd_J4_append_bf812 4 rfl) rfl ?_
  exact sw_aret O (xx_dt dd_J4_append_bf812 5 rfl) rfl (.inl ⟨_, rfl⟩) (by rw [hQ]; exact ⟨rfl, rfl⟩)
theorem sb_setLength5 {l : Launch} {h : XH} (hl : l.stackTraces = false) {r v c : Nat} {b : Int32} {G : Nat → Value} (hr : h r = some (1, 4, xx_sb v c b)) (hv : h v = some (102, 16, G)) (h1 : 1000 ≤ r) (h9 : 1000 ≤ v) (hrv : r ≠ v) (hc : c ≤ 16)  : XEx l m_J5_setLength_d00df 1 0 0 [.ref r, .int (nI 0)] (h) (none) (xx_up h r (1, 4, xx_sb v 0 (if c = 0 then b else 1))) := by
  refine XMet.of hl rfl rfl (Nat.le_of_ble_eq_true rfl) (fun Y O hh hQ => ?_)
  show SW Y 0 0 (h) 0 [.ref r, .int (nI 0)] []
  refine sw_iload_n O (xx_dt dd_J5_setLength_d00df 0 rfl) rfl ?_
  refine sw_if_ge (tgt := 13) O (xx_dt dd_J5_setLength_d00df 1 rfl) (by decide) (fun _ => ?_) (fun q => absurd (xx_ge0 0 (by omega)) q)
  refine sw_aload_n O (xx_dt dd_J5_setLength_d00df 7 rfl) rfl ?_
  refine sw_iload_n O (xx_dt dd_J5_setLength_d00df 8 rfl) rfl ?_
  refine sw_callWx (as := [.int (nI 0)]) (st := []) (st2 := []) O (sb_ens hl hr hv (a := 0) (by omega)) ce_J5_ensureCapacityInternal_d00df mk_J5_100 slc_J5_ensureCapacityInternal_d00df cl_J4 (hr) (xx_dt dd_J5_setLength_d00df 9 rfl) (by decide) rfl rfl (Nat.le_of_ble_eq_true rfl) rfl ?_
  refine sw_aload_n O (xx_dt dd_J5_setLength_d00df 10 rfl) rfl ?_
  refine sw_get2 (v := .int (nI c)) O (xx_dt dd_J5_setLength_d00df 11 rfl) cl_J4 f2_J5_79 hr (by decide) rfl ?_
  refine sw_iload_n O (xx_dt dd_J5_setLength_d00df 12 rfl) rfl ?_
  refine sw_icmp_ge (tgt := 63) O (xx_dt dd_J5_setLength_d00df 13 rfl) (by decide) (fun _ => ?_) (fun q => absurd (xx_ge0 c (by omega)) q)
  refine sw_aload_n O (xx_dt dd_J5_setLength_d00df 31 rfl) rfl ?_
  refine sw_get2 (v := .int (nI c)) O (xx_dt dd_J5_setLength_d00df 32 rfl) cl_J4 f2_J5_79 hr (by decide) rfl ?_
  refine sw_iload_n O (xx_dt dd_J5_setLength_d00df 33 rfl) rfl ?_
  refine sw_icmp_le (tgt := 76) O (xx_dt dd_J5_setLength_d00df 34 rfl) (by decide) (fun q => ?_) (fun q => ?_)
  · have hc0 : c = 0 := by have := (nI_leI (a := c) (b := 0) (by omega) (by omega)).mp q; omega
    refine sw_aload_n O (xx_dt dd_J5_setLength_d00df 38 rfl) rfl ?_
    refine sw_iload_n O (xx_dt dd_J5_setLength_d00df 39 rfl) rfl ?_
    refine sw_put2 (h2 := xx_up h r (1, 4, xx_sb v 0 b)) O (xx_dt dd_J5_setLength_d00df 40 rfl) cl_J4 f2_J5_79 hr (by decide) h1 rfl (fun _ => ⟨rfl, rfl⟩) (by rw [xx_sb_c]) ?_
    exact sw_ret O (xx_dt dd_J5_setLength_d00df 41 rfl) rfl (by rw [hQ]; exact ⟨rfl, by rw [if_pos hc0]⟩)
  · have hc0 : ¬ c = 0 := fun e => q (by rw [e]; exact Int32.le_refl _)
    refine sw_aload_n O (xx_dt dd_J5_setLength_d00df 35 rfl) rfl ?_
    refine sw_iconst (x := 1) O (xx_dt dd_J5_setLength_d00df 36 rfl) (by decide) ?_
    refine sw_put2 (h2 := xx_up h r (1, 4, xx_sb v c 1)) O (xx_dt dd_J5_setLength_d00df 37 rfl) cl_J4 f2_J5_73 hr (by decide) h1 rfl (fun _ => ⟨rfl, rfl⟩) (by rw [xx_sb_b]) ?_
    refine sw_aload_n O (xx_dt dd_J5_setLength_d00df 38 rfl) rfl ?_
    refine sw_iload_n O (xx_dt dd_J5_setLength_d00df 39 rfl) rfl ?_
    refine sw_put2 (h2 := xx_up h r (1, 4, xx_sb v 0 1)) O (xx_dt dd_J5_setLength_d00df 40 rfl) cl_J4 f2_J5_79 (xx_up_eq _ _ _) (by decide) h1 rfl (fun _ => ⟨rfl, rfl⟩) (by rw [xx_sb_c, xx_up_up]) ?_
    exact sw_ret O (xx_dt dd_J5_setLength_d00df 41 rfl) rfl (by rw [hQ]; exact ⟨rfl, by rw [if_neg hc0]⟩)
theorem sb_setLength {l : Launch} {h : XH} (hl : l.stackTraces = false) {r v c : Nat} {b : Int32} {G : Nat → Value} (hr : h r = some (1, 4, xx_sb v c b)) (hv : h v = some (102, 16, G)) (h1 : 1000 ≤ r) (h9 : 1000 ≤ v) (hrv : r ≠ v) (hc : c ≤ 16)  : XEx l m_J4_setLength_d00df 2 0 0 [.ref r, .int (nI 0)] (h) (none) (xx_up h r (1, 4, xx_sb v 0 (if c = 0 then b else 1))) := by
  refine XMet.of hl rfl rfl (Nat.le_of_ble_eq_true rfl) (fun Y O hh hQ => ?_)
  show SW Y 0 0 (h) 0 [.ref r, .int (nI 0)] []
  refine sw_aload_n O (xx_dt dd_J4_setLength_d00df 0 rfl) rfl ?_
  refine sw_iload_n O (xx_dt dd_J4_setLength_d00df 1 rfl) rfl ?_
  refine sw_callSUx (as := [.int (nI 0)]) (st := []) (st2 := []) O (sb_setLength5 hl hr hv h1 h9 hrv hc) ce_J5_setLength_d00df su_J4_333 cl_J4 (hr) (xx_dt dd_J4_setLength_d00df 2 rfl) (by decide) rfl rfl (Nat.le_of_ble_eq_true rfl) rfl ?_
  exact sw_ret O (xx_dt dd_J4_setLength_d00df 3 rfl) rfl (by rw [hQ]; exact ⟨rfl, rfl⟩)
theorem sb_init5 {l : Launch} {h : XH} (hl : l.stackTraces = false) {r v : Nat} (hr : h r = some (1, 4, fun j => defaultValue (tyJ4 j))) (h1 : 1000 ≤ r) (hv : h v = none) (h9 : 1000 ≤ v)  : XEx l m_J5_init_d00df 1 1 16 [.ref r, .int (nI 16)] (h) (none) (xx_up (xx_up h r (1, 4, xx_sb v 0 0)) v (102, 16, fun _ => .int 0)) := by
  refine XMet.of hl rfl rfl (Nat.le_of_ble_eq_true rfl) (fun Y O hh hQ => ?_)
  have hrv : r ≠ v := fun q => by rw [q, hv] at hr; cases hr
  show SW Y 1 16 (h) 0 [.ref r, .int (nI 16)] []
  refine sw_aload_n O (xx_dt dd_J5_init_d00df 0 rfl) rfl ?_
  refine sw_objInit O oi_J5_3 (xx_dt dd_J5_init_d00df 1 rfl) (by omega) (Nat.le_of_ble_eq_true rfl) ?_
  refine sw_gets (i := 0) (z := 1) O (xx_dt dd_J5_init_d00df 2 rfl) rfl gs_J5_18 ?_
  refine sw_if_eq (tgt := 25) O (xx_dt dd_J5_init_d00df 3 rfl) (by decide) (fun q => absurd q (by decide)) (fun _ => ?_)
  refine sw_aload_n O (xx_dt dd_J5_init_d00df 4 rfl) rfl ?_
  refine sw_iload_n O (xx_dt dd_J5_init_d00df 5 rfl) rfl ?_
  refine sw_newarray (k := 0) (n := 0) (t := 102) (N := 16) (r := v) O (xx_dt dd_J5_init_d00df 6 rfl) ⟨⟨by omega, by omega⟩, rfl⟩ ac_byte (by decide) (by decide) (by decide) hv h9 ?_
  rw [xx_blk_up, show (fun _ => defaultValue (newarray.typeOf .byte)) = (fun _ => Value.int 0 : Nat → Value) from rfl]
  refine sw_put2 (h2 := xx_up (xx_up h v (102, 16, fun _ => .int 0)) r (1, 4, updV (fun j => defaultValue (tyJ4 j)) 0 (.ref v))) O (xx_dt dd_J5_init_d00df 7 rfl) cl_J4 f2_J5_15 (by rw [xx_up_ne hrv]; exact hr) (by decide) h1 rfl (fun _ => ⟨rfl, rfl⟩) rfl ?_
  refine sw_aload_n O (xx_dt dd_J5_init_d00df 8 rfl) rfl ?_
  refine sw_iconst (x := 0) O (xx_dt dd_J5_init_d00df 9 rfl) (by decide) ?_
  refine sw_put2 (h2 := xx_up (xx_up h r (1, 4, xx_sb v 0 0)) v (102, 16, fun _ => .int 0)) O (xx_dt dd_J5_init_d00df 10 rfl) cl_J4 f2_J5_22 (xx_up_eq _ _ _) (by decide) h1 rfl (fun _ => ⟨rfl, rfl⟩) (by rw [xx_up_up, ← xx_sb_0]; exact (xx_up_sw hrv).symm) ?_
  refine sw_goto (tgt := 38) O (xx_dt dd_J5_init_d00df 11 rfl) (by decide) ?_
  exact sw_ret O (xx_dt dd_J5_init_d00df 19 rfl) rfl (by rw [hQ]; exact ⟨rfl, rfl⟩)
theorem sb_init {l : Launch} {h : XH} (hl : l.stackTraces = false) {r v : Nat} (hr : h r = some (1, 4, fun j => defaultValue (tyJ4 j))) (h1 : 1000 ≤ r) (hv : h v = none) (h9 : 1000 ≤ v)  : XEx l m_J4_init_da8c8 2 1 16 [.ref r] (h) (none) (xx_up (xx_up h r (1, 4, xx_sb v 0 0)) v (102, 16, fun _ => .int 0)) := by
  refine XMet.of hl rfl rfl (Nat.le_of_ble_eq_true rfl) (fun Y O hh hQ => ?_)
  show SW Y 1 16 (h) 0 [.ref r] []
  refine sw_aload_n O (xx_dt dd_J4_init_da8c8 0 rfl) rfl ?_
  refine sw_bipush (x := nI 16) O (xx_dt dd_J4_init_da8c8 1 rfl) (by decide) ?_
  refine sw_callIx (k := 0) (n := 0) (k' := 1) (n' := 16) (as := [.int (nI 16)]) (st := []) (st2 := []) O (sb_init5 hl hr h1 hv h9) ce_J5_init_d00df ml_J4_1 ii_J5_init_d00df (xx_dt dd_J4_init_da8c8 2 rfl) (by decide) rfl rfl (Nat.le_of_ble_eq_true rfl) rfl ?_
  exact sw_ret O (xx_dt dd_J4_init_da8c8 3 rfl) rfl (by rw [hQ]; exact ⟨rfl, rfl⟩)
theorem sb_checkLength {l : Launch} {h : XH} (hl : l.stackTraces = false) {c : Nat} (hc : c < 16)  : XEx l m_J7_checkLength_df160 0 0 0 [.int (nI 0), .int (nI c)] (h) (none) (h) := by
  refine XMet.of hl rfl rfl (Nat.le_of_ble_eq_true rfl) (fun Y O hh hQ => ?_)
  show SW Y 0 0 (h) 0 [.int (nI 0), .int (nI c)] []
  refine sw_iload_n O (xx_dt dd_J7_checkLength_df160 0 rfl) rfl ?_
  refine sw_iload_n O (xx_dt dd_J7_checkLength_df160 1 rfl) rfl ?_
  refine sw_icmp_ge (tgt := 37) O (xx_dt dd_J7_checkLength_df160 2 rfl) (by decide) (fun _ => ?_) (fun q => absurd (xx_ge0 c (by omega)) q)
  exact sw_ret O (xx_dt dd_J7_checkLength_df160 17 rfl) rfl (by rw [hQ]; exact ⟨rfl, rfl⟩)
theorem sb_copyRB {l : Launch} {h : XH} (hl : l.stackTraces = false) {v u c : Nat} {G : Nat → Value} (hv : h v = some (102, 16, G)) (hu : h u = none) (h9 : 1000 ≤ u) (hc : c < 16) (hG : ∀ j, j < c → ∃ z : Int32, G j = .int z ∧ fits .byte (.int z) = true)  : XEx l m_J7_copyOfRangeByte_39247 1 1 c [.ref v, .int (nI 0), .int (nI c)] (h) (some (.ref u)) (xx_up h u (102, c, fun j => if j < c then G j else .int 0)) := by
  refine XMet.of hl rfl rfl (Nat.le_of_ble_eq_true rfl) (fun Y O hh hQ => ?_)
  have hvu : v ≠ u := fun q => by rw [q, hu] at hv; cases hv
  show SW Y 1 c (h) 0 [.ref v, .int (nI 0), .int (nI c), xx_d, xx_d] []
  refine sw_iload_n O (xx_dt dd_J7_copyOfRangeByte_39247 0 rfl) rfl ?_
  refine sw_iload_n O (xx_dt dd_J7_copyOfRangeByte_39247 1 rfl) rfl ?_
  refine sw_callSx (k := 1) (n := c) (k' := 0) (n' := 0) (as := [.int (nI 0), .int (nI c)]) (st := []) (st2 := []) O (sb_checkLength hl hc) ce_J7_checkLength_df160 ml_J7_343 st_J7_checkLength_df160 (xx_dt dd_J7_copyOfRangeByte_39247 2 rfl) (by decide) rfl rfl (Nat.le_of_ble_eq_true rfl) rfl ?_
  refine sw_iload_n O (xx_dt dd_J7_copyOfRangeByte_39247 3 rfl) rfl ?_
  refine sw_iload_n O (xx_dt dd_J7_copyOfRangeByte_39247 4 rfl) rfl ?_
  refine sw_isub O (xx_dt dd_J7_copyOfRangeByte_39247 5 rfl) ?_
  rw [show nI c - nI 0 = nI c from xx_sub0 _]
  refine sw_istore_n (ls2 := [.ref v, .int (nI 0), .int (nI c), .int (nI c), xx_d]) O (xx_dt dd_J7_copyOfRangeByte_39247 6 rfl) (by decide) rfl ?_
  refine sw_iload_n O (xx_dt dd_J7_copyOfRangeByte_39247 7 rfl) rfl ?_
  refine xx_wid (k' := 0 + 1) (n' := 0 + c) (by omega) (by omega) (sw_newarray (t := 102) (N := c) (r := u) O (xx_dt dd_J7_copyOfRangeByte_39247 8 rfl) ⟨⟨by omega, by omega⟩, rfl⟩ ac_byte (xx_nlt0 c (by omega)) (nI_clamp (by omega)) (by show c * 1 ≤ _; omega) hu h9 ?_)
  rw [xx_blk_up, show (fun _ => defaultValue (newarray.typeOf .byte)) = (fun _ => Value.int 0 : Nat → Value) from rfl]
  refine sw_astore (ls2 := [.ref v, .int (nI 0), .int (nI c), .int (nI c), .ref u]) O (xx_dt dd_J7_copyOfRangeByte_39247 9 rfl) (by decide) rfl ?_
  refine sw_aload_n O (xx_dt dd_J7_copyOfRangeByte_39247 10 rfl) rfl ?_
  refine sw_iload_n O (xx_dt dd_J7_copyOfRangeByte_39247 11 rfl) rfl ?_
  refine sw_aload O (xx_dt dd_J7_copyOfRangeByte_39247 12 rfl) rfl ?_
  refine sw_iconst (x := 0) O (xx_dt dd_J7_copyOfRangeByte_39247 13 rfl) (by decide) ?_
  refine sw_aload_n O (xx_dt dd_J7_copyOfRangeByte_39247 14 rfl) rfl ?_
  refine sw_alen (t := 102) O (xx_dt dd_J7_copyOfRangeByte_39247 15 rfl) (by omega) (by omega) (by rw [xx_up_ne hvu]; exact hv) ?_
  refine sw_iload_n O (xx_dt dd_J7_copyOfRangeByte_39247 16 rfl) rfl ?_
  refine sw_isub O (xx_dt dd_J7_copyOfRangeByte_39247 17 rfl) ?_
  rw [show nI 16 - nI 0 = nI 16 from xx_sub0 _]
  refine sw_iload_n O (xx_dt dd_J7_copyOfRangeByte_39247 18 rfl) rfl ?_
  refine sw_min (x := nI 16) (y := nI c) O mm_J7_304 (xx_dt dd_J7_copyOfRangeByte_39247 19 rfl) (by omega) (Nat.le_of_ble_eq_true rfl) ?_
  rw [if_pos ((nI_ltI (a := c) (b := 16) (by omega) (by omega)).mpr (by omega))]
  refine sw_copyB (h2' := xx_up h u (102, c, fun j => if j < c then G j else .int 0)) O ay_J7_150 (xx_dt dd_J7_copyOfRangeByte_39247 20 rfl) (by rw [xx_up_ne hvu]; exact hv) (xx_up_eq _ _ _) h9 (xx_nlt0 c (by omega)) (by rw [nI_clamp (by omega)]; omega) (by rw [nI_clamp (by omega)]; exact Nat.le_refl _) (fun j hj => ?_) (by omega) (by decide +kernel) ?_ ?_
  · rw [nI_clamp (by omega)] at hj
    exact hG j hj
  · rw [xx_up_up, nI_clamp (by omega)]
  refine sw_aload O (xx_dt dd_J7_copyOfRangeByte_39247 21 rfl) rfl ?_
  exact sw_aret O (xx_dt dd_J7_copyOfRangeByte_39247 22 rfl) rfl (.inr ⟨_, rfl⟩) (by rw [hQ]; exact ⟨rfl, rfl⟩)
theorem sb_copyR {l : Launch} {h : XH} (hl : l.stackTraces = false) {v u c : Nat} {G : Nat → Value} (hv : h v = some (102, 16, G)) (hu : h u = none) (h9 : 1000 ≤ u) (hc : c < 16) (hG : ∀ j, j < c → ∃ z : Int32, G j = .int z ∧ fits .byte (.int z) = true)  : XEx l m_J7_copyOfRange_39247 2 1 c [.ref v, .int (nI 0), .int (nI c)] (h) (some (.ref u)) (xx_up h u (102, c, fun j => if j < c then G j else .int 0)) := by
  refine XMet.of hl rfl rfl (Nat.le_of_ble_eq_true rfl) (fun Y O hh hQ => ?_)
  show SW Y 1 c (h) 0 [.ref v, .int (nI 0), .int (nI c)] []
  refine sw_iload_n O (xx_dt dd_J7_copyOfRange_39247 0 rfl) rfl ?_
  refine sw_if_ne (tgt := 10) O (xx_dt dd_J7_copyOfRange_39247 1 rfl) (by decide) (fun q => absurd rfl q) (fun _ => ?_)
  refine sw_iload_n O (xx_dt dd_J7_copyOfRange_39247 2 rfl) rfl ?_
  refine sw_aload_n O (xx_dt dd_J7_copyOfRange_39247 3 rfl) rfl ?_
  refine sw_alen (t := 102) O (xx_dt dd_J7_copyOfRange_39247 4 rfl) (by omega) (by omega) hv ?_
  refine sw_icmp_eq (tgt := 17) O (xx_dt dd_J7_copyOfRange_39247 5 rfl) (by decide) (fun q => absurd q (fun q => absurd (congrArg cn q) (by rw [cn_nI (by omega), cn_nI (by omega)]; omega))) (fun _ => ?_)
  refine sw_aload_n O (xx_dt dd_J7_copyOfRange_39247 6 rfl) rfl ?_
  refine sw_iload_n O (xx_dt dd_J7_copyOfRange_39247 7 rfl) rfl ?_
  refine sw_iload_n O (xx_dt dd_J7_copyOfRange_39247 8 rfl) rfl ?_
  refine xx_wid (k' := 0 + 1) (n' := 0 + c) (by omega) (by omega) (sw_callSx (k := 0) (n := 0) (k' := 1) (n' := c) (as := [.ref v, .int (nI 0), .int (nI c)]) (st := []) (st2 := [.ref u]) O (sb_copyRB hl hv hu h9 hc hG) ce_J7_copyOfRangeByte_39247 ml_J7_339 st_J7_copyOfRangeByte_39247 (xx_dt dd_J7_copyOfRange_39247 9 rfl) (by decide) rfl rfl (Nat.le_of_ble_eq_true rfl) rfl ?_)
  exact sw_aret O (xx_dt dd_J7_copyOfRange_39247 10 rfl) rfl (.inr ⟨_, rfl⟩) (by rw [hQ]; exact ⟨rfl, rfl⟩)
def xx_so (u : Nat) : Nat → Value := updV (updV (fun j => defaultValue (tyJ0 j)) 1 (.int 0)) 0 (.ref u)
theorem sb_sinit2 {l : Launch} {h : XH} (hl : l.stackTraces = false) {r v c t u : Nat} {b : Int32} {G : Nat → Value} (hr : h r = some (1, 4, xx_sb v c b)) (hv : h v = some (102, 16, G)) (ht : h t = some (0, 4, fun j => defaultValue (tyJ0 j))) (hu : h u = none) (h1 : 1000 ≤ t) (h9 : 1000 ≤ u) (hc : c < 16) (hG : ∀ j, j < c → ∃ z : Int32, G j = .int z ∧ fits .byte (.int z) = true)  : XEx l m_J0_init_db425 3 1 c [.ref t, .ref r, .null] (h) (none) (xx_up (xx_up h t (0, 4, xx_so u)) u (102, c, fun j => if j < c then G j else .int 0)) := by
  refine XMet.of hl rfl rfl (Nat.le_of_ble_eq_true rfl) (fun Y O hh hQ => ?_)
  have hrt : r ≠ t := fun q => by rw [q, ht] at hr; cases hr
  have hvt : v ≠ t := fun q => by rw [q, ht] at hv; cases hv
  have htu : t ≠ u := fun q => by rw [q, hu] at ht; cases ht
  show SW Y 1 c (h) 0 [.ref t, .ref r, .null, xx_d, xx_d] []
  refine sw_aload_n O (xx_dt dd_J0_init_db425 0 rfl) rfl ?_
  refine sw_objInit O oi_J0_1 (xx_dt dd_J0_init_db425 1 rfl) (by omega) (Nat.le_of_ble_eq_true rfl) ?_
  refine sw_aload_n O (xx_dt dd_J0_init_db425 2 rfl) rfl ?_
  refine sw_callWx (k := 1) (n := c) (k' := 0) (n' := 0) (as := []) (st := []) (st2 := [.ref v]) O (sb_getValue hl hr) ce_J5_getValue_6d5f1 mk_J0_552 slc_J5_getValue_6d5f1 cl_J4 (hr) (xx_dt dd_J0_init_db425 3 rfl) (by decide) rfl rfl (Nat.le_of_ble_eq_true rfl) rfl ?_
  refine sw_astore_n (ls2 := [.ref t, .ref r, .null, .ref v, xx_d]) O (xx_dt dd_J0_init_db425 4 rfl) (by decide) rfl ?_
  refine sw_aload_n O (xx_dt dd_J0_init_db425 5 rfl) rfl ?_
  refine sw_callUx (k := 1) (n := c) (k' := 0) (n' := 0) (as := []) (st := []) (st2 := [.int (nI c)]) O (sb_length hl hr) ce_J4_length_8abf5 ov_J0_549 cl_J4 hr (xx_dt dd_J0_init_db425 6 rfl) (by decide) rfl rfl (Nat.le_of_ble_eq_true rfl) rfl ?_
  refine sw_istore (ls2 := [.ref t, .ref r, .null, .ref v, .int (nI c)]) O (xx_dt dd_J0_init_db425 7 rfl) (by decide) rfl ?_
  refine sw_aload_n O (xx_dt dd_J0_init_db425 8 rfl) rfl ?_
  refine sw_callWx (k := 1) (n := c) (k' := 0) (n' := 0) (as := []) (st := []) (st2 := [.int 1]) O (sb_isLatin1 hl hr) ce_J5_isLatin1_aae02 mk_J0_1047 slc_J5_isLatin1_aae02 cl_J4 (hr) (xx_dt dd_J0_init_db425 9 rfl) (by decide) rfl rfl (Nat.le_of_ble_eq_true rfl) rfl ?_
  refine sw_if_eq (tgt := 41) O (xx_dt dd_J0_init_db425 10 rfl) (by decide) (fun q => absurd q (by decide)) (fun _ => ?_)
  refine sw_aload_n O (xx_dt dd_J0_init_db425 11 rfl) rfl ?_
  refine sw_iconst (x := 0) O (xx_dt dd_J0_init_db425 12 rfl) (by decide) ?_
  refine sw_putF (h2 := xx_up h t (0, 4, updV (fun j => defaultValue (tyJ0 j)) 1 (.int 0))) O (xx_dt dd_J0_init_db425 13 rfl) cl_J0 fz_J0_15 ht (by decide) h1 rfl rfl (fun _ => ⟨rfl, rfl⟩) rfl ?_
  refine sw_aload_n O (xx_dt dd_J0_init_db425 14 rfl) rfl ?_
  refine sw_aload_n O (xx_dt dd_J0_init_db425 15 rfl) rfl ?_
  refine sw_iconst (x := 0) O (xx_dt dd_J0_init_db425 16 rfl) (by decide) ?_
  refine sw_iload O (xx_dt dd_J0_init_db425 17 rfl) rfl ?_
  refine xx_wid (k' := 0 + 1) (n' := 0 + c) (by omega) (by omega) (sw_callSx (k := 0) (n := 0) (k' := 1) (n' := c) (as := [.ref v, .int (nI 0), .int (nI c)]) (st := [.ref t]) (st2 := [.ref u, .ref t]) O (sb_copyR hl (v := v) (u := u) (c := c) (G := G) (by rw [xx_up_ne hvt]; exact hv) (by rw [xx_up_ne (Ne.symm htu)]; exact hu) h9 hc hG) ce_J7_copyOfRange_39247 ml_J0_54 st_J7_copyOfRange_39247 (xx_dt dd_J0_init_db425 18 rfl) (by decide) rfl rfl (Nat.le_of_ble_eq_true rfl) rfl ?_)
  refine sw_putF (h2 := xx_up (xx_up h t (0, 4, xx_so u)) u (102, c, fun j => if j < c then G j else .int 0)) O (xx_dt dd_J0_init_db425 19 rfl) cl_J0 fz_J0_9 (by rw [xx_up_ne htu]; exact xx_up_eq _ _ _) (by decide) h1 rfl rfl (fun _ => ⟨rfl, rfl⟩) (by rw [← xx_up_sw htu, xx_up_up]; rfl) ?_
  refine sw_goto (tgt := 97) O (xx_dt dd_J0_init_db425 20 rfl) (by decide) ?_
  exact sw_ret O (xx_dt dd_J0_init_db425 50 rfl) rfl (by rw [hQ]; exact ⟨rfl, rfl⟩)
theorem sb_sinit {l : Launch} {h : XH} (hl : l.stackTraces = false) {r v c t u : Nat} {b : Int32} {G : Nat → Value} (hr : h r = some (1, 4, xx_sb v c b)) (hv : h v = some (102, 16, G)) (ht : h t = some (0, 4, fun j => defaultValue (tyJ0 j))) (hu : h u = none) (h1 : 1000 ≤ t) (h9 : 1000 ≤ u) (hc : c < 16) (hG : ∀ j, j < c → ∃ z : Int32, G j = .int z ∧ fits .byte (.int z) = true)  : XEx l m_J0_init_81219 4 1 c [.ref t, .ref r] (h) (none) (xx_up (xx_up h t (0, 4, xx_so u)) u (102, c, fun j => if j < c then G j else .int 0)) := by
  refine XMet.of hl rfl rfl (Nat.le_of_ble_eq_true rfl) (fun Y O hh hQ => ?_)
  show SW Y 1 c (h) 0 [.ref t, .ref r] []
  refine sw_aload_n O (xx_dt dd_J0_init_81219 0 rfl) rfl ?_
  refine sw_aload_n O (xx_dt dd_J0_init_81219 1 rfl) rfl ?_
  refine sw_null O (xx_dt dd_J0_init_81219 2 rfl) ?_
  refine xx_wid (k' := 0 + 1) (n' := 0 + c) (by omega) (by omega) (sw_callIx (k := 0) (n := 0) (k' := 1) (n' := c) (as := [.ref r, .null]) (st := []) (st2 := []) O (sb_sinit2 hl hr hv ht hu h1 h9 hc hG) ce_J0_init_db425 ml_J0_489 ii_J0_init_db425 (xx_dt dd_J0_init_81219 3 rfl) (by decide) rfl rfl (Nat.le_of_ble_eq_true rfl) rfl ?_)
  exact sw_ret O (xx_dt dd_J0_init_81219 4 rfl) rfl (by rw [hQ]; exact ⟨rfl, rfl⟩)
theorem sb_toString {l : Launch} {h : XH} (hl : l.stackTraces = false) {r v c t u : Nat} {b : Int32} {G : Nat → Value} (hr : h r = some (1, 4, xx_sb v c b)) (hv : h v = some (102, 16, G)) (ht : h t = none) (hu : h u = none) (h1 : 1000 ≤ t) (h9 : 1000 ≤ u) (hc : c < 16) (hG : ∀ j, j < c → ∃ z : Int32, G j = .int z ∧ fits .byte (.int z) = true) (htu : t ≠ u)  : XEx l m_J4_toString_0e30d 5 2 (c + 4) [.ref r] (h) (some (.ref t)) (xx_up (xx_up h t (0, 4, xx_so u)) u (102, c, fun j => if j < c then G j else .int 0)) := by
  refine XMet.of hl rfl rfl (Nat.le_of_ble_eq_true rfl) (fun Y O hh hQ => ?_)
  have hrt : r ≠ t := fun q => by rw [q, ht] at hr; cases hr
  have hvt : v ≠ t := fun q => by rw [q, ht] at hv; cases hv
  show SW Y 2 (c + 4) (h) 0 [.ref r] []
  refine sw_new (k := 1) (n := c) (r := t) O (xx_dt dd_J4_toString_0e30d 0 rfl) cl_J0 nw_J4_18 ht h1 ?_
  rw [xx_blk_up]
  refine sw_dup O (xx_dt dd_J4_toString_0e30d 1 rfl) rfl ?_
  refine sw_aload_n O (xx_dt dd_J4_toString_0e30d 2 rfl) rfl ?_
  refine xx_wid (k' := 0 + 1) (n' := 0 + c) (by omega) (by omega) (sw_callIx (k := 0) (n := 0) (k' := 1) (n' := c) (as := [.ref r]) (st := [.ref t]) (st2 := [.ref t]) O (sb_sinit hl (r := r) (v := v) (c := c) (t := t) (u := u) (b := b) (G := G) (by rw [xx_up_ne hrt]; exact hr) (by rw [xx_up_ne hvt]; exact hv) (xx_up_eq _ _ _) (by rw [xx_up_ne (Ne.symm htu)]; exact hu) h1 h9 hc hG) ce_J0_init_81219 ml_J4_137 ii_J0_init_81219 (xx_dt dd_J4_toString_0e30d 3 rfl) (by decide) rfl rfl (Nat.le_of_ble_eq_true rfl) rfl ?_)
  rw [xx_up_up]
  exact sw_aret O (xx_dt dd_J4_toString_0e30d 4 rfl) rfl (.inl ⟨_, rfl⟩) (by rw [hQ]; exact ⟨rfl, rfl⟩)
end
section
/-! ===== a region's chart ===== -/
theorem setC_up {σ : XS9} {h : XH} {r : Nat} {c : XC} (hr : ¬ (1000 ≤ r ∧ r < 4000)) : setC σ (xx_up h r c) = xx_up (setC σ h) r c := by
  funext q
  unfold setC xx_up
  by_cases e : q = r
  · subst e
    rw [if_neg hr, if_pos rfl, if_pos rfl]
  · simp only [if_neg e]
theorem setC_out {σ : XS9} {h : XH} {r : Nat} (hr : ¬ (1000 ≤ r ∧ r < 4000)) : setC σ h r = h r := if_neg hr
def hB (h : XH) (c : Nat) (b : Int32) (G : Nat → Value) : XH := xx_up (xx_up h 4000 (1, 4, xx_sb 4001 c b)) 4001 (102, 16, G)
section
variable {σ : XS9} {h : XH} {c c' : Nat} {b b' : Int32} {G G' : Nat → Value}
theorem hB_r : setC σ (hB h c b G) 4000 = some (1, 4, xx_sb 4001 c b) := (setC_out (by omega)).trans ((xx_up_ne (by omega)).trans (xx_up_eq _ _ _))
theorem hB_v : setC σ (hB h c b G) 4001 = some (102, 16, G) := (setC_out (by omega)).trans (xx_up_eq _ _ _)
theorem hB_o {q : Nat} (h1 : ¬ (1000 ≤ q ∧ q < 4000)) (h2 : q ≠ 4000) (h3 : q ≠ 4001) : setC σ (hB h c b G) q = h q := (setC_out h1).trans ((xx_up_ne h3).trans (xx_up_ne h2))
theorem hB_up : xx_up (xx_up (setC σ (hB h c b G)) 4000 (1, 4, xx_sb 4001 c' b')) 4001 (102, 16, G') = setC σ (hB h c' b' G') := by
  rw [← setC_up (by omega), ← setC_up (by omega)]
  congr 1
  funext q
  unfold hB xx_up
  by_cases a1 : q = 4001 <;> by_cases a2 : q = 4000 <;> simp_all
theorem hB_set : xx_up (setC σ (hB h c b G)) 4000 (1, 4, xx_sb 4001 c' b') = setC σ (hB h c' b' G) := by
  rw [← setC_up (by omega)]
  congr 1
  funext q
  unfold hB xx_up
  by_cases a1 : q = 4001 <;> by_cases a2 : q = 4000 <;> simp_all
end
/-- the row of digits' signs -/
def xx_dig (h : XH) : Prop := ∃ F, h 4 = some (102, 100, F) ∧ ∀ x, x < 10 → F x = .int (48 + nI x)
theorem nar_dig {x : Nat} (hx : x < 10) : narrow .byte (.int (48 + nI x)) = .int (48 + nI x) := by
  have : ∀ a : Fin 10, (48 + nI a.1 : Int32).toInt8.toInt32 = 48 + nI a.1 := by decide +kernel
  exact congrArg Value.int (this ⟨x, hx⟩)
theorem dr_C {l : Launch} {σ : XS9} {h : XH} {c : Nat} {b : Int32} {G : Nat → Value} (hl : l.stackTraces = false) (hc : c < 16) {x : Int32} (hx : ¬ (255 : Int32) < x) (hx2 : x.toInt8.toInt32 = x) : XEx l m_J4_append_cf468 2 0 0 [.ref 4000, .int x] (setC σ (hB h c b G)) (some (.ref 4000)) (setC σ (hB h (c + 1) b (updV G c (.int x)))) := by
  have t := sb_appendC hl (h := setC σ (hB h c b G)) hB_r hB_v (by omega) (by omega) (by omega) hc hx hx2 (congrArg Value.int hx2)
  rw [hB_up] at t
  exact t
theorem dr_I {l : Launch} {σ : XS9} {h : XH} {c : Nat} {b : Int32} {G : Nat → Value} (hl : l.stackTraces = false) (hd : xx_dig h) (hc : c < 15) {x : Nat} (hx : x < 10) : XEx l m_J4_append_bf812 2 0 0 [.ref 4000, .int (nI x)] (setC σ (hB h c b G)) (some (.ref 4000)) (setC σ (hB h (c + 1) b (updV G c (.int (48 + nI x))))) := by
  obtain ⟨F, h4, hF⟩ := hd
  have t := sb_appendI hl (h := setC σ (hB h c b G)) hB_r hB_v (by omega) (by omega) (by omega) (by omega) hx ((hB_o (by omega) (by omega) (by omega)).trans h4) (hF x hx) (nar_dig hx)
  rw [hB_up] at t
  exact t
def sgn (z : Int32) : Int32 := if z = -1 then 45 else 48 + z
def gD (f : Nat → Int32) (G : Nat → Value) (s : Nat) : Nat → Value := fun j => if j < 2 * s - 1 then .int (if j % 2 = 1 then 44 else sgn (f (j / 2))) else G j
theorem gD_0 {f : Nat → Int32} {G : Nat → Value} : gD f G 0 = G := by
  funext j
  unfold gD
  rw [if_neg (by omega)]
theorem dr_1 {σ : XS9} {h : XH} {b : Int32} {f : Nat → Int32} {G : Nat → Value} {s : Nat} {w : Int32} (hs : 0 < s) (hw : w = sgn (f s)) : setC σ (hB h (2 * s - 1 + 1 + 1) b (updV (updV (gD f G s) (2 * s - 1) (.int 44)) (2 * s - 1 + 1) (.int w))) = setC σ (hB h (2 * (s + 1) - 1) b (gD f G (s + 1))) := by
  subst hw
  rw [show 2 * s - 1 + 1 + 1 = 2 * (s + 1) - 1 by omega, show 2 * s - 1 + 1 = 2 * s by omega]
  congr 2
  funext j
  unfold updV gD
  by_cases e : j = 2 * s
  · subst e
    rw [if_pos rfl, if_pos (by omega), if_neg (by omega), show 2 * s / 2 = s by omega]
  · rw [if_neg e]
    by_cases e2 : j = 2 * s - 1
    · rw [if_pos e2, if_pos (by omega), if_pos (by omega)]
    · rw [if_neg e2]
      by_cases e3 : j < 2 * s - 1
      · rw [if_pos e3, if_pos (show j < 2 * (s + 1) - 1 by omega)]
      · rw [if_neg e3, if_neg (by omega)]
theorem dr_0 {σ : XS9} {h : XH} {b : Int32} {f : Nat → Int32} {G : Nat → Value} {s : Nat} {w : Int32} (hs : s = 0) (hw : w = sgn (f s)) : setC σ (hB h (2 * s - 1 + 1) b (updV (gD f G s) (2 * s - 1) (.int w))) = setC σ (hB h (2 * (s + 1) - 1) b (gD f G (s + 1))) := by
  subst hs
  subst hw
  congr 2
  funext j
  unfold updV gD
  by_cases e : j = 0
  · subst e
    rfl
  · rw [if_neg (by omega), if_neg (by omega), if_neg (by omega)]
theorem ct_X3_draw {l : Launch} {h : XH} (hl : l.stackTraces = false) {σ : XS9} {b : Int32} {G : Nat → Value} {rg sp : Nat} (hr : rg < 5) (hsp : σ 1010 rg = nI sp) (hsp5 : sp ≤ 5) (hdg : xx_dig h) (hho : ∀ k, k < sp → σ (1141 + rg) k = -1 ∨ ∃ x, x < 10 ∧ σ (1141 + rg) k = nI x)  : XEx l m_X3_draw 3 0 0 [.ref 1005, .ref 1001, .int (nI rg), .ref 4000] (setC σ (hB h 0 b G)) (none) (setC σ (hB h (2 * sp - 1) b (gD (σ (1141 + rg)) G sp))) := by
  refine XMet.of hl rfl rfl (Nat.le_of_ble_eq_true rfl) (fun Y O hh hQ => ?_)
  show SW Y 0 0 (setC σ (hB h 0 b G)) 0 [.ref 1005, .ref 1001, .int (nI rg), .ref 4000, xx_d, xx_d] []
  refine sw_iconst (x := 0) O (xx_dt dd_X3_draw 0 rfl) (by decide) ?_
  refine sw_istore (ls2 := [.ref 1005, .ref 1001, .int (nI rg), .ref 4000, .int 0, xx_d]) O (xx_dt dd_X3_draw 1 rfl) (by decide) rfl ?_
  rw [show hB h 0 b G = hB h (2 * 0 - 1) b (gD (σ (1141 + rg)) G 0) by rw [gD_0]]
  refine sw_for (fun _ s => s + 1) (fun i s => s = i) (hp := fun s => setC σ (hB h (2 * s - 1) b (gD (σ (1141 + rg)) G s))) (hd := 3) (lc := fun i s => [.ref 1005, .ref 1001, .int (nI rg), .ref 4000, .int (nI i), xx_d]) (N := sp) (fun i s hi hP => ⟨by rw [hP], fun kk => ?_⟩) sp 0 0 (by omega) rfl (fun hP => ?_)
  · subst hP
    refine sw_iload O (xx_dt dd_X3_draw 2 rfl) rfl ?_
    refine sw_aload_n O (xx_dt dd_X3_draw 3 rfl) rfl ?_
    refine sw_get (v := .ref 1010) O (xx_dt dd_X3_draw 4 rfl) cl_X6 fl_X3_45 (ly_1001 σ (hB h (2 * s - 1) b (gD (σ (1141 + rg)) G s))) (by decide) rfl ?_
    refine sw_iload_n O (xx_dt dd_X3_draw 5 rfl) rfl ?_
    refine sw_iaload (v := .int (nI sp)) O (xx_dt dd_X3_draw 6 rfl) (ly_1010 σ (hB h (2 * s - 1) b (gD (σ (1141 + rg)) G s))) (pk_in rg _ (by omega)) (by rw [nI_clamp (by omega)]; exact (congrArg Value.int hsp)) ?_
    refine sw_icmp_ge (tgt := 66) O (xx_dt dd_X3_draw 7 rfl) (by decide) (fun q => absurd ((nI_leI (a := sp) (b := s) (by omega) (by omega)).mp q) (by omega)) (fun _ => ?_)
    refine sw_iload O (xx_dt dd_X3_draw 8 rfl) rfl ?_
    refine sw_if_le (tgt := 26) O (xx_dt dd_X3_draw 9 rfl) (by decide) (fun q => ?_) (fun q => ?_)
    · have hs0 : s = 0 := by have := (nI_leI (a := s) (b := 0) (by omega) (by omega)).mp q; omega
      refine sw_aload_n O (xx_dt dd_X3_draw 14 rfl) rfl ?_
      refine sw_get (v := .ref 1140) O (xx_dt dd_X3_draw 15 rfl) cl_X3 fl_X3_11 (ly_1005 σ (hB h (2 * s - 1) b (gD (σ (1141 + rg)) G s))) (by decide) rfl ?_
      refine sw_iload_n O (xx_dt dd_X3_draw 16 rfl) rfl ?_
      refine sw_aaload (v := .ref (1141 + rg)) O (xx_dt dd_X3_draw 17 rfl) (by omega) (by omega) (ly_1140 σ (hB h (2 * s - 1) b (gD (σ (1141 + rg)) G s))) (pk_in rg _ (by omega)) (by rw [nI_clamp (by omega)]; try exact rfl) ?_
      refine sw_iload O (xx_dt dd_X3_draw 18 rfl) rfl ?_
      refine sw_iaload (v := .int (σ (1141 + rg) s)) O (xx_dt dd_X3_draw 19 rfl) (lr_1140 σ (hB h (2 * s - 1) b (gD (σ (1141 + rg)) G s)) (k := rg) (by omega)) (pk_in s _ (by omega)) (by rw [nI_clamp (by omega)]; try exact rfl) ?_
      refine sw_istore (ls2 := [.ref 1005, .ref 1001, .int (nI rg), .ref 4000, .int (nI s), .int (σ (1141 + rg) s)]) O (xx_dt dd_X3_draw 20 rfl) (by decide) rfl ?_
      refine sw_iload O (xx_dt dd_X3_draw 21 rfl) rfl ?_
      refine sw_iconst (x := (-1)) O (xx_dt dd_X3_draw 22 rfl) (by decide) ?_
      refine sw_icmp_ne (tgt := 53) O (xx_dt dd_X3_draw 23 rfl) (by decide) (fun q2 => ?_) (fun q2 => ?_)
      · obtain ⟨x, hx, ex⟩ := (hho s hi).resolve_left q2
        have hsg : 48 + nI x = sgn (σ (1141 + rg) s) := by unfold sgn; rw [if_neg q2, ex]
        refine sw_aload_n O (xx_dt dd_X3_draw 29 rfl) rfl ?_
        rw [ex]
        refine sw_iload O (xx_dt dd_X3_draw 30 rfl) rfl ?_
        refine sw_callVx (as := [.int (nI x)]) (st := []) (st2 := [.ref 4000]) O (dr_I hl hdg (c := 2 * s - 1) (by omega) hx) ce_J4_append_bf812 ml_X3_68 iv_J4_append_bf812 cl_J4 rfl (hB_r) (xx_dt dd_X3_draw 31 rfl) (by decide) rfl rfl (Nat.le_of_ble_eq_true rfl) rfl ?_
        refine sw_pop O (xx_dt dd_X3_draw 32 rfl) rfl ?_
        rw [dr_0 hs0 hsg]
        refine sw_iinc (y := nI (s + 1)) (ls2 := [.ref 1005, .ref 1001, .int (nI rg), .ref 4000, .int (nI (s + 1)), .int (nI x)]) O (xx_dt dd_X3_draw 33 rfl) rfl (nI_1 _) (by decide) rfl ?_
        refine sw_goto (tgt := 3) O (xx_dt dd_X3_draw 34 rfl) (by decide) ?_
        refine sw_dum (ls2 := [.ref 1005, .ref 1001, .int (nI rg), .ref 4000, .int (nI (s + 1)), xx_d]) ⟨.inr rfl, .inr rfl, .inr rfl, .inr rfl, .inr rfl, .inl rfl, trivial⟩ ?_
        exact kk
      · have hsg : (45 : Int32) = sgn (σ (1141 + rg) s) := by unfold sgn; rw [if_pos q2]
        refine sw_aload_n O (xx_dt dd_X3_draw 24 rfl) rfl ?_
        refine sw_bipush (x := 45) O (xx_dt dd_X3_draw 25 rfl) (by decide) ?_
        refine sw_callVx (as := [.int 45]) (st := []) (st2 := [.ref 4000]) O (dr_C hl (c := 2 * s - 1) (by omega) (by decide) (by decide)) ce_J4_append_cf468 ml_X3_62 iv_J4_append_cf468 cl_J4 rfl (hB_r) (xx_dt dd_X3_draw 26 rfl) (by decide) rfl rfl (Nat.le_of_ble_eq_true rfl) rfl ?_
        refine sw_pop O (xx_dt dd_X3_draw 27 rfl) rfl ?_
        refine sw_goto (tgt := 60) O (xx_dt dd_X3_draw 28 rfl) (by decide) ?_
        rw [dr_0 hs0 hsg]
        refine sw_iinc (y := nI (s + 1)) (ls2 := [.ref 1005, .ref 1001, .int (nI rg), .ref 4000, .int (nI (s + 1)), .int (σ (1141 + rg) s)]) O (xx_dt dd_X3_draw 33 rfl) rfl (nI_1 _) (by decide) rfl ?_
        refine sw_goto (tgt := 3) O (xx_dt dd_X3_draw 34 rfl) (by decide) ?_
        refine sw_dum (ls2 := [.ref 1005, .ref 1001, .int (nI rg), .ref 4000, .int (nI (s + 1)), xx_d]) ⟨.inr rfl, .inr rfl, .inr rfl, .inr rfl, .inr rfl, .inl rfl, trivial⟩ ?_
        exact kk
    · have hs : 0 < s := Nat.pos_of_ne_zero (fun e => q (by rw [e]; exact Int32.le_refl _))
      refine sw_aload_n O (xx_dt dd_X3_draw 10 rfl) rfl ?_
      refine sw_bipush (x := 44) O (xx_dt dd_X3_draw 11 rfl) (by decide) ?_
      refine sw_callVx (as := [.int 44]) (st := []) (st2 := [.ref 4000]) O (dr_C hl (c := 2 * s - 1) (by omega) (by decide) (by decide)) ce_J4_append_cf468 ml_X3_62 iv_J4_append_cf468 cl_J4 rfl (hB_r) (xx_dt dd_X3_draw 12 rfl) (by decide) rfl rfl (Nat.le_of_ble_eq_true rfl) rfl ?_
      refine sw_pop O (xx_dt dd_X3_draw 13 rfl) rfl ?_
      refine sw_aload_n O (xx_dt dd_X3_draw 14 rfl) rfl ?_
      refine sw_get (v := .ref 1140) O (xx_dt dd_X3_draw 15 rfl) cl_X3 fl_X3_11 (ly_1005 σ (hB h (2 * s - 1 + 1) b (updV (gD (σ (1141 + rg)) G s) (2 * s - 1) (.int 44)))) (by decide) rfl ?_
      refine sw_iload_n O (xx_dt dd_X3_draw 16 rfl) rfl ?_
      refine sw_aaload (v := .ref (1141 + rg)) O (xx_dt dd_X3_draw 17 rfl) (by omega) (by omega) (ly_1140 σ (hB h (2 * s - 1 + 1) b (updV (gD (σ (1141 + rg)) G s) (2 * s - 1) (.int 44)))) (pk_in rg _ (by omega)) (by rw [nI_clamp (by omega)]; try exact rfl) ?_
      refine sw_iload O (xx_dt dd_X3_draw 18 rfl) rfl ?_
      refine sw_iaload (v := .int (σ (1141 + rg) s)) O (xx_dt dd_X3_draw 19 rfl) (lr_1140 σ (hB h (2 * s - 1 + 1) b (updV (gD (σ (1141 + rg)) G s) (2 * s - 1) (.int 44))) (k := rg) (by omega)) (pk_in s _ (by omega)) (by rw [nI_clamp (by omega)]; try exact rfl) ?_
      refine sw_istore (ls2 := [.ref 1005, .ref 1001, .int (nI rg), .ref 4000, .int (nI s), .int (σ (1141 + rg) s)]) O (xx_dt dd_X3_draw 20 rfl) (by decide) rfl ?_
      refine sw_iload O (xx_dt dd_X3_draw 21 rfl) rfl ?_
      refine sw_iconst (x := (-1)) O (xx_dt dd_X3_draw 22 rfl) (by decide) ?_
      refine sw_icmp_ne (tgt := 53) O (xx_dt dd_X3_draw 23 rfl) (by decide) (fun q2 => ?_) (fun q2 => ?_)
      · obtain ⟨x, hx, ex⟩ := (hho s hi).resolve_left q2
        have hsg : 48 + nI x = sgn (σ (1141 + rg) s) := by unfold sgn; rw [if_neg q2, ex]
        refine sw_aload_n O (xx_dt dd_X3_draw 29 rfl) rfl ?_
        rw [ex]
        refine sw_iload O (xx_dt dd_X3_draw 30 rfl) rfl ?_
        refine sw_callVx (as := [.int (nI x)]) (st := []) (st2 := [.ref 4000]) O (dr_I hl hdg (c := 2 * s - 1 + 1) (by omega) hx) ce_J4_append_bf812 ml_X3_68 iv_J4_append_bf812 cl_J4 rfl (hB_r) (xx_dt dd_X3_draw 31 rfl) (by decide) rfl rfl (Nat.le_of_ble_eq_true rfl) rfl ?_
        refine sw_pop O (xx_dt dd_X3_draw 32 rfl) rfl ?_
        rw [dr_1 hs hsg]
        refine sw_iinc (y := nI (s + 1)) (ls2 := [.ref 1005, .ref 1001, .int (nI rg), .ref 4000, .int (nI (s + 1)), .int (nI x)]) O (xx_dt dd_X3_draw 33 rfl) rfl (nI_1 _) (by decide) rfl ?_
        refine sw_goto (tgt := 3) O (xx_dt dd_X3_draw 34 rfl) (by decide) ?_
        refine sw_dum (ls2 := [.ref 1005, .ref 1001, .int (nI rg), .ref 4000, .int (nI (s + 1)), xx_d]) ⟨.inr rfl, .inr rfl, .inr rfl, .inr rfl, .inr rfl, .inl rfl, trivial⟩ ?_
        exact kk
      · have hsg : (45 : Int32) = sgn (σ (1141 + rg) s) := by unfold sgn; rw [if_pos q2]
        refine sw_aload_n O (xx_dt dd_X3_draw 24 rfl) rfl ?_
        refine sw_bipush (x := 45) O (xx_dt dd_X3_draw 25 rfl) (by decide) ?_
        refine sw_callVx (as := [.int 45]) (st := []) (st2 := [.ref 4000]) O (dr_C hl (c := 2 * s - 1 + 1) (by omega) (by decide) (by decide)) ce_J4_append_cf468 ml_X3_62 iv_J4_append_cf468 cl_J4 rfl (hB_r) (xx_dt dd_X3_draw 26 rfl) (by decide) rfl rfl (Nat.le_of_ble_eq_true rfl) rfl ?_
        refine sw_pop O (xx_dt dd_X3_draw 27 rfl) rfl ?_
        refine sw_goto (tgt := 60) O (xx_dt dd_X3_draw 28 rfl) (by decide) ?_
        rw [dr_1 hs hsg]
        refine sw_iinc (y := nI (s + 1)) (ls2 := [.ref 1005, .ref 1001, .int (nI rg), .ref 4000, .int (nI (s + 1)), .int (σ (1141 + rg) s)]) O (xx_dt dd_X3_draw 33 rfl) rfl (nI_1 _) (by decide) rfl ?_
        refine sw_goto (tgt := 3) O (xx_dt dd_X3_draw 34 rfl) (by decide) ?_
        refine sw_dum (ls2 := [.ref 1005, .ref 1001, .int (nI rg), .ref 4000, .int (nI (s + 1)), xx_d]) ⟨.inr rfl, .inr rfl, .inr rfl, .inr rfl, .inr rfl, .inl rfl, trivial⟩ ?_
        exact kk
  · have hx : ∀ f i s, s = i → xit (fun _ s => s + 1) f i s = i + f := by
      intro f
      induction f with
      | zero => intro i s e; exact e
      | succ f ih => intro i s e; show xit _ f (i + 1) (s + 1) = _; rw [ih (i + 1) (s + 1) (by rw [e])]; omega
    rw [hx sp 0 0 rfl, Nat.zero_add]
    refine sw_iload O (xx_dt dd_X3_draw 2 rfl) rfl ?_
    refine sw_aload_n O (xx_dt dd_X3_draw 3 rfl) rfl ?_
    refine sw_get (v := .ref 1010) O (xx_dt dd_X3_draw 4 rfl) cl_X6 fl_X3_45 (ly_1001 σ (hB h (2 * sp - 1) b (gD (σ (1141 + rg)) G sp))) (by decide) rfl ?_
    refine sw_iload_n O (xx_dt dd_X3_draw 5 rfl) rfl ?_
    refine sw_iaload (v := .int (nI sp)) O (xx_dt dd_X3_draw 6 rfl) (ly_1010 σ (hB h (2 * sp - 1) b (gD (σ (1141 + rg)) G sp))) (pk_in rg _ (by omega)) (by rw [nI_clamp (by omega)]; exact (congrArg Value.int hsp)) ?_
    refine sw_icmp_ge (tgt := 66) O (xx_dt dd_X3_draw 7 rfl) (by decide) (fun _ => ?_) (fun q => absurd (Int32.le_refl _) q)
    exact sw_ret O (xx_dt dd_X3_draw 35 rfl) rfl (by rw [hQ]; exact ⟨rfl, rfl⟩)
end
section
/-! ===== chart ===== -/
def hS (h : XH) (c : Nat) (G : Nat → Value) : XH := xx_up (xx_up h 4002 (0, 4, xx_so 4003)) 4003 (102, c, fun j => if j < c then G j else .int 0)
section
variable {σ : XS9} {h : XH} {c c' : Nat} {b b' : Int32} {G G' : Nat → Value}
theorem hS_up : xx_up (xx_up (setC σ h) 4002 (0, 4, xx_so 4003)) 4003 (102, c, fun j => if j < c then G j else .int 0) = setC σ (hS h c G) := by
  rw [← setC_up (by omega), ← setC_up (by omega)]
  rfl
theorem hB_new {c0 : XC} : xx_up (xx_up (xx_up (setC σ h) 4000 c0) 4000 (1, 4, xx_sb 4001 c b)) 4001 (102, 16, G) = setC σ (hB h c b G) := by
  rw [xx_up_up, ← setC_up (by omega), ← setC_up (by omega)]
  rfl
theorem hS_sub (h0 : h 4000 = none) (h1 : h 4001 = none) : xx_sub (setC σ (hS h c G)) (setC σ (hS (hB h c' b G') c G)) := by
  intro q d hq
  unfold setC at hq ⊢
  split at hq
  · rename_i e
    rw [if_pos e]
    exact hq
  · rename_i e
    rw [if_neg e]
    unfold hS hB xx_up at *
    by_cases a3 : q = 4003
    · rw [if_pos a3] at hq ⊢
      exact hq
    · rw [if_neg a3] at hq ⊢
      by_cases a2 : q = 4002
      · rw [if_pos a2] at hq ⊢
        exact hq
      · rw [if_neg a2] at hq ⊢
        by_cases a1 : q = 4001
        · rw [a1, h1] at hq
          cases hq
        · rw [if_neg a1]
          by_cases a0 : q = 4000
          · rw [a0, h0] at hq
            cases hq
          · rw [if_neg a0]
            exact hq
theorem hS_cls (hcl : xx_cls (setC σ h)) (hG : ∀ j, j < c → ∃ z : Int32, G j = .int z) : xx_cls (setC σ (hS h c G)) := by
  rw [← hS_up, xx_up_sw (by omega)]
  refine xx_cls.up (xx_cls.up hcl (fun j hj => ?_)) (fun j hj => ?_)
  · show xx_in _ (if j < c then G j else .int 0)
    rw [if_pos hj]
    obtain ⟨z, e⟩ := hG j hj
    rw [e]
    trivial
  · match j, hj with
    | 0, _ => exact (by rw [xx_up_ne (by omega), xx_up_eq]; rfl : ((xx_up (xx_up (setC σ h) 4003 (102, c, fun j => if j < c then G j else .int 0)) 4002 (0, 4, xx_so 4003)) 4003).isSome = true)
    | 1, _ => trivial
    | 2, _ => trivial
    | 3, _ => trivial
theorem hS_dom (h2 : h 4002 = none) (h3 : h 4003 = none) (r : Nat) (hr : (setC σ h r).isSome = true) : (setC σ (hS h c G) r).isSome = true := by
  rw [← hS_up]
  by_cases a3 : r = 4003
  · rw [a3, xx_up_eq]; rfl
  · rw [xx_up_ne a3]
    by_cases a2 : r = 4002
    · rw [a2, xx_up_eq]; rfl
    · rw [xx_up_ne a2]
      exact hr
end
theorem gD_int {f : Nat → Int32} {G : Nat → Value} {s : Nat} (hf : ∀ k, k < s → f k = -1 ∨ ∃ x, x < 10 ∧ f k = nI x) : ∀ j, j < 2 * s - 1 → ∃ z : Int32, gD f G s j = .int z ∧ fits .byte (.int z) = true := by
  intro j hj
  unfold gD
  rw [if_pos hj]
  refine ⟨_, rfl, ?_⟩
  split
  · decide
  · unfold sgn
    rcases hf (j / 2) (by omega) with e | ⟨x, hx, e⟩
    · rw [if_pos e]; decide
    · have : ∀ a : Fin 10, fits .byte (.int (if nI a.1 = -1 then 45 else 48 + nI a.1)) = true := by decide +kernel
      rw [e]
      exact this ⟨x, hx⟩
/-- what chart leaves: its string -/
def g_chart (σ : XS9) (h : XH) (r s : Nat) : XH := hS h (2 * s - 1) (gD (σ (1141 + r)) (fun _ => .int 0) s)
def o_chart (x : Int32) (R : Nat) : XO := if n_lt x R then .inl (some (.ref 4002)) else .inr eIOB
theorem ct_X7_chart {l : Launch} {h : XH} (hl : l.stackTraces = false) {σ : XS9} {R : Nat} (hR : σ 1001 4 = nI R) (hR5 : R ≤ 5) {sp : Nat → Nat} (hsp : ∀ r, r < 5 → σ 1010 r = nI (sp r) ∧ sp r ≤ 5) (hho : ∀ r, r < R → ∀ k, k < sp r → σ (1141 + r) k = -1 ∨ ∃ x, x < 10 ∧ σ (1141 + r) k = nI x) (hdg : xx_dig h) (h0 : h 4000 = none) (h1 : h 4001 = none) (h2 : h 4002 = none) (h3 : h 4003 = none) {x : Int32}  : XEo l m_X7_chart 7 4 40 [.ref 1000, .int x] (setC σ h) (o_chart x R) (if n_lt x R then setC σ (g_chart σ h (cn x) (sp (cn x))) else setC σ h) := by
  refine XMet.of hl rfl rfl (Nat.le_of_ble_eq_true rfl) (fun Y O hh hQ => ?_)
  refine sw_cls (fun hcl => ?_)
  show SW Y 4 40 (setC σ h) 0 [.ref 1000, .int x, xx_d] []
  refine sw_aload_n O (xx_dt dd_X7_chart 0 rfl) rfl ?_
  refine sw_iload_n O (xx_dt dd_X7_chart 1 rfl) rfl ?_
  by_cases q1 : n_lt x R
  · refine sw_callVx (as := [.int x]) (st := []) (st2 := []) (k := 4) (n := 40) (k' := 0) (n' := 0) O (ct_X7_needRegion_ok hl (σ := σ) (R := R) hR (by omega) q1) ce_X7_needRegion ml_X7_87 iv_X7_needRegion cl_X7 rfl (ly_1000 σ h) (xx_dt dd_X7_chart 2 rfl) (by decide) rfl rfl (Nat.le_of_ble_eq_true rfl) rfl ?_
    rw [if_pos q1] at hQ
    refine sw_lsE (ls2 := [.ref 1000, .int (nI (cn x)), xx_d]) (by rw [← q1.1]) ?_
    have hv := q1.2
    have hs5 := (hsp (cn x) (by omega)).2
    refine sw_new (k := 3) (n := 36) (r := 4000) O (xx_dt dd_X7_chart 3 rfl) cl_J4 nw_X7_293 (show setC σ h 4000 = none from (setC_out (by omega)).trans h0) (by omega) ?_
    rw [xx_blk_up]
    refine sw_dup O (xx_dt dd_X7_chart 4 rfl) rfl ?_
    refine sw_callIx (k := 2) (n := 20) (k' := 1) (n' := 16) (as := []) (st := [.ref 4000]) (st2 := [.ref 4000]) O (sb_init hl (h := xx_up (setC σ h) 4000 (1, 4, fun j => defaultValue (tyJ4 j))) (r := 4000) (v := 4001) (xx_up_eq _ _ _) (by omega) ((xx_up_ne (by omega)).trans (show setC σ h 4001 = none from (setC_out (by omega)).trans h1)) (by omega)) ce_J4_init_da8c8 ml_X7_295 ii_J4_init_da8c8 (xx_dt dd_X7_chart 5 rfl) (by decide) rfl rfl (Nat.le_of_ble_eq_true rfl) rfl ?_
    rw [hB_new]
    refine sw_astore_n (ls2 := [.ref 1000, .int (nI (cn x)), .ref 4000]) O (xx_dt dd_X7_chart 6 rfl) (by decide) rfl ?_
    refine sw_aload_n O (xx_dt dd_X7_chart 7 rfl) rfl ?_
    refine sw_get (v := .ref 1005) O (xx_dt dd_X7_chart 8 rfl) cl_X7 fl_X7_43 (ly_1000 σ (hB h 0 0 (fun _ => Value.int 0))) (by decide) rfl ?_
    refine sw_aload_n O (xx_dt dd_X7_chart 9 rfl) rfl ?_
    refine sw_get (v := .ref 1001) O (xx_dt dd_X7_chart 10 rfl) cl_X7 fl_X7_12 (ly_1000 σ (hB h 0 0 (fun _ => Value.int 0))) (by decide) rfl ?_
    refine sw_iload_n O (xx_dt dd_X7_chart 11 rfl) rfl ?_
    refine sw_aload_n O (xx_dt dd_X7_chart 12 rfl) rfl ?_
    refine sw_callVx (as := [.ref 1001, .int (nI (cn x)), .ref 4000]) (st := []) (st2 := []) (k := 2) (n := 20) (k' := 0) (n' := 0) O (ct_X3_draw hl (rg := cn x) (sp := sp (cn x)) (by omega) (hsp (cn x) (by omega)).1 hs5 hdg (hho (cn x) hv)) ce_X3_draw ml_X7_296 iv_X3_draw cl_X3 rfl (ly_1005 σ (hB h 0 0 (fun _ => Value.int 0))) (xx_dt dd_X7_chart 13 rfl) (by decide) rfl rfl (Nat.le_of_ble_eq_true rfl) rfl ?_
    refine sw_aload_n O (xx_dt dd_X7_chart 14 rfl) rfl ?_
    refine xx_wid (k' := 0 + 2) (n' := 0 + (2 * sp (cn x) - 1 + 4)) (by omega) (by omega) (sw_callVx (k := 0) (n := 0) (as := []) (st := []) (st2 := [.ref 4002]) O (sb_toString hl (r := 4000) (v := 4001) (t := 4002) (u := 4003) (c := 2 * sp (cn x) - 1) (b := 0) (G := (gD (σ (1141 + cn x)) (fun _ => Value.int 0) (sp (cn x)))) hB_r hB_v ((hB_o (by omega) (by omega) (by omega)).trans h2) ((hB_o (by omega) (by omega) (by omega)).trans h3) (by omega) (by omega) (by omega) (gD_int (hho (cn x) hv)) (by omega)) ce_J4_toString_0e30d ml_X7_300 iv_J4_toString_0e30d cl_J4 rfl hB_r (xx_dt dd_X7_chart 15 rfl) (by decide) rfl rfl (Nat.le_of_ble_eq_true rfl) rfl ?_)
    rw [hS_up]
    exact sw_aretD (h' := setC σ (g_chart σ h (cn x) (sp (cn x)))) O (xx_dt dd_X7_chart 16 rfl) rfl (.inl ⟨_, rfl⟩) (hS_sub h0 h1) (hS_cls hcl (fun j hj => (gD_int (hho (cn x) hv) j hj).imp fun _ e => e.1)) (by rw [hh]; exact hS_dom h2 h3) (by unfold g_chart; rw [← hS_up, xx_up_ne (by omega), xx_up_eq]; rfl) (by rw [hQ]; exact ⟨by unfold o_chart; rw [if_pos q1], rfl⟩)
  · exact sw_callVt (as := [.int x]) (st := []) (k := 3) (n := 34) (k' := 1) (n' := 6) O (ct_X7_needRegion_no hl (σ := σ) (R := R) hR (by omega) q1) ce_X7_needRegion ml_X7_87 iv_X7_needRegion cl_X7 rfl (ly_1000 σ h) (xx_dt dd_X7_chart 2 rfl) (by decide) rfl rfl (Nat.le_of_ble_eq_true rfl) (by rw [hQ]; exact ⟨by unfold o_chart; rw [if_neg q1], by rw [if_neg q1]⟩)
end
