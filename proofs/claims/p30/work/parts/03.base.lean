/-! ===== abstract heaps: cells by names; what they say of the machine's heap ===== -/
def xx_v (ρ : Nat → Nat) (v : Value) : Value := match v with
  | .ref a => .ref (ρ a)
  | .int x => .int x
  | .long x => .long x
  | .float x => .float x
  | .double x => .double x
  | .null => .null
  | .retAddr x => .retAddr x
/-- a cell: its tag, its size, its contents; tags under 100: an object of the class of that place; 100 to 199: an array; 200 to 299: a list, of the class of the place 200 less; 300: of which nothing is said -/
abbrev XC : Type := Nat × Nat × (Nat → Value)
abbrev XH : Type := Nat → Option XC
/-- the classes, their numbers and slots, the array classes by their tags, the heap that was there before, the empty array of new lists -/
abbrev XD : Type := List vw_C × va_G × (Nat → ClassId) × Heap × (Nat → Nat)
abbrev xd_cl (D : XD) : List vw_C := D.1
abbrev xd_G (D : XD) : va_G := D.2.1
abbrev xd_A (D : XD) : Nat → ClassId := D.2.2.1
abbrev xd_H (D : XD) : Heap := D.2.2.2.1
abbrev xd_E (D : XD) : Nat → Nat := D.2.2.2.2
def xx_aty (t : Nat) : FieldType := match t with
  | 100 => .int
  | 101 => .boolean
  | 102 => .byte
  | 103 => .array .int
  | 104 => .object "java/lang/Object"
  | _ => .object "java/lang/Integer"
def xx_in (h : XH) (v : Value) : Prop := match v with
  | .ref a => (h a).isSome = true
  | _ => True
def xx_up (h : XH) (r : Nat) (c : XC) : XH := fun q => if q = r then some c else h q
theorem xx_up_eq (h : XH) (r : Nat) (c : XC) : xx_up h r c r = some c := if_pos rfl
theorem xx_up_ne {h : XH} {r q : Nat} {c : XC} (e : q ≠ r) : xx_up h r c q = h q := if_neg e
theorem xx_v_cat (ρ : Nat → Nat) (v : Value) : (xx_v ρ v).category = v.category := by cases v <;> rfl
theorem xx_v_eq {ρ ρ' : Nat → Nat} {h : XH} (ha : ∀ a, (h a).isSome = true → ρ' a = ρ a) {v : Value} (hv : xx_in h v) : xx_v ρ' v = xx_v ρ v := by
  cases v with
  | ref a => exact congrArg Value.ref (ha a hv)
  | _ => rfl
theorem xx_in_up {h : XH} {r : Nat} {c : XC} {v : Value} (hv : xx_in h v) : xx_in (xx_up h r c) v := by
  cases v with
  | ref a =>
    show (xx_up h r c a).isSome = true
    unfold xx_up
    split
    · rfl
    · exact hv
  | _ => exact trivial
/-- statics that nobody writes: their class, name, type, value (a number, or what lies under a name below 1000) -/
def xx_sts : List (String × String × String × (Int32 ⊕ Nat)) := [("java/lang/String", "COMPACT_STRINGS", "Z", .inl 1), ("java/lang/Integer$IntegerCache", "high", "I", .inl 127), ("java/lang/Integer$IntegerCache", "cache", "[Ljava/lang/Integer;", .inr 1), ("java/util/ArrayList", "DEFAULTCAPACITY_EMPTY_ELEMENTDATA", "[Ljava/lang/Object;", .inr 0), ("java/lang/Integer", "DigitOnes", "[B", .inr 4)]
def xx_stv (D : XD) : Int32 ⊕ Nat → Value | .inl x => .int x | .inr r => .ref (xd_E D r)
/-- the tags of the arrays that were there before, by their names -/
def xx_ota (r : Nat) : Option Nat := if r = 0 then some 104 else if r = 1 then some 105 else if r = 11 then some 100 else if r = 4 ∨ r = 8 ∨ r = 9 ∨ r = 10 then some 102 else none
def xx_oa (D : XD) (U : State) : Prop := ∀ r t, xx_ota r = some t → ∃ cell : Cell, (xd_H D)[xd_E D r]? = some cell ∧ U.isArrayOf cell (xx_aty t)
theorem xx_oa.moved {D : XD} {u U : State} (hvm : u.vm.Alike U.vm) (h : xx_oa D u) : xx_oa D U := fun r t e => by
  obtain ⟨cell, e1, e2⟩ := h r t e
  exact ⟨cell, e1, State.isArrayOf_alike hvm e2⟩
def xx_Z (D : XD) (U : State) : Prop := (∀ q ∈ xx_sts, va_Z q.1 q.2.1 q.2.2.1 (xx_stv D q.2.2.2) (fun q => (xd_H D).size ≤ q) U (xd_H D)) ∧ va_Mi "[Ljava/lang/Object;" (xd_E D 3) U ∧ va_AO "java/lang/Object" U ∧ xx_oa D U
/-- what is known of the machine's own statics, which lie in the old heap -/
def xx_G (D : XD) (U : State) : Prop := va_AOA .int U ∧ vx_Zq Bundle.tN "UNASSIGNED_STACK" Bundle.steD (fun q => (xd_H D).size ≤ q) U (xd_H D) ∧ vx_Zq Bundle.tN "SUPPRESSED_SENTINEL" Bundle.listD (fun q => (xd_H D).size ≤ q) U (xd_H D) ∧ xx_Z D U
theorem xx_G.moved {D : XD} {u U : State} (hvm : u.vm.Alike U.vm) (h : xx_G D u) : xx_G D U := ⟨over_moved hvm h.1, h.2.1.moved hvm, h.2.2.1.moved hvm, fun q hq => (h.2.2.2.1 q hq).moved hvm, h.2.2.2.2.1.moved hvm, h.2.2.2.2.2.1.moved hvm, h.2.2.2.2.2.2.moved hvm⟩
def xx_K (D : XD) (U : State) : Prop := xd_cl D = vwCl ∧ (va_K (xd_G D) (xd_cl D) [] U ∧ xx_G D U) ∧ ∀ t, 100 ≤ t → t < 106 → ArrOfT U (xd_A D t) (xx_aty t) ∧ (t < 105 → va_RA U (xd_A D t) (xx_aty t))
theorem xx_K.moved {D : XD} {u U : State} (hvm : u.vm.Alike U.vm) (h : xx_K D u) : xx_K D U := ⟨h.1, ⟨va_K.moved hvm h.2.1.1, h.2.1.2.moved hvm⟩, fun t h1 h2 => ⟨arrOfT_moved hvm (h.2.2 t h1 h2).1, fun h3 => ((h.2.2 t h1 h2).2 h3).moved hvm⟩⟩
def xx_lst (D : XD) (ρ : Nat → Nat) (ow : Nat → Option Nat) (r ci n : Nat) (f : Nat → Value) (H : Heap) : Prop :=
  ∃ (q : vw_C) (ea cap : Nat), (xd_cl D)[ci]? = some q ∧ q.2.2 = 3 ∧ t_OB (ρ r) ((xd_G D).1 ci) 3 ((xd_G D).2 ci) H (vp_V [.int (nI n), .ref ea, .int (nI n)]) ∧
    n ≤ cap ∧ cap ≤ n + n / 2 + 10 ∧ n < 1048576 ∧ ea ≠ ρ r ∧ ((cap = 0 ∧ ea = xd_E D 0 ∧ ea < (xd_H D).size) ∨ (0 < cap ∧ ow ea = some r)) ∧
    (0 < cap → H[ea]? = some (arrV (xd_A D 104) cap (fun j => if j < n then xx_v ρ (f j) else .null)))
/-- what is new: all of it is known -/
def xx_newc (D : XD) (ρ : Nat → Nat) (ow : Nat → Option Nat) (r : Nat) (c : XC) (H : Heap) : Prop :=
  if c.1 < 100 then ∃ q : vw_C, (xd_cl D)[c.1]? = some q ∧ c.2.1 = q.2.2 ∧ t_OB (ρ r) ((xd_G D).1 c.1) q.2.2 ((xd_G D).2 c.1) H (fun k => xx_v ρ (c.2.2 k))
  else if c.1 < 200 then H[ρ r]? = some (arrV (xd_A D c.1) c.2.1 (fun k => xx_v ρ (c.2.2 k)))
  else c.1 < 300 → xx_lst D ρ ow r (c.1 - 200) c.2.1 c.2.2 H
/-- what was there before the run: what reading needs (of a text, class 0, its two first fields) -/
def xx_oldc (D : XD) (ρ : Nat → Nat) (r : Nat) (c : XC) (H : Heap) : Prop :=
  if c.1 < 100 then ∃ (q : vw_C) (cell : Cell), (xd_cl D)[c.1]? = some q ∧ c.2.1 = q.2.2 ∧ H[ρ r]? = some cell ∧ cell.cls = (xd_G D).1 c.1 ∧ (cell.vm.isStatics = false ∧ cell.vm ≠ .unknown) ∧ ∀ k, k < q.2.2 → (c.1 = 0 → k < 2) → cell.slots[(xd_G D).2 c.1 k]? = some (xx_v ρ (c.2.2 k))
  else if c.1 < 200 then xx_ota r = some c.1 ∧ ∃ cell : Cell, H[ρ r]? = some cell ∧ cell.vm ≠ .unknown ∧ c.2.1 ≤ cell.slots.size ∧ cell.slots.size.toInt32 = Int32.ofNat c.2.1 ∧ ∀ j, j < c.2.1 → cell.slots[j]? = some (xx_v ρ (c.2.2 j))
  else ¬ c.1 < 300
def xx_cell (D : XD) (ρ : Nat → Nat) (ow : Nat → Option Nat) (r : Nat) (c : XC) (H : Heap) : Prop := (r < 1000 → xx_oldc D ρ r c H) ∧ (1000 ≤ r → xx_newc D ρ ow r c H)
theorem xx_cell.mk {D : XD} {ρ : Nat → Nat} {ow : Nat → Option Nat} {r : Nat} {c : XC} {H : Heap} (h1 : 1000 ≤ r) (h : xx_newc D ρ ow r c H) : xx_cell D ρ ow r c H := ⟨fun q => absurd h1 (Nat.not_le.mpr q), fun _ => h⟩
theorem xx_oldc.ren {D : XD} {ρ ρ' : Nat → Nat} {r : Nat} {t N : Nat} {f f' : Nat → Value} {H H1 : Heap} (h : xx_oldc D ρ r (t, N, f) H) (hr : H1[ρ' r]? = H[ρ r]?) (hf : ∀ j, j < N → xx_v ρ' (f' j) = xx_v ρ (f j)) : xx_oldc D ρ' r (t, N, f') H1 := by
  unfold xx_oldc at h ⊢
  dsimp only at h ⊢
  split
  · rename_i h1
    rw [if_pos h1] at h
    obtain ⟨q, cell, e1, e2, e3, e4, e5, e6⟩ := h
    exact ⟨q, cell, e1, e2, hr.trans e3, e4, e5, fun k hk h0 => by rw [hf k (by omega)]; exact e6 k hk h0⟩
  · rename_i h1
    rw [if_neg h1] at h
    split
    · rename_i h2
      rw [if_pos h2] at h
      obtain ⟨e0, cell, e1, e2, e3, e4, e5⟩ := h
      exact ⟨e0, cell, hr.trans e1, e2, e3, e4, fun j hj => by rw [hf j hj]; exact e5 j hj⟩
    · rename_i h2
      rw [if_neg h2] at h
      exact h
theorem xx_newc.kept {D : XD} {ρ : Nat → Nat} {ow : Nat → Option Nat} {r : Nat} {c : XC} {H H1 : Heap} (h : xx_newc D ρ ow r c H) (k : ∀ a, (a = ρ r ∨ ow a = some r ∨ a < (xd_H D).size) → H1[a]? = H[a]?) : xx_newc D ρ ow r c H1 := by
  unfold xx_newc at h ⊢
  split
  · rename_i h1
    rw [if_pos h1] at h
    obtain ⟨q, e1, e2, e3⟩ := h
    exact ⟨q, e1, e2, e3.kept (k _ (Or.inl rfl))⟩
  · rename_i h1
    rw [if_neg h1] at h
    split
    · rename_i h2
      rw [if_pos h2] at h
      rw [k _ (Or.inl rfl)]
      exact h
    · rename_i h2
      rw [if_neg h2] at h
      intro h3
      obtain ⟨q, ea, cap, e1, e2, e3, e4, e5, e6, e7, e8, e9⟩ := h h3
      refine ⟨q, ea, cap, e1, e2, e3.kept (k _ (Or.inl rfl)), e4, e5, e6, e7, e8, fun h9 => ?_⟩
      rw [k ea ?_]
      · exact e9 h9
      · rcases e8 with ⟨-, -, z⟩ | ⟨-, z⟩
        · exact Or.inr (Or.inr z)
        · exact Or.inr (Or.inl z)
theorem xx_cell.kept {D : XD} {ρ : Nat → Nat} {ow : Nat → Option Nat} {r : Nat} {c : XC} {H H1 : Heap} (h : xx_cell D ρ ow r c H) (k : c.1 < 300 → ∀ a, (a = ρ r ∨ ow a = some r ∨ a < (xd_H D).size) → H1[a]? = H[a]?) : xx_cell D ρ ow r c H1 := by
  by_cases h3 : c.1 < 300
  · exact ⟨fun q => (h.1 q).ren (k h3 _ (Or.inl rfl)) (fun _ _ => rfl), fun q => (h.2 q).kept (k h3)⟩
  · refine ⟨fun q => ?_, fun q => ?_⟩
    · unfold xx_oldc
      rw [if_neg (by omega), if_neg (by omega)]
      exact h3
    · unfold xx_newc
      rw [if_neg (by omega), if_neg (by omega)]
      exact fun q2 => absurd q2 h3
theorem xx_arr_eq {cA : ClassId} {n : Nat} {f g : Nat → Value} (h : ∀ j, j < n → f j = g j) : arrV cA n f = arrV cA n g := by
  unfold arrV
  have : (Array.ofFn fun (j : Fin n) => f j.val) = Array.ofFn fun (j : Fin n) => g j.val := congrArg Array.ofFn (funext fun j => h j.val j.isLt)
  rw [this]
theorem xx_newc.ren {D : XD} {ρ ρ' : Nat → Nat} {ow ow' : Nat → Option Nat} {r r' : Nat} {t N : Nat} {f f' : Nat → Value} {H : Heap} (h : xx_newc D ρ ow r (t, N, f) H) (hr : ρ' r' = ρ r) (hw : ∀ a, ow a = some r → ow' a = some r') (hf : ∀ j, j < N → xx_v ρ' (f' j) = xx_v ρ (f j)) : xx_newc D ρ' ow' r' (t, N, f') H := by
  unfold xx_newc at h ⊢
  dsimp only at h ⊢
  split
  · rename_i h1
    rw [if_pos h1] at h
    obtain ⟨q, e1, e2, e3⟩ := h
    refine ⟨q, e1, e2, ?_⟩
    rw [hr]
    exact e3.to (fun k hk => (hf k (by omega)).symm)
  · rename_i h1
    rw [if_neg h1] at h
    split
    · rename_i h2
      rw [if_pos h2] at h
      rw [hr, h]
      exact congrArg some (xx_arr_eq fun j hj => (hf j hj).symm)
    · rename_i h2
      rw [if_neg h2] at h
      intro h3
      obtain ⟨q, ea, cap, e1, e2, e3, e4, e5, e6, e7, e8, e9⟩ := h h3
      refine ⟨q, ea, cap, e1, e2, by rw [hr]; exact e3, e4, e5, e6, by rw [hr]; exact e7, e8.imp id (fun z => ⟨z.1, hw _ z.2⟩), fun h9 => ?_⟩
      rw [e9 h9]
      refine congrArg some (xx_arr_eq fun j hj => ?_)
      split
      · rename_i h3
        exact (hf j h3).symm
      · rfl
theorem xx_cell.names {D : XD} {ρ ρ' : Nat → Nat} {ow ow' : Nat → Option Nat} {r : Nat} {c : XC} {H : Heap} (h : xx_cell D ρ ow r c H) (hr : ρ' r = ρ r) (hw : ∀ a, ow a = some r → ow' a = some r) (hf : ∀ j, j < c.2.1 → xx_v ρ' (c.2.2 j) = xx_v ρ (c.2.2 j)) : xx_cell D ρ' ow' r c H :=
  ⟨fun q => (h.1 q).ren (by rw [hr]) hf, fun q => (h.2 q).ren hr hw hf⟩
def xx_S (D : XD) (ρ : Nat → Nat) (ow : Nat → Option Nat) (h : XH) (H : Heap) : Prop :=
  (xd_H D).size ≤ H.size ∧ (∀ a, a < (xd_H D).size → H[a]? = (xd_H D)[a]?) ∧ (∀ a r, ow a = some r → (xd_H D).size ≤ a ∧ a < H.size) ∧
  (∀ r c, h r = some c → ((r < 1000 ∧ (c.1 < 300 → ρ r < (xd_H D).size) ∧ ρ r = xd_E D r) ∨ (1000 ≤ r ∧ ow (ρ r) = some r)) ∧ xx_cell D ρ ow r c H) ∧
  (∀ r c j, h r = some c → j < c.2.1 → xx_in h (c.2.2 j))
/-- one cell is written, at addresses that are its own -/
theorem xx_S.put {D : XD} {ρ : Nat → Nat} {ow : Nat → Option Nat} {h : XH} {H H1 : Heap} (S : xx_S D ρ ow h H) {r : Nat} {c c' : XC} (hr : h r = some c) (h1 : 1000 ≤ r) (z : H1.size = H.size) (o : ∀ a, ow a ≠ some r → H1[a]? = H[a]?)
    (hc : xx_cell D ρ ow r c' H1) (hin : ∀ j, j < c'.2.1 → xx_in h (c'.2.2 j)) : xx_S D ρ ow (xx_up h r c') H1 := by
  obtain ⟨s1, s2, s3, s4, s5⟩ := S
  have old : ∀ a, a < (xd_H D).size → ow a ≠ some r := fun a ha e => by have := (s3 a r e).1; omega
  refine ⟨by omega, fun a ha => by rw [o a (old a ha)]; exact s2 a ha, fun a q e => by rw [z]; exact s3 a q e, fun q d hd => ?_, fun q d j hd hj => ?_⟩
  · by_cases e : q = r
    · subst e
      rw [xx_up_eq] at hd
      cases hd
      exact ⟨Or.inr ⟨h1, (s4 q c hr).1.elim (fun z => absurd z.1 (Nat.not_lt.mpr h1)) (fun z => z.2)⟩, hc⟩
    · rw [xx_up_ne e] at hd
      obtain ⟨a1, a2⟩ := s4 q d hd
      refine ⟨a1, a2.kept fun h3 a ha => o a fun w => ?_⟩
      rcases ha with rfl | ha | ha
      · rcases a1 with ⟨-, a1, -⟩ | ⟨-, a1⟩
        · exact old _ (a1 h3) w
        · exact e (Option.some.inj (a1.symm.trans w))
      · exact e (Option.some.inj (ha.symm.trans w))
      · exact old a ha w
  · by_cases e : q = r
    · subst e
      rw [xx_up_eq] at hd
      cases hd
      exact xx_in_up (hin j hj)
    · rw [xx_up_ne e] at hd
      exact xx_in_up (s5 q d j hd hj)
/-- a cell is made, under a name that is free -/
theorem xx_S.new {D : XD} {ρ : Nat → Nat} {ow : Nat → Option Nat} {h : XH} {H H1 : Heap} (S : xx_S D ρ ow h H) {r : Nat} {c : XC} (hr : h r = none) (h1 : 1000 ≤ r) (z : H1.size = H.size + 1) (o : ∀ a, a < H.size → H1[a]? = H[a]?)
    (hc : xx_cell D (va_up ρ r H.size) (va_up ow H.size (some r)) r c H1) (hin : ∀ j, j < c.2.1 → xx_in h (c.2.2 j)) : xx_S D (va_up ρ r H.size) (va_up ow H.size (some r)) (xx_up h r c) H1 := by
  obtain ⟨s1, s2, s3, s4, s5⟩ := S
  have hρ : ∀ a, (h a).isSome = true → va_up ρ r H.size a = ρ a := fun a ha => by
    by_cases e : a = r
    · subst e
      rw [hr] at ha
      cases ha
    · simp [va_up, e]
  have how : ∀ a, a < H.size → va_up ow H.size (some r) a = ow a := fun a ha => by simp [va_up, Nat.ne_of_lt ha]
  refine ⟨by omega, fun a ha => by rw [o a (by omega)]; exact s2 a ha, fun a q e => ?_, fun q d hd => ?_, fun q d j hd hj => ?_⟩
  · by_cases e2 : a = H.size
    · omega
    · have e3 : ow a = some q := by simpa [va_up, e2] using e
      have := s3 a q e3
      omega
  · by_cases e : q = r
    · subst e
      rw [xx_up_eq] at hd
      cases hd
      exact ⟨Or.inr ⟨h1, by simp [va_up]⟩, hc⟩
    · rw [xx_up_ne e] at hd
      obtain ⟨a1, a2⟩ := s4 q d hd
      have e4 : va_up ρ r H.size q = ρ q := hρ q (by rw [hd]; rfl)
      have hlt : ∀ a, ow a = some q → a < H.size := fun a ha => (s3 a q ha).2
      refine ⟨?_, (a2.kept fun h3 a ha => o a ?_).names e4 (fun a ha => by rw [how a (hlt a ha)]; exact ha) (fun j hj => xx_v_eq hρ (s5 q d j hd hj))⟩
      · rw [e4]
        rcases a1 with a1 | ⟨a0, a1⟩
        · exact Or.inl a1
        · exact Or.inr ⟨a0, by rw [how _ (hlt _ a1)]; exact a1⟩
      · rcases ha with rfl | ha | ha
        · rcases a1 with ⟨-, a1, -⟩ | ⟨-, a1⟩
          · have a1 := a1 h3
            omega
          · exact hlt _ a1
        · exact hlt a ha
        · omega
  · by_cases e : q = r
    · subst e
      rw [xx_up_eq] at hd
      cases hd
      exact xx_in_up (hin j hj)
    · rw [xx_up_ne e] at hd
      exact xx_in_up (s5 q d j hd hj)
/-- cells are dropped -/
theorem xx_S.drop {D : XD} {ρ : Nat → Nat} {ow : Nat → Option Nat} {h h' : XH} {H : Heap} (S : xx_S D ρ ow h H) (hs : ∀ r c, h' r = some c → h r = some c) (hc : ∀ r c j, h' r = some c → j < c.2.1 → xx_in h' (c.2.2 j)) : xx_S D ρ ow h' H :=
  ⟨S.1, S.2.1, S.2.2.1, fun r c e => S.2.2.2.1 r c (hs r c e), hc⟩
