section
/-! ===== abstract heaps: cells by names; what they say of the machine's heap ===== -/
def xx_v (ρ : Nat → Nat) (v : Value) : Value := match v with
  | .ref a => .ref (ρ a)
  | .int x => .int x
  | .long x => .long x
  | .float x => .float x
  | .double x => .double x
  | .null => .null
  | .retAddr x => .retAddr x
/-- a cell: its tag, its size, its contents; tags under 100: an object of the class of that place; 100 to 199: an array; 200 to 299: a list, of the class of the place 200 less; 300: of which nothing is said -/
abbrev XC : Type := Nat × Nat × (Nat → Value)
abbrev XH : Type := Nat → Option XC
/-- the classes, their numbers and slots, the array classes by their tags, the heap that was there before, the empty array of new lists -/
abbrev XD : Type := List vw_C × va_G × (Nat → ClassId) × Heap × (Nat → Nat)
abbrev xd_cl (D : XD) : List vw_C := D.1
abbrev xd_G (D : XD) : va_G := D.2.1
abbrev xd_A (D : XD) : Nat → ClassId := D.2.2.1
abbrev xd_H (D : XD) : Heap := D.2.2.2.1
abbrev xd_E (D : XD) : Nat → Nat := D.2.2.2.2
def xx_aty (t : Nat) : FieldType := match t with
  | 100 => .int
  | 101 => .boolean
  | 102 => .byte
  | 103 => .array .int
  | 104 => .object "java/lang/Object"
  | _ => .object "java/lang/Integer"
def xx_in (h : XH) (v : Value) : Prop := match v with
  | .ref a => (h a).isSome = true
  | _ => True
def xx_up (h : XH) (r : Nat) (c : XC) : XH := fun q => if q = r then some c else h q
theorem xx_up_eq (h : XH) (r : Nat) (c : XC) : xx_up h r c r = some c := if_pos rfl
theorem xx_up_ne {h : XH} {r q : Nat} {c : XC} (e : q ≠ r) : xx_up h r c q = h q := if_neg e
theorem xx_v_cat (ρ : Nat → Nat) (v : Value) : (xx_v ρ v).category = v.category := by cases v <;> rfl
theorem xx_v_eq {ρ ρ' : Nat → Nat} {h : XH} (ha : ∀ a, (h a).isSome = true → ρ' a = ρ a) {v : Value} (hv : xx_in h v) : xx_v ρ' v = xx_v ρ v := by
  cases v with
  | ref a => exact congrArg Value.ref (ha a hv)
  | _ => rfl
theorem xx_in_up {h : XH} {r : Nat} {c : XC} {v : Value} (hv : xx_in h v) : xx_in (xx_up h r c) v := by
  cases v with
  | ref a =>
    show (xx_up h r c a).isSome = true
    unfold xx_up
    split
    · rfl
    · exact hv
  | _ => exact trivial
/-- statics that nobody writes: their class, name, type, value (a number, or what lies under a name below 1000) -/
def xx_sts : List (String × String × String × (Int32 ⊕ Nat)) := [("java/lang/String", "COMPACT_STRINGS", "Z", .inl 1), ("java/lang/Integer$IntegerCache", "high", "I", .inl 127), ("java/lang/Integer$IntegerCache", "cache", "[Ljava/lang/Integer;", .inr 1), ("java/util/ArrayList", "DEFAULTCAPACITY_EMPTY_ELEMENTDATA", "[Ljava/lang/Object;", .inr 0), ("java/lang/Integer", "DigitOnes", "[B", .inr 4)]
def xx_stv (D : XD) : Int32 ⊕ Nat → Value | .inl x => .int x | .inr r => .ref (xd_E D r)
/-- the tags of the arrays that were there before, by their names -/
def xx_ota (r : Nat) : Option Nat := if r = 0 then some 104 else if r = 1 then some 105 else if r = 11 then some 100 else if r = 4 ∨ r = 8 ∨ r = 9 ∨ r = 10 then some 102 else none
def xx_oa (D : XD) (U : State) : Prop := ∀ r t, xx_ota r = some t → ∃ cell : Cell, (xd_H D)[xd_E D r]? = some cell ∧ U.isArrayOf cell (xx_aty t)
theorem xx_oa.moved {D : XD} {u U : State} (hvm : u.vm.Alike U.vm) (h : xx_oa D u) : xx_oa D U := fun r t e => by
  obtain ⟨cell, e1, e2⟩ := h r t e
  exact ⟨cell, e1, State.isArrayOf_alike hvm e2⟩
def xx_Z (D : XD) (U : State) : Prop := (∀ q ∈ xx_sts, va_Z q.1 q.2.1 q.2.2.1 (xx_stv D q.2.2.2) (fun q => (xd_H D).size ≤ q) U (xd_H D)) ∧ va_Mi "[Ljava/lang/Object;" (xd_E D 3) U ∧ va_AO "java/lang/Object" U ∧ xx_oa D U
/-- what is known of the machine's own statics, which lie in the old heap -/
def xx_G (D : XD) (U : State) : Prop := va_AOA .int U ∧ vx_Zq Bundle.tN "UNASSIGNED_STACK" Bundle.steD (fun q => (xd_H D).size ≤ q) U (xd_H D) ∧ vx_Zq Bundle.tN "SUPPRESSED_SENTINEL" Bundle.listD (fun q => (xd_H D).size ≤ q) U (xd_H D) ∧ xx_Z D U
theorem xx_G.moved {D : XD} {u U : State} (hvm : u.vm.Alike U.vm) (h : xx_G D u) : xx_G D U := ⟨over_moved hvm h.1, h.2.1.moved hvm, h.2.2.1.moved hvm, fun q hq => (h.2.2.2.1 q hq).moved hvm, h.2.2.2.2.1.moved hvm, h.2.2.2.2.2.1.moved hvm, h.2.2.2.2.2.2.moved hvm⟩
def xx_K (D : XD) (U : State) : Prop := xd_cl D = vwCl ∧ (va_K (xd_G D) (xd_cl D) [] U ∧ xx_G D U) ∧ ∀ t, 100 ≤ t → t < 106 → ArrOfT U (xd_A D t) (xx_aty t) ∧ (t < 105 → va_RA U (xd_A D t) (xx_aty t))
theorem xx_K.moved {D : XD} {u U : State} (hvm : u.vm.Alike U.vm) (h : xx_K D u) : xx_K D U := ⟨h.1, ⟨va_K.moved hvm h.2.1.1, h.2.1.2.moved hvm⟩, fun t h1 h2 => ⟨arrOfT_moved hvm (h.2.2 t h1 h2).1, fun h3 => ((h.2.2 t h1 h2).2 h3).moved hvm⟩⟩
def xx_lst (D : XD) (ρ : Nat → Nat) (ow : Nat → Option Nat) (r ci n : Nat) (f : Nat → Value) (H : Heap) : Prop :=
  ∃ (q : vw_C) (ea cap : Nat), (xd_cl D)[ci]? = some q ∧ q.2.2 = 3 ∧ t_OB (ρ r) ((xd_G D).1 ci) 3 ((xd_G D).2 ci) H (vp_V [.int (nI n), .ref ea, .int (nI n)]) ∧
    n ≤ cap ∧ cap ≤ n + n / 2 + 10 ∧ n < 1048576 ∧ ea ≠ ρ r ∧ ((cap = 0 ∧ ea = xd_E D 0 ∧ ea < (xd_H D).size) ∨ (0 < cap ∧ ow ea = some r)) ∧
    (0 < cap → H[ea]? = some (arrV (xd_A D 104) cap (fun j => if j < n then xx_v ρ (f j) else .null)))
/-- what is new: all of it is known -/
def xx_newc (D : XD) (ρ : Nat → Nat) (ow : Nat → Option Nat) (r : Nat) (c : XC) (H : Heap) : Prop :=
  if c.1 < 100 then ∃ q : vw_C, (xd_cl D)[c.1]? = some q ∧ c.2.1 = q.2.2 ∧ t_OB (ρ r) ((xd_G D).1 c.1) q.2.2 ((xd_G D).2 c.1) H (fun k => xx_v ρ (c.2.2 k))
  else if c.1 < 200 then H[ρ r]? = some (arrV (xd_A D c.1) c.2.1 (fun k => xx_v ρ (c.2.2 k)))
  else c.1 < 300 → xx_lst D ρ ow r (c.1 - 200) c.2.1 c.2.2 H
/-- what was there before the run: what reading needs (of a text, class 0, its two first fields) -/
def xx_oldc (D : XD) (ρ : Nat → Nat) (r : Nat) (c : XC) (H : Heap) : Prop :=
  if c.1 < 100 then ∃ (q : vw_C) (cell : Cell), (xd_cl D)[c.1]? = some q ∧ c.2.1 = q.2.2 ∧ H[ρ r]? = some cell ∧ cell.cls = (xd_G D).1 c.1 ∧ (cell.vm.isStatics = false ∧ cell.vm ≠ .unknown) ∧ ∀ k, k < q.2.2 → (c.1 = 0 → k < 2) → cell.slots[(xd_G D).2 c.1 k]? = some (xx_v ρ (c.2.2 k))
  else if c.1 < 200 then xx_ota r = some c.1 ∧ ∃ cell : Cell, H[ρ r]? = some cell ∧ cell.vm ≠ .unknown ∧ c.2.1 ≤ cell.slots.size ∧ cell.slots.size.toInt32 = Int32.ofNat c.2.1 ∧ ∀ j, j < c.2.1 → cell.slots[j]? = some (xx_v ρ (c.2.2 j))
  else ¬ c.1 < 300
def xx_cell (D : XD) (ρ : Nat → Nat) (ow : Nat → Option Nat) (r : Nat) (c : XC) (H : Heap) : Prop := (r < 1000 → xx_oldc D ρ r c H) ∧ (1000 ≤ r → xx_newc D ρ ow r c H)
theorem xx_cell.mk {D : XD} {ρ : Nat → Nat} {ow : Nat → Option Nat} {r : Nat} {c : XC} {H : Heap} (h1 : 1000 ≤ r) (h : xx_newc D ρ ow r c H) : xx_cell D ρ ow r c H := ⟨fun q => absurd h1 (Nat.not_le.mpr q), fun _ => h⟩
theorem xx_oldc.ren {D : XD} {ρ ρ' : Nat → Nat} {r : Nat} {t N : Nat} {f f' : Nat → Value} {H H1 : Heap} (h : xx_oldc D ρ r (t, N, f) H) (hr : H1[ρ' r]? = H[ρ r]?) (hf : ∀ j, j < N → xx_v ρ' (f' j) = xx_v ρ (f j)) : xx_oldc D ρ' r (t, N, f') H1 := by
  unfold xx_oldc at h ⊢
  dsimp only at h ⊢
  split
  · rename_i h1
    rw [if_pos h1] at h
    obtain ⟨q, cell, e1, e2, e3, e4, e5, e6⟩ := h
    exact ⟨q, cell, e1, e2, hr.trans e3, e4, e5, fun k hk h0 => by rw [hf k (by omega)]; exact e6 k hk h0⟩
  · rename_i h1
    rw [if_neg h1] at h
    split
    · rename_i h2
      rw [if_pos h2] at h
      obtain ⟨e0, cell, e1, e2, e3, e4, e5⟩ := h
      exact ⟨e0, cell, hr.trans e1, e2, e3, e4, fun j hj => by rw [hf j hj]; exact e5 j hj⟩
    · rename_i h2
      rw [if_neg h2] at h
      exact h
theorem xx_newc.kept {D : XD} {ρ : Nat → Nat} {ow : Nat → Option Nat} {r : Nat} {c : XC} {H H1 : Heap} (h : xx_newc D ρ ow r c H) (k : ∀ a, (a = ρ r ∨ ow a = some r ∨ a < (xd_H D).size) → H1[a]? = H[a]?) : xx_newc D ρ ow r c H1 := by
  unfold xx_newc at h ⊢
  split
  · rename_i h1
    rw [if_pos h1] at h
    obtain ⟨q, e1, e2, e3⟩ := h
    exact ⟨q, e1, e2, e3.kept (k _ (Or.inl rfl))⟩
  · rename_i h1
    rw [if_neg h1] at h
    split
    · rename_i h2
      rw [if_pos h2] at h
      rw [k _ (Or.inl rfl)]
      exact h
    · rename_i h2
      rw [if_neg h2] at h
      intro h3
      obtain ⟨q, ea, cap, e1, e2, e3, e4, e5, e6, e7, e8, e9⟩ := h h3
      refine ⟨q, ea, cap, e1, e2, e3.kept (k _ (Or.inl rfl)), e4, e5, e6, e7, e8, fun h9 => ?_⟩
      rw [k ea ?_]
      · exact e9 h9
      · rcases e8 with ⟨-, -, z⟩ | ⟨-, z⟩
        · exact Or.inr (Or.inr z)
        · exact Or.inr (Or.inl z)
theorem xx_cell.kept {D : XD} {ρ : Nat → Nat} {ow : Nat → Option Nat} {r : Nat} {c : XC} {H H1 : Heap} (h : xx_cell D ρ ow r c H) (k : c.1 < 300 → ∀ a, (a = ρ r ∨ ow a = some r ∨ a < (xd_H D).size) → H1[a]? = H[a]?) : xx_cell D ρ ow r c H1 := by
  by_cases h3 : c.1 < 300
  · exact ⟨fun q => (h.1 q).ren (k h3 _ (Or.inl rfl)) (fun _ _ => rfl), fun q => (h.2 q).kept (k h3)⟩
  · refine ⟨fun q => ?_, fun q => ?_⟩
    · unfold xx_oldc
      rw [if_neg (by omega), if_neg (by omega)]
      exact h3
    · unfold xx_newc
      rw [if_neg (by omega), if_neg (by omega)]
      exact fun q2 => absurd q2 h3
theorem xx_arr_eq {cA : ClassId} {n : Nat} {f g : Nat → Value} (h : ∀ j, j < n → f j = g j) : arrV cA n f = arrV cA n g := by
  unfold arrV
  have : (Array.ofFn fun (j : Fin n) => f j.val) = Array.ofFn fun (j : Fin n) => g j.val := congrArg Array.ofFn (funext fun j => h j.val j.isLt)
  rw [this]
theorem xx_newc.ren {D : XD} {ρ ρ' : Nat → Nat} {ow ow' : Nat → Option Nat} {r r' : Nat} {t N : Nat} {f f' : Nat → Value} {H : Heap} (h : xx_newc D ρ ow r (t, N, f) H) (hr : ρ' r' = ρ r) (hw : ∀ a, ow a = some r → ow' a = some r') (hf : ∀ j, j < N → xx_v ρ' (f' j) = xx_v ρ (f j)) : xx_newc D ρ' ow' r' (t, N, f') H := by
  unfold xx_newc at h ⊢
  dsimp only at h ⊢
  split
  · rename_i h1
    rw [if_pos h1] at h
    obtain ⟨q, e1, e2, e3⟩ := h
    refine ⟨q, e1, e2, ?_⟩
    rw [hr]
    exact e3.to (fun k hk => (hf k (by omega)).symm)
  · rename_i h1
    rw [if_neg h1] at h
    split
    · rename_i h2
      rw [if_pos h2] at h
      rw [hr, h]
      exact congrArg some (xx_arr_eq fun j hj => (hf j hj).symm)
    · rename_i h2
      rw [if_neg h2] at h
      intro h3
      obtain ⟨q, ea, cap, e1, e2, e3, e4, e5, e6, e7, e8, e9⟩ := h h3
      refine ⟨q, ea, cap, e1, e2, by rw [hr]; exact e3, e4, e5, e6, by rw [hr]; exact e7, e8.imp id (fun z => ⟨z.1, hw _ z.2⟩), fun h9 => ?_⟩
      rw [e9 h9]
      refine congrArg some (xx_arr_eq fun j hj => ?_)
      split
      · rename_i h3
        exact (hf j h3).symm
      · rfl
theorem xx_cell.names {D : XD} {ρ ρ' : Nat → Nat} {ow ow' : Nat → Option Nat} {r : Nat} {c : XC} {H : Heap} (h : xx_cell D ρ ow r c H) (hr : ρ' r = ρ r) (hw : ∀ a, ow a = some r → ow' a = some r) (hf : ∀ j, j < c.2.1 → xx_v ρ' (c.2.2 j) = xx_v ρ (c.2.2 j)) : xx_cell D ρ' ow' r c H :=
  ⟨fun q => (h.1 q).ren (by rw [hr]) hf, fun q => (h.2 q).ren hr hw hf⟩
def xx_S (D : XD) (ρ : Nat → Nat) (ow : Nat → Option Nat) (h : XH) (H : Heap) : Prop :=
  (xd_H D).size ≤ H.size ∧ (∀ a, a < (xd_H D).size → H[a]? = (xd_H D)[a]?) ∧ (∀ a r, ow a = some r → (xd_H D).size ≤ a ∧ a < H.size) ∧
  (∀ r c, h r = some c → ((r < 1000 ∧ (c.1 < 300 → ρ r < (xd_H D).size) ∧ ρ r = xd_E D r) ∨ (1000 ≤ r ∧ ow (ρ r) = some r)) ∧ xx_cell D ρ ow r c H) ∧
  (∀ r c j, h r = some c → j < c.2.1 → xx_in h (c.2.2 j))
/-- one cell is written, at addresses that are its own -/
theorem xx_S.put {D : XD} {ρ : Nat → Nat} {ow : Nat → Option Nat} {h : XH} {H H1 : Heap} (S : xx_S D ρ ow h H) {r : Nat} {c c' : XC} (hr : h r = some c) (h1 : 1000 ≤ r) (z : H1.size = H.size) (o : ∀ a, ow a ≠ some r → H1[a]? = H[a]?)
    (hc : xx_cell D ρ ow r c' H1) (hin : ∀ j, j < c'.2.1 → xx_in h (c'.2.2 j)) : xx_S D ρ ow (xx_up h r c') H1 := by
  obtain ⟨s1, s2, s3, s4, s5⟩ := S
  have old : ∀ a, a < (xd_H D).size → ow a ≠ some r := fun a ha e => by have := (s3 a r e).1; omega
  refine ⟨by omega, fun a ha => by rw [o a (old a ha)]; exact s2 a ha, fun a q e => by rw [z]; exact s3 a q e, fun q d hd => ?_, fun q d j hd hj => ?_⟩
  · by_cases e : q = r
    · subst e
      rw [xx_up_eq] at hd
      cases hd
      exact ⟨Or.inr ⟨h1, (s4 q c hr).1.elim (fun z => absurd z.1 (Nat.not_lt.mpr h1)) (fun z => z.2)⟩, hc⟩
    · rw [xx_up_ne e] at hd
      obtain ⟨a1, a2⟩ := s4 q d hd
      refine ⟨a1, a2.kept fun h3 a ha => o a fun w => ?_⟩
      rcases ha with rfl | ha | ha
      · rcases a1 with ⟨-, a1, -⟩ | ⟨-, a1⟩
        · exact old _ (a1 h3) w
        · exact e (Option.some.inj (a1.symm.trans w))
      · exact e (Option.some.inj (ha.symm.trans w))
      · exact old a ha w
  · by_cases e : q = r
    · subst e
      rw [xx_up_eq] at hd
      cases hd
      exact xx_in_up (hin j hj)
    · rw [xx_up_ne e] at hd
      exact xx_in_up (s5 q d j hd hj)
/-- a cell is made, under a name that is free -/
theorem xx_S.new {D : XD} {ρ : Nat → Nat} {ow : Nat → Option Nat} {h : XH} {H H1 : Heap} (S : xx_S D ρ ow h H) {r : Nat} {c : XC} (hr : h r = none) (h1 : 1000 ≤ r) (z : H1.size = H.size + 1) (o : ∀ a, a < H.size → H1[a]? = H[a]?)
    (hc : xx_cell D (va_up ρ r H.size) (va_up ow H.size (some r)) r c H1) (hin : ∀ j, j < c.2.1 → xx_in h (c.2.2 j)) : xx_S D (va_up ρ r H.size) (va_up ow H.size (some r)) (xx_up h r c) H1 := by
  obtain ⟨s1, s2, s3, s4, s5⟩ := S
  have hρ : ∀ a, (h a).isSome = true → va_up ρ r H.size a = ρ a := fun a ha => by
    by_cases e : a = r
    · subst e
      rw [hr] at ha
      cases ha
    · simp [va_up, e]
  have how : ∀ a, a < H.size → va_up ow H.size (some r) a = ow a := fun a ha => by simp [va_up, Nat.ne_of_lt ha]
  refine ⟨by omega, fun a ha => by rw [o a (by omega)]; exact s2 a ha, fun a q e => ?_, fun q d hd => ?_, fun q d j hd hj => ?_⟩
  · by_cases e2 : a = H.size
    · omega
    · have e3 : ow a = some q := by simpa [va_up, e2] using e
      have := s3 a q e3
      omega
  · by_cases e : q = r
    · subst e
      rw [xx_up_eq] at hd
      cases hd
      exact ⟨Or.inr ⟨h1, by simp [va_up]⟩, hc⟩
    · rw [xx_up_ne e] at hd
      obtain ⟨a1, a2⟩ := s4 q d hd
      have e4 : va_up ρ r H.size q = ρ q := hρ q (by rw [hd]; rfl)
      have hlt : ∀ a, ow a = some q → a < H.size := fun a ha => (s3 a q ha).2
      refine ⟨?_, (a2.kept fun h3 a ha => o a ?_).names e4 (fun a ha => by rw [how a (hlt a ha)]; exact ha) (fun j hj => xx_v_eq hρ (s5 q d j hd hj))⟩
      · rw [e4]
        rcases a1 with a1 | ⟨a0, a1⟩
        · exact Or.inl a1
        · exact Or.inr ⟨a0, by rw [how _ (hlt _ a1)]; exact a1⟩
      · rcases ha with rfl | ha | ha
        · rcases a1 with ⟨-, a1, -⟩ | ⟨-, a1⟩
          · have a1 := a1 h3
            omega
          · exact hlt _ a1
        · exact hlt a ha
        · omega
  · by_cases e : q = r
    · subst e
      rw [xx_up_eq] at hd
      cases hd
      exact xx_in_up (hin j hj)
    · rw [xx_up_ne e] at hd
      exact xx_in_up (s5 q d j hd hj)
/-- cells are dropped -/
theorem xx_S.drop {D : XD} {ρ : Nat → Nat} {ow : Nat → Option Nat} {h h' : XH} {H : Heap} (S : xx_S D ρ ow h H) (hs : ∀ r c, h' r = some c → h r = some c) (hc : ∀ r c j, h' r = some c → j < c.2.1 → xx_in h' (c.2.2 j)) : xx_S D ρ ow h' H :=
  ⟨S.1, S.2.1, S.2.2.1, fun r c e => S.2.2.2.1 r c (hs r c e), hc⟩
end
section
/-! ===== a method under way over an abstract heap ===== -/
def xx_good (w : Cond) : Bool := goodWord w
def xx_gws : List Cond := lw_tbl.filter goodWord
def xx_nest (w : Cond) : Bool := match w with
  | .fieldLinkNest .. => true
  | .methodLinkNest .. => true
  | .declares _ => true
  | .castable _ _ => true
  | .privateMethod _ => true
  | .publicMethod _ => true
  | .unhidden .. => true
  | .interfaceMethod r o _ _ => r == o && r != "java/lang/invoke/MethodHandle" && r != "java/lang/invoke/VarHandle"
  | _ => false
def xx_nws : List Cond := tables_1.filter xx_nest
def xx_strs : List (String × Nat × String) := tables_1.filterMap fun w => match w with
  | .stringRef own k tx => some (own, k, tx)
  | _ => none
/-- texts that the reference puts together: their place, and the name that their cell has -/
def xx_lits : List (String × Nat × String × Nat) := [("WavesaleModel", 335, ",", 5), ("WavesaleModel", 337, "", 6), ("WavesaleModel", 343, "-", 7)]
/-- what a handler's row lets by -/
def xx_ncs : List (String × String) := [("java/lang/IllegalArgumentException", "java/lang/IndexOutOfBoundsException"), ("java/lang/IllegalStateException", "java/lang/IndexOutOfBoundsException"), ("java/lang/IllegalStateException", "java/lang/IllegalArgumentException")]
def xx_N (D : XD) (U : State) : Prop := (∀ w ∈ xx_nws, va_Nw w U) ∧ (∀ q ∈ xx_strs, ∃ a, vk_R q.1 q.2.1 q.2.2 a U) ∧ (∀ q ∈ xx_lits, vk_R q.1 q.2.1 q.2.2.1 (xd_E D q.2.2.2) U) ∧ ∀ q ∈ xx_ncs, va_Nc q.1 q.2 U
theorem xx_N.warm {D : XD} {s U : State} (hW : s.WarmedH U.vm) (h : xx_N D s) : xx_N D U := by
  refine ⟨fun w hw => ?_, fun q hq => (h.2.1 q hq).imp fun a ha => ha.warm hW, fun q hq => (h.2.2.1 q hq).warm hW, fun q hq => (h.2.2.2 q hq).moved hW.alike⟩
  have h1 := h.1 w hw
  have h2 : xx_nest w = true := (List.mem_filter.mp hw).2
  cases w <;> first | (cases h2; done) | exact va_Nw.warmF hW h1 | exact va_Nw.warmM hW h1 | exact va_Nw.warmD hW h1 | exact va_Nw.warmC hW h1 | exact va_tabs rfl (rfl : (s.setVm U.vm).vm = U.vm) (Cond.faceAtom_setVm hW.alike _ h2 h1) | (exact absurd h2 (by simp [xx_nest]))
theorem xx_N.same {D : XD} {s U : State} (e : s.vm = U.vm) (h : xx_N D s) : xx_N D U := by
  refine ⟨fun w hw => ?_, fun q hq => (h.2.1 q hq).imp fun a ha => ha.same e.symm, fun q hq => (h.2.2.1 q hq).same e.symm, fun q hq => (h.2.2.2 q hq).moved (by rw [← e]; exact Vm.Alike.refl _)⟩
  have h1 := h.1 w hw
  have h2 : xx_nest w = true := (List.mem_filter.mp hw).2
  cases w <;> first | (cases h2; done) | exact va_Nw.same rfl e h1 | (exact absurd h2 (by simp [xx_nest]))
theorem xx_N.use {D : XD} {s : State} {args : Array Value} (h : xx_N D s) {w : Cond} (hw : w ∈ xx_nws) : w.before args s = true := by
  have h1 := h.1 w hw
  have h2 : xx_nest w = true := (List.mem_filter.mp hw).2
  cases w <;> first | (cases h2; done) | exact va_Nw.use rfl h1 | (exact absurd h2 (by simp [xx_nest]))
/-- the place of a local that holds nothing to be read -/
abbrev xx_d : Value := .retAddr 0
def xx_lay : List Value → List Value
  | [] => []
  | v :: vs => if v.category = 2 then v :: xx_d :: xx_lay vs else v :: xx_lay vs
def xx_ls (as : List Value) (n : Nat) : List Value := xx_lay as ++ List.replicate (n - (xx_lay as).length) xx_d
def xx_isL (ls : List Value) (i : Nat) : Bool := match ls[i]? with
  | some (.long _) => true
  | some (.double _) => true
  | _ => false
def xx_clr (ls : List Value) (i : Nat) : List Value := match i with
  | 0 => ls
  | j + 1 => if xx_isL ls j then ls.set j xx_d else ls
def xx_set (ls : List Value) (i : Nat) (v : Value) : List Value := (xx_clr ls i).set i v
def xx_set2 (ls : List Value) (i : Nat) (v : Value) : List Value := ((xx_clr ls i).set i v).set (i + 1) xx_d
def xx_L (ρ : Nat → Nat) (nL : Nat) (ls : List Value) (lsA : Array Slot) : Prop := lsA.size = nL ∧ lv_wf lsA ∧ ∀ (i : Nat) (v : Value), ls[i]? = some v → v ≠ xx_d → lsA[i]? = some (Slot.val (xx_v ρ v))
def xx_pr (ρ : Nat → Nat) (ls : List Value) : List (Nat × Value) := (List.range ls.length).filterMap fun i => match ls[i]? with
  | some v => if v = xx_d then none else some (i, xx_v ρ v)
  | none => none
theorem xx_pr_in {ρ : Nat → Nat} {ls : List Value} {i : Nat} {v : Value} (h : ls[i]? = some v) (hv : v ≠ xx_d) : (i, xx_v ρ v) ∈ xx_pr ρ ls := by
  refine List.mem_filterMap.mpr ⟨i, List.mem_range.mpr (List.getElem?_eq_some_iff.mp h).1, ?_⟩
  simp only [h]
  rw [if_neg hv]
theorem xx_L.has {ρ : Nat → Nat} {nL : Nat} {ls : List Value} {lsA : Array Slot} (h : xx_L ρ nL ls lsA) : lv_has lsA nL (xx_pr ρ ls) := by
  refine ⟨h.1, h.2.1, fun q hq => ?_⟩
  obtain ⟨i, -, hi⟩ := List.mem_filterMap.mp hq
  cases e : ls[i]? with
  | none => rw [e] at hi; cases hi
  | some v =>
    rw [e] at hi
    by_cases hv : v = xx_d
    · simp [hv] at hi
    · simp only [hv, if_false, Option.some.injEq] at hi
      subst hi
      exact h.2.2 i v e hv
theorem xx_clr_get {ls : List Value} {i j : Nat} {w : Value} (h : (xx_clr ls i)[j]? = some w) (hw : w ≠ xx_d) : ls[j]? = some w ∧ ¬ (j + 1 = i ∧ w.category = 2) := by
  cases i with
  | zero => exact ⟨h, fun e => by omega⟩
  | succ i =>
    have h7 : (if xx_isL ls i = true then ls.set i xx_d else ls)[j]? = some w := h
    by_cases hl : xx_isL ls i = true
    · rw [if_pos hl, List.getElem?_set] at h7
      by_cases e : i = j
      · subst e
        simp only [if_true] at h7
        split at h7
        · exact absurd (Option.some.inj h7).symm hw
        · cases h7
      · rw [if_neg e] at h7
        exact ⟨h7, fun q => by omega⟩
    · rw [if_neg hl] at h7
      refine ⟨h7, fun ⟨e, c⟩ => ?_⟩
      obtain rfl : j = i := by omega
      apply hl
      unfold xx_isL
      rw [h7]
      cases w <;> first | rfl | (simp [Value.category] at c)
theorem xx_L.store1 {ρ : Nat → Nat} {nL : Nat} {ls : List Value} {lsA : Array Slot} {i : Nat} {v V : Value} (hV : V = xx_v ρ v)
    (hl : lv_has lsA nL ((i, V) :: (xx_pr ρ ls).filter (fun q => !(q.1 == i) && !(q.1 + 1 == i && q.2.category == 2)))) : xx_L ρ nL (xx_set ls i v) lsA := by
  refine ⟨hl.1, hl.2.1, fun j w hj hw => ?_⟩
  unfold xx_set at hj
  rw [List.getElem?_set] at hj
  by_cases e : i = j
  · subst e
    simp only [if_true] at hj
    split at hj
    · cases hj
      rw [← hV]
      exact hl.2.2 (i, V) List.mem_cons_self
    · cases hj
  · rw [if_neg e] at hj
    obtain ⟨h1, h2⟩ := xx_clr_get hj hw
    refine hl.2.2 (j, xx_v ρ w) (List.mem_cons_of_mem _ (List.mem_filter.mpr ⟨xx_pr_in h1 hw, ?_⟩))
    have e1 : (j == i) = false := by simp; exact fun q => e q.symm
    simp only [e1, Bool.not_false, Bool.true_and, Bool.not_eq_true', Bool.and_eq_false_iff, beq_eq_false_iff_ne, ne_eq]
    by_cases q : j + 1 = i
    · right
      intro c
      rw [xx_v_cat] at c
      exact h2 ⟨q, c⟩
    · left
      exact q
theorem xx_L.store2 {ρ : Nat → Nat} {nL : Nat} {ls : List Value} {lsA : Array Slot} {i : Nat} {v V : Value} (hV : V = xx_v ρ v)
    (hl : lv_has lsA nL ((i, V) :: (xx_pr ρ ls).filter (fun q => !(q.1 == i) && (!(q.1 == i + 1) && !(q.1 + 1 == i && q.2.category == 2))))) : xx_L ρ nL (xx_set2 ls i v) lsA := by
  refine ⟨hl.1, hl.2.1, fun j w hj hw => ?_⟩
  unfold xx_set2 at hj
  rw [List.getElem?_set] at hj
  by_cases e2 : i + 1 = j
  · subst e2
    simp only [if_true] at hj
    split at hj
    · exact absurd (Option.some.inj hj).symm hw
    · cases hj
  · rw [if_neg e2, List.getElem?_set] at hj
    by_cases e : i = j
    · subst e
      simp only [if_true] at hj
      split at hj
      · cases hj
        rw [← hV]
        exact hl.2.2 (i, V) List.mem_cons_self
      · cases hj
    · rw [if_neg e] at hj
      obtain ⟨h1, h2⟩ := xx_clr_get hj hw
      refine hl.2.2 (j, xx_v ρ w) (List.mem_cons_of_mem _ (List.mem_filter.mpr ⟨xx_pr_in h1 hw, ?_⟩))
      have e1 : (j == i) = false := by simp; exact fun q => e q.symm
      have e3 : (j == i + 1) = false := by simp; exact fun q => e2 q.symm
      simp only [e1, e3, Bool.not_false, Bool.true_and, Bool.not_eq_true', Bool.and_eq_false_iff, beq_eq_false_iff_ne, ne_eq]
      by_cases q : j + 1 = i
      · right
        intro c
        rw [xx_v_cat] at c
        exact h2 ⟨q, c⟩
      · left
        exact q
theorem xx_lay_args {ρ : Nat → Nat} : ∀ (as : List Value) (b i : Nat) (v : Value), (xx_lay as)[i]? = some v → v ≠ xx_d → (b + i, xx_v ρ v) ∈ lv_args b (as.map (xx_v ρ))
  | [], _, _, _, h, _ => by simp [xx_lay] at h
  | w :: ws, b, i, v, h, hv => by
    unfold xx_lay at h
    show (b + i, xx_v ρ v) ∈ (b, xx_v ρ w) :: lv_args (if (xx_v ρ w).category = 2 then b + 2 else b + 1) (ws.map (xx_v ρ))
    rw [xx_v_cat]
    by_cases c : w.category = 2
    · rw [if_pos c] at h ⊢
      cases i with
      | zero => simp at h; subst h; exact List.mem_cons_self
      | succ i =>
        cases i with
        | zero => simp at h; exact absurd h.symm hv
        | succ i =>
          simp at h
          have := xx_lay_args (ρ := ρ) ws (b + 2) i v h hv
          rw [show b + 2 + i = b + (i + 1 + 1) by omega] at this
          exact List.mem_cons_of_mem _ this
    · rw [if_neg c] at h ⊢
      cases i with
      | zero => simp at h; subst h; exact List.mem_cons_self
      | succ i =>
        simp at h
        have := xx_lay_args (ρ := ρ) ws (b + 1) i v h hv
        rw [show b + 1 + i = b + (i + 1) by omega] at this
        exact List.mem_cons_of_mem _ this
theorem xx_L.entry {ρ : Nat → Nat} {n : Nat} {as : List Value} {lsA : Array Slot} (h : lv_has lsA n (lv_args 0 (as.map (xx_v ρ)))) : xx_L ρ n (xx_ls as n) lsA := by
  refine ⟨h.1, h.2.1, fun i v hi hv => ?_⟩
  unfold xx_ls at hi
  rw [List.getElem?_append] at hi
  split at hi
  · have := xx_lay_args (ρ := ρ) as 0 i v hi hv
    rw [Nat.zero_add] at this
    exact h.2.2 _ this
  · rw [List.getElem?_replicate] at hi
    split at hi
    · exact absurd (Option.some.inj hi).symm hv
    · cases hi
abbrev XT : Type := Program × Launch × Env × Room × State × MethodId × Array Value × List Frame × Method × Code
/-- how a method ends: it returns, or throws an exception of that class -/
abbrev XO : Type := Option Value ⊕ String
/-- a method under way: the machine's own; the classes; names and heap at its start; what is owed at its end -/
abbrev XY : Type := XT × XD × (Nat → Nat) × XH × (XO → XH → Prop)
/-- a method: its name, its bytes, how many locals, what it returns, its class, how many arguments (without the receiver) -/
abbrev XM : Type := MethodName × ByteArray × Nat × Option FieldType × String × Nat
abbrev xt_p (X : XT) : Program := X.1
abbrev xt_l (X : XT) : Launch := X.2.1
abbrev xt_e (X : XT) : Env := X.2.2.1
abbrev xt_R (X : XT) : Room := X.2.2.2.1
abbrev xt_s (X : XT) : State := X.2.2.2.2.1
abbrev xt_m (X : XT) : MethodId := X.2.2.2.2.2.1
abbrev xt_a (X : XT) : Array Value := X.2.2.2.2.2.2.1
abbrev xt_b (X : XT) : List Frame := X.2.2.2.2.2.2.2.1
abbrev xt_h (X : XT) : Method := X.2.2.2.2.2.2.2.2.1
abbrev xt_c (X : XT) : Code := X.2.2.2.2.2.2.2.2.2
abbrev xy_D (Y : XY) : XD := Y.2.1
abbrev xy_ρ (Y : XY) : Nat → Nat := Y.2.2.1
abbrev xy_h (Y : XY) : XH := Y.2.2.2.1
abbrev xy_Q (Y : XY) : XO → XH → Prop := Y.2.2.2.2
def xx_Ag (h0 : XH) (ρ0 : Nat → Nat) (h : XH) (ρ : Nat → Nat) : Prop := ∀ r, (h0 r).isSome = true → (h r).isSome = true ∧ ρ r = ρ0 r
def xx_Qc (D : XD) (ρ0 : Nat → Nat) (h0 : XH) (Q : XO → XH → Prop) : Array Value → State → Outcome → State → Prop := fun _ _ o t =>
  ∃ (v : Option Value) (h' : XH) (ρ' : Nat → Nat) (ow' : Nat → Option Nat), o = .returned (v.map (xx_v ρ')) ∧ Q (.inl v) h' ∧ xx_S D ρ' ow' h' t.heap ∧ xx_Ag h0 ρ0 h' ρ' ∧ ∀ w, v = some w → xx_in h' w
def xx_Xc (D : XD) (ρ0 : Nat → Nat) (h0 : XH) (Q : XO → XH → Prop) : String → State → State → Prop := fun E _ t =>
  ∃ (h' : XH) (ρ' : Nat → Nat) (ow' : Nat → Option Nat), Q (.inr E) h' ∧ xx_S D ρ' ow' h' t.heap ∧ xx_Ag h0 ρ0 h' ρ'
def xx_Pc (D : XD) (ρ : Nat → Nat) (ow : Nat → Option Nat) (h : XH) (as : List Value) : Array Value → State → Prop := fun args U =>
  args = (as.map (xx_v ρ)).toArray ∧ xx_K D U ∧ xx_N D U ∧ xx_S D ρ ow h U.heap ∧ ∀ v ∈ as, xx_in h v
def xx_ws (M : XM) : List Cond := Cond.code M.1 M.2.1 M.2.2.1 M.2.2.2.1 :: xx_gws
def xx_rm (d k n : Nat) : Room := { frames := d, cells := k, slots := n, locals := 40 * d }
abbrev xx_fr (D : XD) : Addr → Prop := fun q => (xd_H D).size ≤ q
/-- a method's contract: called with these arguments over this heap it ends as Q says; it needs d frames, makes at most k cells of n slots -/
def XMet (l : Launch) (M : XM) (d k n : Nat) (as : List Value) (h : XH) (Q : XO → XH → Prop) : Prop :=
  ∀ (D : XD) (ρ : Nat → Nat) (ow : Nat → Option Nat), vx_Met l M.1 (xx_ws M) (xx_rm d k n) (xx_Pc D ρ ow h as) (xx_Qc D ρ h Q) (xx_Xc D ρ h Q) k n (xx_fr D)
def xx_Q (Y : XY) : State → Prop := vx_MQ (xt_b Y.1) (xx_Qc (xy_D Y) (xy_ρ Y) (xy_h Y) (xy_Q Y)) (xx_Xc (xy_D Y) (xy_ρ Y) (xy_h Y) (xy_Q Y)) (xt_a Y.1) (xt_s Y.1) (xt_R Y.1).cells (xt_R Y.1).slots (xx_fr (xy_D Y))
abbrev xx_W (Y : XY) (H : Heap) (locs : List Loc) (cells slots : Nat) (g : JFrame) : Prop := W (xt_p Y.1) (xt_l Y.1) (xt_e Y.1) (xt_R Y.1) (xt_s Y.1) (xt_m Y.1) (xt_a Y.1) (xt_b Y.1) (xt_h Y.1) (xt_c Y.1) H locs cells slots (xx_Q Y) g
/-- the abstract heap, locals and stack are what the machine's are -/
def xx_R (Y : XY) (k n : Nat) (h : XH) (ls st : List Value) (ρ : Nat → Nat) (ow : Nat → Option Nat) (H : Heap) (locs : List Loc) (cells slots : Nat) (lsA : Array Slot) : Prop :=
  xx_S (xy_D Y) ρ ow h H ∧ xx_Ag (xy_h Y) (xy_ρ Y) h ρ ∧ (∀ z ∈ locs, (xd_H (xy_D Y)).size ≤ z.base) ∧ cells + k ≤ (xt_R Y.1).cells ∧ slots + n ≤ (xt_R Y.1).slots ∧ xx_L ρ (xt_c Y.1).maxLocals ls lsA ∧ (∀ v ∈ ls, xx_in h v) ∧ ∀ v ∈ st, xx_in h v
/-- from here, with k cells and n slots left, the method comes to its end -/
def SW (Y : XY) (k n : Nat) (h : XH) (pc : Nat) (ls st : List Value) : Prop :=
  ∀ ρ ow H locs cells slots lsA, xx_R Y k n h ls st ρ ow H locs cells slots lsA → xx_W Y H locs cells slots (F0 (xt_m Y.1) pc lsA (st.map (xx_v ρ)))
/-- what holds of a method under way at all times -/
def xx_O (Y : XY) (M : XM) (l : Launch) (d : Nat) : Prop :=
  (xt_p Y.1).tables.exec = Jvm.exec ∧ (xt_c Y.1).code = M.2.1 ∧ (xt_c Y.1).maxLocals = M.2.2.1 ∧ (xt_h Y.1).sig.returnType = M.2.2.2.1 ∧ (xt_h Y.1).locks = false ∧ (∀ w ∈ xx_gws, w.before (xt_a Y.1) (xt_s Y.1) = true) ∧
  (xt_s Y.1).vm.findClass M.2.2.2.2.1 = some (xt_m Y.1).cls ∧ xx_K (xy_D Y) (xt_s Y.1) ∧ xx_N (xy_D Y) (xt_s Y.1) ∧ l.stackTraces = false ∧ (xt_h Y.1).name = M.1.name ∧ xt_l Y.1 = l ∧ d ≤ (xt_R Y.1).frames ∧ 40 * d ≤ (xt_R Y.1).locals ∧ (∀ E h9, xy_Q Y (.inr E) h9 → ∀ x ∈ (xt_c Y.1).exceptionTable.toList, False) ∧ ∀ a, a < (xd_H (xy_D Y)).size → (xt_s Y.1).heap[a]? = (xd_H (xy_D Y))[a]?
theorem XMet.of {l : Launch} {M : XM} {d k n : Nat} {as : List Value} {h : XH} {Q : XO → XH → Prop} (hl : l.stackTraces = false) (hy : plainName M.1.cls = true) (hown : M.1.cls = M.2.2.2.2.1) (hlen : (lg_sl as).length ≤ M.2.2.1)
    (body : ∀ Y : XY, xx_O Y M l d → xy_h Y = h → xy_Q Y = Q → SW Y k n h 0 (xx_ls as M.2.2.1) []) : XMet l M d k n as h Q := by
  intro D ρ ow
  refine vx_ofW (cc := M.2.1) (maxL := M.2.2.1) (ret := M.2.2.2.1) hy rfl ?_
  intro p e s m args below meth c s₁ B hml htab hv
  obtain ⟨rfl, hK, hN, hS, hin⟩ := hv
  have hts := atoms_spec (ws := xx_ws M) B.pre
  have hlen' : (lg_sl (as.map (xx_v ρ))).length ≤ M.2.2.1 := by
    have e : ∀ vs : List Value, (lg_sl (vs.map (xx_v ρ))).length = (lg_sl vs).length := by
      intro vs
      induction vs with
      | nil => rfl
      | cons v t ih =>
        simp only [lg_sl, List.map_cons, List.flatMap_cons, List.length_append, xx_v_cat] at ih ⊢
        rw [ih]
        split <;> rfl
    rw [e]
    exact hlen
  have hx := body ((p, l, e, (headSpec (xx_ws M) (xx_rm d k n)).room, s, m, (as.map (xx_v ρ)).toArray, below, meth, c), D, ρ, h, Q)
    ⟨B.exec, B.bytes, hml, B.returns, B.notSynchronized, fun w hw => hts w (List.mem_cons_of_mem _ hw), by rw [← hown]; exact findClass_of_methodNamed B.named, hK, hN, hl, (name_of_methodNamed B.named B.method).1, rfl, Nat.le_refl _, Nat.le_refl _, fun _ _ _ => htab, hS.2.1⟩ rfl rfl
  have hent := lv_entry (as.map (xx_v ρ)) (n := M.2.2.1) hlen'
  rw [lg_entry_eq]
  refine hx ρ ow s.heap [] 0 0 _ ⟨hS, fun r hr => ⟨hr, rfl⟩, fun z hz => absurd hz List.not_mem_nil, ?_, ?_, ?_, ?_, fun v hv => absurd hv List.not_mem_nil⟩
  · show 0 + k ≤ k
    omega
  · show 0 + n ≤ n
    omega
  · show xx_L ρ c.maxLocals _ _
    rw [hml]
    exact xx_L.entry hent
  · intro v hv
    unfold xx_ls at hv
    rcases List.mem_append.mp hv with h1 | h1
    · have : ∀ vs : List Value, (∀ w ∈ vs, xx_in h w) → ∀ w ∈ xx_lay vs, xx_in h w := by
        intro vs
        induction vs with
        | nil => intro _ w hw; cases hw
        | cons u t ih =>
          intro hu w hw
          unfold xx_lay at hw
          split at hw
          · rcases List.mem_cons.mp hw with rfl | hw
            · exact hu _ List.mem_cons_self
            · rcases List.mem_cons.mp hw with rfl | hw
              · exact trivial
              · exact ih (fun z hz => hu z (List.mem_cons_of_mem _ hz)) w hw
          · rcases List.mem_cons.mp hw with rfl | hw
            · exact hu _ List.mem_cons_self
            · exact ih (fun z hz => hu z (List.mem_cons_of_mem _ hz)) w hw
      exact this as hin v h1
    · rw [(List.mem_replicate.mp h1).2]
      exact trivial
end
section
/-! ===== one rule an instruction ===== -/
theorem xx_ht {p : Value → Prop} {a : Value} {st : List Value} (h : ∀ v ∈ a :: st, p v) : ∀ v ∈ st, p v := fun v hv => h v (List.mem_cons_of_mem _ hv)
theorem xx_hc {p : Value → Prop} {a : Value} {st : List Value} (ha : p a) (h : ∀ v ∈ st, p v) : ∀ v ∈ a :: st, p v := List.forall_mem_cons.mpr ⟨ha, h⟩
theorem xx_h0 {p : Value → Prop} {a : Value} {st : List Value} (h : ∀ v ∈ a :: st, p v) : p a := h a List.mem_cons_self
section
variable {Y : XY} {M : XM} {l : Launch} {d k n : Nat} {h : XH} {pc : Nat} {ls st : List Value} {ρ : Nat → Nat} {ow : Nat → Option Nat} {H : Heap} {locs : List Loc} {cells slots : Nat} {lsA : Array Slot}
theorem xx_R.stk (r : xx_R Y k n h ls st ρ ow H locs cells slots lsA) : ∀ v ∈ st, xx_in h v := r.2.2.2.2.2.2.2
theorem xx_R.lcl (r : xx_R Y k n h ls st ρ ow H locs cells slots lsA) : ∀ v ∈ ls, xx_in h v := r.2.2.2.2.2.2.1
theorem xx_R.L (r : xx_R Y k n h ls st ρ ow H locs cells slots lsA) : xx_L ρ (xt_c Y.1).maxLocals ls lsA := r.2.2.2.2.2.1
theorem xx_R.to {st' : List Value} (r : xx_R Y k n h ls st ρ ow H locs cells slots lsA) (hs : ∀ v ∈ st', xx_in h v) : xx_R Y k n h ls st' ρ ow H locs cells slots lsA := ⟨r.1, r.2.1, r.2.2.1, r.2.2.2.1, r.2.2.2.2.1, r.2.2.2.2.2.1, r.2.2.2.2.2.2.1, hs⟩
theorem xx_R.lc {ls' st' : List Value} {lsB : Array Slot} (r : xx_R Y k n h ls st ρ ow H locs cells slots lsA) (hL : xx_L ρ (xt_c Y.1).maxLocals ls' lsB) (hl : ∀ v ∈ ls', xx_in h v) (hs : ∀ v ∈ st', xx_in h v) : xx_R Y k n h ls' st' ρ ow H locs cells slots lsB := ⟨r.1, r.2.1, r.2.2.1, r.2.2.2.1, r.2.2.2.2.1, hL, hl, hs⟩
theorem xx_set_in {i : Nat} {v : Value} (hl : ∀ w ∈ ls, xx_in h w) (hv : xx_in h v) : ∀ w ∈ xx_set ls i v, xx_in h w := by
  intro w hw
  unfold xx_set at hw
  rcases List.mem_or_eq_of_mem_set hw with h1 | rfl
  · have : ∀ j, ∀ w ∈ xx_clr ls j, xx_in h w := by
      intro j w hw
      cases j with
      | zero => exact hl w hw
      | succ j =>
        have hw : w ∈ (if xx_isL ls j = true then ls.set j xx_d else ls) := hw
        split at hw
        · rcases List.mem_or_eq_of_mem_set hw with h2 | rfl
          · exact hl w h2
          · exact trivial
        · exact hl w hw
    exact this i w h1
  · exact hv
theorem xx_set2_in {i : Nat} {v : Value} (hl : ∀ w ∈ ls, xx_in h w) (hv : xx_in h v) : ∀ w ∈ xx_set2 ls i v, xx_in h w := by
  intro w hw
  unfold xx_set2 at hw
  rcases List.mem_or_eq_of_mem_set hw with h1 | rfl
  · exact xx_set_in (i := i) hl hv w h1
  · exact trivial
theorem xx_wid {k' n' : Nat} (h1 : k' ≤ k) (h2 : n' ≤ n) (kk : SW Y k' n' h pc ls st) : SW Y k n h pc ls st := fun ρ ow H locs cells slots lsA r => kk ρ ow H locs cells slots lsA ⟨r.1, r.2.1, r.2.2.1, Nat.le_trans (Nat.add_le_add_left h1 _) r.2.2.2.1, Nat.le_trans (Nat.add_le_add_left h2 _) r.2.2.2.2.1, r.2.2.2.2.2⟩
theorem sw_iadd {x y : Int32} (O : xx_O Y M l d) (hd : decode M.2.1 pc = .ok (.iadd, 1))  (kk : SW Y k n h (pc + 1) ls (.int (x + y) :: st)) : SW Y k n h pc ls (.int y :: .int x :: st) := fun ρ ow H locs cells slots lsA r => lv_iadd O.1 O.2.1 hd  (kk ρ ow H locs cells slots lsA (r.to (xx_hc (a := .int (x + y)) trivial (xx_ht (xx_ht r.stk)))))
theorem sw_isub {x y : Int32} (O : xx_O Y M l d) (hd : decode M.2.1 pc = .ok (.isub, 1))  (kk : SW Y k n h (pc + 1) ls (.int (x - y) :: st)) : SW Y k n h pc ls (.int y :: .int x :: st) := fun ρ ow H locs cells slots lsA r => lv_isub O.1 O.2.1 hd  (kk ρ ow H locs cells slots lsA (r.to (xx_hc (a := .int (x - y)) trivial (xx_ht (xx_ht r.stk)))))
theorem sw_imul {x y : Int32} (O : xx_O Y M l d) (hd : decode M.2.1 pc = .ok (.imul, 1))  (kk : SW Y k n h (pc + 1) ls (.int (x * y) :: st)) : SW Y k n h pc ls (.int y :: .int x :: st) := fun ρ ow H locs cells slots lsA r => lv_imul O.1 O.2.1 hd  (kk ρ ow H locs cells slots lsA (r.to (xx_hc (a := .int (x * y)) trivial (xx_ht (xx_ht r.stk)))))
theorem sw_iand {x y : Int32} (O : xx_O Y M l d) (hd : decode M.2.1 pc = .ok (.iand, 1))  (kk : SW Y k n h (pc + 1) ls (.int (x &&& y) :: st)) : SW Y k n h pc ls (.int y :: .int x :: st) := fun ρ ow H locs cells slots lsA r => lv_iand O.1 O.2.1 hd  (kk ρ ow H locs cells slots lsA (r.to (xx_hc (a := .int (x &&& y)) trivial (xx_ht (xx_ht r.stk)))))
theorem sw_ior {x y : Int32} (O : xx_O Y M l d) (hd : decode M.2.1 pc = .ok (.ior, 1))  (kk : SW Y k n h (pc + 1) ls (.int (x ||| y) :: st)) : SW Y k n h pc ls (.int y :: .int x :: st) := fun ρ ow H locs cells slots lsA r => lv_ior O.1 O.2.1 hd  (kk ρ ow H locs cells slots lsA (r.to (xx_hc (a := .int (x ||| y)) trivial (xx_ht (xx_ht r.stk)))))
theorem sw_ixor {x y : Int32} (O : xx_O Y M l d) (hd : decode M.2.1 pc = .ok (.ixor, 1))  (kk : SW Y k n h (pc + 1) ls (.int (x ^^^ y) :: st)) : SW Y k n h pc ls (.int y :: .int x :: st) := fun ρ ow H locs cells slots lsA r => lv_ixor O.1 O.2.1 hd  (kk ρ ow H locs cells slots lsA (r.to (xx_hc (a := .int (x ^^^ y)) trivial (xx_ht (xx_ht r.stk)))))
theorem sw_ishl {x y : Int32} (O : xx_O Y M l d) (hd : decode M.2.1 pc = .ok (.ishl, 1))  (kk : SW Y k n h (pc + 1) ls (.int (x <<< (y &&& 31)) :: st)) : SW Y k n h pc ls (.int y :: .int x :: st) := fun ρ ow H locs cells slots lsA r => lv_ishl O.1 O.2.1 hd  (kk ρ ow H locs cells slots lsA (r.to (xx_hc (a := .int (x <<< (y &&& 31))) trivial (xx_ht (xx_ht r.stk)))))
theorem sw_ishr {x y : Int32} (O : xx_O Y M l d) (hd : decode M.2.1 pc = .ok (.ishr, 1))  (kk : SW Y k n h (pc + 1) ls (.int (x >>> (y &&& 31)) :: st)) : SW Y k n h pc ls (.int y :: .int x :: st) := fun ρ ow H locs cells slots lsA r => lv_ishr O.1 O.2.1 hd  (kk ρ ow H locs cells slots lsA (r.to (xx_hc (a := .int (x >>> (y &&& 31))) trivial (xx_ht (xx_ht r.stk)))))
theorem sw_iushr {x y : Int32} (O : xx_O Y M l d) (hd : decode M.2.1 pc = .ok (.iushr, 1))  (kk : SW Y k n h (pc + 1) ls (.int ((x.toUInt32 >>> (y.toUInt32 &&& Int32.toUInt32 31)).toInt32) :: st)) : SW Y k n h pc ls (.int y :: .int x :: st) := fun ρ ow H locs cells slots lsA r => lv_iushr O.1 O.2.1 hd rfl (kk ρ ow H locs cells slots lsA (r.to (xx_hc (a := .int ((x.toUInt32 >>> (y.toUInt32 &&& Int32.toUInt32 31)).toInt32)) trivial (xx_ht (xx_ht r.stk)))))
theorem sw_idiv {x y : Int32} (O : xx_O Y M l d) (hd : decode M.2.1 pc = .ok (.idiv, 1)) (hne : ¬ y = 0) (kk : SW Y k n h (pc + 1) ls (.int (x / y) :: st)) : SW Y k n h pc ls (.int y :: .int x :: st) := fun ρ ow H locs cells slots lsA r => lv_idiv O.1 O.2.1 hd hne (kk ρ ow H locs cells slots lsA (r.to (xx_hc (a := .int (x / y)) trivial (xx_ht (xx_ht r.stk)))))
theorem sw_irem {x y : Int32} (O : xx_O Y M l d) (hd : decode M.2.1 pc = .ok (.irem, 1)) (hne : ¬ y = 0) (kk : SW Y k n h (pc + 1) ls (.int (x - x / y * y) :: st)) : SW Y k n h pc ls (.int y :: .int x :: st) := fun ρ ow H locs cells slots lsA r => lv_irem O.1 O.2.1 hd hne (kk ρ ow H locs cells slots lsA (r.to (xx_hc (a := .int (x - x / y * y)) trivial (xx_ht (xx_ht r.stk)))))
theorem sw_ineg {x : Int32} (O : xx_O Y M l d) (hd : decode M.2.1 pc = .ok (.ineg, 1))  (kk : SW Y k n h (pc + 1) ls (.int (-x) :: st)) : SW Y k n h pc ls (.int x :: st) := fun ρ ow H locs cells slots lsA r => lv_ineg O.1 O.2.1 hd  (kk ρ ow H locs cells slots lsA (r.to (xx_hc (a := .int (-x)) trivial (xx_ht r.stk))))
theorem sw_ladd {x y : Int64} (O : xx_O Y M l d) (hd : decode M.2.1 pc = .ok (.ladd, 1))  (kk : SW Y k n h (pc + 1) ls (.long (x + y) :: st)) : SW Y k n h pc ls (.long y :: .long x :: st) := fun ρ ow H locs cells slots lsA r => lv_ladd O.1 O.2.1 hd  (kk ρ ow H locs cells slots lsA (r.to (xx_hc (a := .long (x + y)) trivial (xx_ht (xx_ht r.stk)))))
theorem sw_lsub {x y : Int64} (O : xx_O Y M l d) (hd : decode M.2.1 pc = .ok (.lsub, 1))  (kk : SW Y k n h (pc + 1) ls (.long (x - y) :: st)) : SW Y k n h pc ls (.long y :: .long x :: st) := fun ρ ow H locs cells slots lsA r => lv_lsub O.1 O.2.1 hd  (kk ρ ow H locs cells slots lsA (r.to (xx_hc (a := .long (x - y)) trivial (xx_ht (xx_ht r.stk)))))
theorem sw_lmul {x y : Int64} (O : xx_O Y M l d) (hd : decode M.2.1 pc = .ok (.lmul, 1))  (kk : SW Y k n h (pc + 1) ls (.long (x * y) :: st)) : SW Y k n h pc ls (.long y :: .long x :: st) := fun ρ ow H locs cells slots lsA r => lv_lmul O.1 O.2.1 hd  (kk ρ ow H locs cells slots lsA (r.to (xx_hc (a := .long (x * y)) trivial (xx_ht (xx_ht r.stk)))))
theorem sw_ldiv {x y : Int64} (O : xx_O Y M l d) (hd : decode M.2.1 pc = .ok (.ldiv, 1)) (hne : ¬ y = 0) (kk : SW Y k n h (pc + 1) ls (.long (x / y) :: st)) : SW Y k n h pc ls (.long y :: .long x :: st) := fun ρ ow H locs cells slots lsA r => lv_ldiv O.1 O.2.1 hd hne (kk ρ ow H locs cells slots lsA (r.to (xx_hc (a := .long (x / y)) trivial (xx_ht (xx_ht r.stk)))))
theorem sw_i2l {x : Int32} (O : xx_O Y M l d) (hd : decode M.2.1 pc = .ok (.i2l, 1))  (kk : SW Y k n h (pc + 1) ls (.long x.toInt64 :: st)) : SW Y k n h pc ls (.int x :: st) := fun ρ ow H locs cells slots lsA r => lv_i2l O.1 O.2.1 hd rfl (kk ρ ow H locs cells slots lsA (r.to (xx_hc (a := .long x.toInt64) trivial (xx_ht r.stk))))
theorem sw_l2i {x : Int64} (O : xx_O Y M l d) (hd : decode M.2.1 pc = .ok (.l2i, 1))  (kk : SW Y k n h (pc + 1) ls (.int x.toInt32 :: st)) : SW Y k n h pc ls (.long x :: st) := fun ρ ow H locs cells slots lsA r => lv_l2i O.1 O.2.1 hd rfl (kk ρ ow H locs cells slots lsA (r.to (xx_hc (a := .int x.toInt32) trivial (xx_ht r.stk))))
theorem sw_iconst {z : Int} {x : Int32} (O : xx_O Y M l d) (hd : decode M.2.1 pc = .ok (.iconst z, 1)) (hv : Int32.ofInt z = x) (kk : SW Y k n h (pc + 1) ls (.int x :: st)) : SW Y k n h pc ls (st) := fun ρ ow H locs cells slots lsA r => lv_iconst O.1 O.2.1 hd hv (kk ρ ow H locs cells slots lsA (r.to (xx_hc (a := .int x) trivial r.stk)))
theorem sw_bipush {z : Int} {x : Int32} (O : xx_O Y M l d) (hd : decode M.2.1 pc = .ok (.bipush z, 2)) (hv : (Int8.ofInt z).toInt32 = x) (kk : SW Y k n h (pc + 2) ls (.int x :: st)) : SW Y k n h pc ls (st) := fun ρ ow H locs cells slots lsA r => lv_bipush O.1 O.2.1 hd hv (kk ρ ow H locs cells slots lsA (r.to (xx_hc (a := .int x) trivial r.stk)))
theorem sw_sipush {z : Int} {x : Int32} (O : xx_O Y M l d) (hd : decode M.2.1 pc = .ok (.sipush z, 3)) (hv : (Int16.ofInt z).toInt32 = x) (kk : SW Y k n h (pc + 3) ls (.int x :: st)) : SW Y k n h pc ls (st) := fun ρ ow H locs cells slots lsA r => lv_sipush O.1 O.2.1 hd hv (kk ρ ow H locs cells slots lsA (r.to (xx_hc (a := .int x) trivial r.stk)))
theorem sw_lconst {z : Fin 2} (O : xx_O Y M l d) (hd : decode M.2.1 pc = .ok (.lconst z, 1))  (kk : SW Y k n h (pc + 1) ls (.long (Int64.ofNat (z : Nat)) :: st)) : SW Y k n h pc ls (st) := fun ρ ow H locs cells slots lsA r => lv_lconst O.1 O.2.1 hd rfl (kk ρ ow H locs cells slots lsA (r.to (xx_hc (a := .long (Int64.ofNat (z : Nat))) trivial r.stk)))
theorem sw_null  (O : xx_O Y M l d) (hd : decode M.2.1 pc = .ok (.aconst_null, 1))  (kk : SW Y k n h (pc + 1) ls (.null :: st)) : SW Y k n h pc ls (st) := fun ρ ow H locs cells slots lsA r => lv_null O.1 O.2.1 hd  (kk ρ ow H locs cells slots lsA (r.to (xx_hc (a := .null) trivial r.stk)))
theorem sw_lcmp {x y : Int64} (O : xx_O Y M l d) (hd : decode M.2.1 pc = .ok (.lcmp, 1)) (kk : SW Y k n h (pc + 1) ls (.int (lg_cmp x y) :: st)) : SW Y k n h pc ls (.long y :: .long x :: st) := fun ρ ow H locs cells slots lsA r => W.lcmp O.1 O.2.1 hd (kk ρ ow H locs cells slots lsA (r.to (xx_hc (a := .int (lg_cmp x y)) trivial (xx_ht (xx_ht r.stk)))))
theorem sw_dup {v : Value} (O : xx_O Y M l d) (hd : decode M.2.1 pc = .ok (.dup, 1)) (hv : v.category = 1) (kk : SW Y k n h (pc + 1) ls (v :: v :: st)) : SW Y k n h pc ls (v :: st) := fun ρ ow H locs cells slots lsA r => lv_dup O.1 O.2.1 hd (by rw [xx_v_cat]; exact hv) (kk ρ ow H locs cells slots lsA (r.to (xx_hc (xx_h0 r.stk) r.stk)))
theorem sw_pop {v : Value} (O : xx_O Y M l d) (hd : decode M.2.1 pc = .ok (.pop, 1)) (hv : v.category = 1) (kk : SW Y k n h (pc + 1) ls st) : SW Y k n h pc ls (v :: st) := fun ρ ow H locs cells slots lsA r => lv_pop O.1 O.2.1 hd (by rw [xx_v_cat]; exact hv) (kk ρ ow H locs cells slots lsA (r.to (xx_ht r.stk)))
theorem sw_dup_x1 {v w : Value} (O : xx_O Y M l d) (hd : decode M.2.1 pc = .ok (.dup_x1, 1)) (hv : v.category = 1) (hw : w.category = 1) (kk : SW Y k n h (pc + 1) ls (v :: w :: v :: st)) : SW Y k n h pc ls (v :: w :: st) := fun ρ ow H locs cells slots lsA r => lv_dup_x1 O.1 O.2.1 hd (by rw [xx_v_cat]; exact hv) (by rw [xx_v_cat]; exact hw) (kk ρ ow H locs cells slots lsA (r.to (xx_hc (xx_h0 r.stk) (xx_hc (xx_h0 (xx_ht r.stk)) (xx_hc (xx_h0 r.stk) (xx_ht (xx_ht r.stk)))))))
theorem sw_dup2 {v w : Value} (O : xx_O Y M l d) (hd : decode M.2.1 pc = .ok (.dup2, 1)) (hv : v.category = 1) (hw : w.category = 1) (kk : SW Y k n h (pc + 1) ls (v :: w :: v :: w :: st)) : SW Y k n h pc ls (v :: w :: st) := fun ρ ow H locs cells slots lsA r => lv_dup2_11 O.1 O.2.1 hd (by rw [xx_v_cat]; exact hv) (by rw [xx_v_cat]; exact hw) (kk ρ ow H locs cells slots lsA (r.to (xx_hc (xx_h0 r.stk) (xx_hc (xx_h0 (xx_ht r.stk)) r.stk))))
theorem sw_iload {i : Nat} {x : Int32} (O : xx_O Y M l d) (hd : decode M.2.1 pc = .ok (.iload i, 2)) (hl : ls[i]? = some (.int x)) (kk : SW Y k n h (pc + 2) ls (.int x :: st)) : SW Y k n h pc ls st := fun ρ ow H locs cells slots lsA r => lv_iload O.1 O.2.1 hd (r.L.2.2 _ _ hl (by intro e; cases e)) (kk ρ ow H locs cells slots lsA (r.to (xx_hc (r.lcl _ (List.mem_of_getElem? hl)) r.stk)))
theorem sw_iload_n {i : Fin 4} {x : Int32} (O : xx_O Y M l d) (hd : decode M.2.1 pc = .ok (.iload_n i, 1)) (hl : ls[(i : Nat)]? = some (.int x)) (kk : SW Y k n h (pc + 1) ls (.int x :: st)) : SW Y k n h pc ls st := fun ρ ow H locs cells slots lsA r => lv_iload_n O.1 O.2.1 hd rfl (r.L.2.2 _ _ hl (by intro e; cases e)) (kk ρ ow H locs cells slots lsA (r.to (xx_hc (r.lcl _ (List.mem_of_getElem? hl)) r.stk)))
theorem sw_lload {i : Nat} {x : Int64} (O : xx_O Y M l d) (hd : decode M.2.1 pc = .ok (.lload i, 2)) (hl : ls[i]? = some (.long x)) (kk : SW Y k n h (pc + 2) ls (.long x :: st)) : SW Y k n h pc ls st := fun ρ ow H locs cells slots lsA r => lv_lload O.1 O.2.1 hd (r.L.2.2 _ _ hl (by intro e; cases e)) (kk ρ ow H locs cells slots lsA (r.to (xx_hc (r.lcl _ (List.mem_of_getElem? hl)) r.stk)))
theorem sw_lload_n {i : Fin 4} {x : Int64} (O : xx_O Y M l d) (hd : decode M.2.1 pc = .ok (.lload_n i, 1)) (hl : ls[(i : Nat)]? = some (.long x)) (kk : SW Y k n h (pc + 1) ls (.long x :: st)) : SW Y k n h pc ls st := fun ρ ow H locs cells slots lsA r => lv_lload_n O.1 O.2.1 hd rfl (r.L.2.2 _ _ hl (by intro e; cases e)) (kk ρ ow H locs cells slots lsA (r.to (xx_hc (r.lcl _ (List.mem_of_getElem? hl)) r.stk)))
theorem sw_aload {i : Nat} {x : Nat} (O : xx_O Y M l d) (hd : decode M.2.1 pc = .ok (.aload i, 2)) (hl : ls[i]? = some (.ref x)) (kk : SW Y k n h (pc + 2) ls (.ref x :: st)) : SW Y k n h pc ls st := fun ρ ow H locs cells slots lsA r => lv_aload O.1 O.2.1 hd (r.L.2.2 _ _ hl (by intro e; cases e)) (kk ρ ow H locs cells slots lsA (r.to (xx_hc (r.lcl _ (List.mem_of_getElem? hl)) r.stk)))
theorem sw_aload_n {i : Fin 4} {x : Nat} (O : xx_O Y M l d) (hd : decode M.2.1 pc = .ok (.aload_n i, 1)) (hl : ls[(i : Nat)]? = some (.ref x)) (kk : SW Y k n h (pc + 1) ls (.ref x :: st)) : SW Y k n h pc ls st := fun ρ ow H locs cells slots lsA r => lv_aload_n O.1 O.2.1 hd rfl (r.L.2.2 _ _ hl (by intro e; cases e)) (kk ρ ow H locs cells slots lsA (r.to (xx_hc (r.lcl _ (List.mem_of_getElem? hl)) r.stk)))
theorem sw_aloadN {i : Nat} (O : xx_O Y M l d) (hd : decode M.2.1 pc = .ok (.aload i, 2)) (hl : ls[i]? = some .null) (kk : SW Y k n h (pc + 2) ls (.null :: st)) : SW Y k n h pc ls st := fun ρ ow H locs cells slots lsA r => lv_aloadN O.1 O.2.1 hd (r.L.2.2 _ _ hl (by intro e; cases e)) (kk ρ ow H locs cells slots lsA (r.to (xx_hc trivial r.stk)))
theorem sw_aload_nN {i : Fin 4} (O : xx_O Y M l d) (hd : decode M.2.1 pc = .ok (.aload_n i, 1)) (hl : ls[(i : Nat)]? = some .null) (kk : SW Y k n h (pc + 1) ls (.null :: st)) : SW Y k n h pc ls st := fun ρ ow H locs cells slots lsA r => lv_aload_nN O.1 O.2.1 hd rfl (r.L.2.2 _ _ hl (by intro e; cases e)) (kk ρ ow H locs cells slots lsA (r.to (xx_hc trivial r.stk)))
theorem sw_istore {i : Nat} {x : Int32} {ls2 : List Value} (O : xx_O Y M l d) (hd : decode M.2.1 pc = .ok (.istore i, 2)) (hn : i < M.2.2.1) (hs : xx_set ls i (.int x) = ls2) (kk : SW Y k n h (pc + 2) ls2 st) : SW Y k n h pc ls (.int x :: st) := fun ρ ow H locs cells slots lsA r => lv_istore O.1 O.2.1 hd r.L.has (by rw [O.2.2.1]; exact hn) rfl (fun lsB hB => kk ρ ow H locs cells slots lsB (r.lc (by rw [← hs]; exact xx_L.store1 (v := .int x) rfl hB) (by rw [← hs]; exact xx_set_in r.lcl (xx_h0 r.stk)) (xx_ht r.stk)))
theorem sw_istore_n {i : Fin 4} {x : Int32} {ls2 : List Value} (O : xx_O Y M l d) (hd : decode M.2.1 pc = .ok (.istore_n i, 1)) (hn : (i : Nat) < M.2.2.1) (hs : xx_set ls (i : Nat) (.int x) = ls2) (kk : SW Y k n h (pc + 1) ls2 st) : SW Y k n h pc ls (.int x :: st) := fun ρ ow H locs cells slots lsA r => lv_istore_n O.1 O.2.1 hd rfl r.L.has (by rw [O.2.2.1]; exact hn) rfl (fun lsB hB => kk ρ ow H locs cells slots lsB (r.lc (by rw [← hs]; exact xx_L.store1 (v := .int x) rfl hB) (by rw [← hs]; exact xx_set_in r.lcl (xx_h0 r.stk)) (xx_ht r.stk)))
theorem sw_lstore {i : Nat} {x : Int64} {ls2 : List Value} (O : xx_O Y M l d) (hd : decode M.2.1 pc = .ok (.lstore i, 2)) (hn : i + 1 < M.2.2.1) (hs : xx_set2 ls i (.long x) = ls2) (kk : SW Y k n h (pc + 2) ls2 st) : SW Y k n h pc ls (.long x :: st) := fun ρ ow H locs cells slots lsA r => lv_lstore O.1 O.2.1 hd r.L.has (by rw [O.2.2.1]; exact hn) rfl (fun lsB hB => kk ρ ow H locs cells slots lsB (r.lc (by rw [← hs]; exact xx_L.store2 (v := .long x) rfl hB) (by rw [← hs]; exact xx_set2_in r.lcl (xx_h0 r.stk)) (xx_ht r.stk)))
theorem sw_lstore_n {i : Fin 4} {x : Int64} {ls2 : List Value} (O : xx_O Y M l d) (hd : decode M.2.1 pc = .ok (.lstore_n i, 1)) (hn : (i : Nat) + 1 < M.2.2.1) (hs : xx_set2 ls (i : Nat) (.long x) = ls2) (kk : SW Y k n h (pc + 1) ls2 st) : SW Y k n h pc ls (.long x :: st) := fun ρ ow H locs cells slots lsA r => lv_lstore_n O.1 O.2.1 hd rfl r.L.has (by rw [O.2.2.1]; exact hn) rfl (fun lsB hB => kk ρ ow H locs cells slots lsB (r.lc (by rw [← hs]; exact xx_L.store2 (v := .long x) rfl hB) (by rw [← hs]; exact xx_set2_in r.lcl (xx_h0 r.stk)) (xx_ht r.stk)))
theorem sw_astore {i : Nat} {x : Nat} {ls2 : List Value} (O : xx_O Y M l d) (hd : decode M.2.1 pc = .ok (.astore i, 2)) (hn : i < M.2.2.1) (hs : xx_set ls i (.ref x) = ls2) (kk : SW Y k n h (pc + 2) ls2 st) : SW Y k n h pc ls (.ref x :: st) := fun ρ ow H locs cells slots lsA r => lv_astore O.1 O.2.1 hd r.L.has (by rw [O.2.2.1]; exact hn) rfl (fun lsB hB => kk ρ ow H locs cells slots lsB (r.lc (by rw [← hs]; exact xx_L.store1 (v := .ref x) rfl hB) (by rw [← hs]; exact xx_set_in r.lcl (xx_h0 r.stk)) (xx_ht r.stk)))
theorem sw_astore_n {i : Fin 4} {x : Nat} {ls2 : List Value} (O : xx_O Y M l d) (hd : decode M.2.1 pc = .ok (.astore_n i, 1)) (hn : (i : Nat) < M.2.2.1) (hs : xx_set ls (i : Nat) (.ref x) = ls2) (kk : SW Y k n h (pc + 1) ls2 st) : SW Y k n h pc ls (.ref x :: st) := fun ρ ow H locs cells slots lsA r => lv_astore_n O.1 O.2.1 hd rfl r.L.has (by rw [O.2.2.1]; exact hn) rfl (fun lsB hB => kk ρ ow H locs cells slots lsB (r.lc (by rw [← hs]; exact xx_L.store1 (v := .ref x) rfl hB) (by rw [← hs]; exact xx_set_in r.lcl (xx_h0 r.stk)) (xx_ht r.stk)))
theorem sw_astoreN {i : Nat} {ls2 : List Value} (O : xx_O Y M l d) (hd : decode M.2.1 pc = .ok (.astore i, 2)) (hn : i < M.2.2.1) (hs : xx_set ls i .null = ls2) (kk : SW Y k n h (pc + 2) ls2 st) : SW Y k n h pc ls (.null :: st) := fun ρ ow H locs cells slots lsA r => lv_astoreN O.1 O.2.1 hd r.L.has (by rw [O.2.2.1]; exact hn) rfl (fun lsB hB => kk ρ ow H locs cells slots lsB (r.lc (by rw [← hs]; exact xx_L.store1 (v := .null) rfl hB) (by rw [← hs]; exact xx_set_in r.lcl trivial) (xx_ht r.stk)))
theorem sw_iinc {i : Nat} {z : Int} {x y : Int32} {ls2 : List Value} (O : xx_O Y M l d) (hd : decode M.2.1 pc = .ok (.iinc i z, 3)) (hl : ls[i]? = some (.int x)) (hv : x + Int32.ofInt z = y) (hn : i < M.2.2.1) (hs : xx_set ls i (.int y) = ls2) (kk : SW Y k n h (pc + 3) ls2 st) : SW Y k n h pc ls st := fun ρ ow H locs cells slots lsA r => by
  obtain ⟨j, hj⟩ := List.getElem?_of_mem (xx_pr_in (ρ := ρ) hl (by intro e; cases e))
  exact lv_iinc O.1 O.2.1 hd r.L.has hj hv (by rw [O.2.2.1]; exact hn) rfl (fun lsB hB => kk ρ ow H locs cells slots lsB (r.lc (by rw [← hs]; exact xx_L.store1 (v := .int y) rfl hB) (by rw [← hs]; exact xx_set_in r.lcl trivial) r.stk))
theorem sw_if_eq {x : Int32} {off : Int} {tgt : Nat} (O : xx_O Y M l d) (hd : decode M.2.1 pc = .ok (.ifCond .eq off, 3)) (ht : (pc : Int) + off = (tgt : Int)) (kt : x = 0 → SW Y k n h tgt ls st) (kf : ¬ x = 0 → SW Y k n h (pc + 3) ls st) : SW Y k n h pc ls (.int x :: st) := fun ρ ow H locs cells slots lsA r => lv_if_eq O.1 O.2.1 hd ht (fun e => kt e ρ ow H locs cells slots lsA (r.to (xx_ht r.stk))) (fun e => kf e ρ ow H locs cells slots lsA (r.to (xx_ht r.stk)))
theorem sw_icmp_eq {x y : Int32} {off : Int} {tgt : Nat} (O : xx_O Y M l d) (hd : decode M.2.1 pc = .ok (.if_icmp .eq off, 3)) (ht : (pc : Int) + off = (tgt : Int)) (kt : x = y → SW Y k n h tgt ls st) (kf : ¬ x = y → SW Y k n h (pc + 3) ls st) : SW Y k n h pc ls (.int y :: .int x :: st) := fun ρ ow H locs cells slots lsA r => lv_icmp_eq O.1 O.2.1 hd ht (fun e => kt e ρ ow H locs cells slots lsA (r.to (xx_ht (xx_ht r.stk)))) (fun e => kf e ρ ow H locs cells slots lsA (r.to (xx_ht (xx_ht r.stk))))
theorem sw_if_ne {x : Int32} {off : Int} {tgt : Nat} (O : xx_O Y M l d) (hd : decode M.2.1 pc = .ok (.ifCond .ne off, 3)) (ht : (pc : Int) + off = (tgt : Int)) (kt : ¬ x = 0 → SW Y k n h tgt ls st) (kf : x = 0 → SW Y k n h (pc + 3) ls st) : SW Y k n h pc ls (.int x :: st) := fun ρ ow H locs cells slots lsA r => lv_if_ne O.1 O.2.1 hd ht (fun e => kt e ρ ow H locs cells slots lsA (r.to (xx_ht r.stk))) (fun e => kf e ρ ow H locs cells slots lsA (r.to (xx_ht r.stk)))
theorem sw_icmp_ne {x y : Int32} {off : Int} {tgt : Nat} (O : xx_O Y M l d) (hd : decode M.2.1 pc = .ok (.if_icmp .ne off, 3)) (ht : (pc : Int) + off = (tgt : Int)) (kt : ¬ x = y → SW Y k n h tgt ls st) (kf : x = y → SW Y k n h (pc + 3) ls st) : SW Y k n h pc ls (.int y :: .int x :: st) := fun ρ ow H locs cells slots lsA r => lv_icmp_ne O.1 O.2.1 hd ht (fun e => kt e ρ ow H locs cells slots lsA (r.to (xx_ht (xx_ht r.stk)))) (fun e => kf e ρ ow H locs cells slots lsA (r.to (xx_ht (xx_ht r.stk))))
theorem sw_if_lt {x : Int32} {off : Int} {tgt : Nat} (O : xx_O Y M l d) (hd : decode M.2.1 pc = .ok (.ifCond .lt off, 3)) (ht : (pc : Int) + off = (tgt : Int)) (kt : x < 0 → SW Y k n h tgt ls st) (kf : ¬ x < 0 → SW Y k n h (pc + 3) ls st) : SW Y k n h pc ls (.int x :: st) := fun ρ ow H locs cells slots lsA r => lv_if_lt O.1 O.2.1 hd ht (fun e => kt e ρ ow H locs cells slots lsA (r.to (xx_ht r.stk))) (fun e => kf e ρ ow H locs cells slots lsA (r.to (xx_ht r.stk)))
theorem sw_icmp_lt {x y : Int32} {off : Int} {tgt : Nat} (O : xx_O Y M l d) (hd : decode M.2.1 pc = .ok (.if_icmp .lt off, 3)) (ht : (pc : Int) + off = (tgt : Int)) (kt : x < y → SW Y k n h tgt ls st) (kf : ¬ x < y → SW Y k n h (pc + 3) ls st) : SW Y k n h pc ls (.int y :: .int x :: st) := fun ρ ow H locs cells slots lsA r => lv_icmp_lt O.1 O.2.1 hd ht (fun e => kt e ρ ow H locs cells slots lsA (r.to (xx_ht (xx_ht r.stk)))) (fun e => kf e ρ ow H locs cells slots lsA (r.to (xx_ht (xx_ht r.stk))))
theorem sw_if_ge {x : Int32} {off : Int} {tgt : Nat} (O : xx_O Y M l d) (hd : decode M.2.1 pc = .ok (.ifCond .ge off, 3)) (ht : (pc : Int) + off = (tgt : Int)) (kt : 0 ≤ x → SW Y k n h tgt ls st) (kf : ¬ 0 ≤ x → SW Y k n h (pc + 3) ls st) : SW Y k n h pc ls (.int x :: st) := fun ρ ow H locs cells slots lsA r => lv_if_ge O.1 O.2.1 hd ht (fun e => kt e ρ ow H locs cells slots lsA (r.to (xx_ht r.stk))) (fun e => kf e ρ ow H locs cells slots lsA (r.to (xx_ht r.stk)))
theorem sw_icmp_ge {x y : Int32} {off : Int} {tgt : Nat} (O : xx_O Y M l d) (hd : decode M.2.1 pc = .ok (.if_icmp .ge off, 3)) (ht : (pc : Int) + off = (tgt : Int)) (kt : y ≤ x → SW Y k n h tgt ls st) (kf : ¬ y ≤ x → SW Y k n h (pc + 3) ls st) : SW Y k n h pc ls (.int y :: .int x :: st) := fun ρ ow H locs cells slots lsA r => lv_icmp_ge O.1 O.2.1 hd ht (fun e => kt e ρ ow H locs cells slots lsA (r.to (xx_ht (xx_ht r.stk)))) (fun e => kf e ρ ow H locs cells slots lsA (r.to (xx_ht (xx_ht r.stk))))
theorem sw_if_gt {x : Int32} {off : Int} {tgt : Nat} (O : xx_O Y M l d) (hd : decode M.2.1 pc = .ok (.ifCond .gt off, 3)) (ht : (pc : Int) + off = (tgt : Int)) (kt : 0 < x → SW Y k n h tgt ls st) (kf : ¬ 0 < x → SW Y k n h (pc + 3) ls st) : SW Y k n h pc ls (.int x :: st) := fun ρ ow H locs cells slots lsA r => lv_if_gt O.1 O.2.1 hd ht (fun e => kt e ρ ow H locs cells slots lsA (r.to (xx_ht r.stk))) (fun e => kf e ρ ow H locs cells slots lsA (r.to (xx_ht r.stk)))
theorem sw_icmp_gt {x y : Int32} {off : Int} {tgt : Nat} (O : xx_O Y M l d) (hd : decode M.2.1 pc = .ok (.if_icmp .gt off, 3)) (ht : (pc : Int) + off = (tgt : Int)) (kt : y < x → SW Y k n h tgt ls st) (kf : ¬ y < x → SW Y k n h (pc + 3) ls st) : SW Y k n h pc ls (.int y :: .int x :: st) := fun ρ ow H locs cells slots lsA r => lv_icmp_gt O.1 O.2.1 hd ht (fun e => kt e ρ ow H locs cells slots lsA (r.to (xx_ht (xx_ht r.stk)))) (fun e => kf e ρ ow H locs cells slots lsA (r.to (xx_ht (xx_ht r.stk))))
theorem sw_if_le {x : Int32} {off : Int} {tgt : Nat} (O : xx_O Y M l d) (hd : decode M.2.1 pc = .ok (.ifCond .le off, 3)) (ht : (pc : Int) + off = (tgt : Int)) (kt : x ≤ 0 → SW Y k n h tgt ls st) (kf : ¬ x ≤ 0 → SW Y k n h (pc + 3) ls st) : SW Y k n h pc ls (.int x :: st) := fun ρ ow H locs cells slots lsA r => lv_if_le O.1 O.2.1 hd ht (fun e => kt e ρ ow H locs cells slots lsA (r.to (xx_ht r.stk))) (fun e => kf e ρ ow H locs cells slots lsA (r.to (xx_ht r.stk)))
theorem sw_icmp_le {x y : Int32} {off : Int} {tgt : Nat} (O : xx_O Y M l d) (hd : decode M.2.1 pc = .ok (.if_icmp .le off, 3)) (ht : (pc : Int) + off = (tgt : Int)) (kt : x ≤ y → SW Y k n h tgt ls st) (kf : ¬ x ≤ y → SW Y k n h (pc + 3) ls st) : SW Y k n h pc ls (.int y :: .int x :: st) := fun ρ ow H locs cells slots lsA r => lv_icmp_le O.1 O.2.1 hd ht (fun e => kt e ρ ow H locs cells slots lsA (r.to (xx_ht (xx_ht r.stk)))) (fun e => kf e ρ ow H locs cells slots lsA (r.to (xx_ht (xx_ht r.stk))))
theorem sw_goto {off : Int} {tgt : Nat} (O : xx_O Y M l d) (hd : decode M.2.1 pc = .ok (.goto off, 3)) (ht : (pc : Int) + off = (tgt : Int)) (kk : SW Y k n h tgt ls st) : SW Y k n h pc ls st := fun ρ ow H locs cells slots lsA r => lv_goto O.1 O.2.1 hd ht (kk ρ ow H locs cells slots lsA r)
theorem sw_ifnull {x : Nat} {off : Int} (O : xx_O Y M l d) (hd : decode M.2.1 pc = .ok (.ifnull off, 3)) (kk : SW Y k n h (pc + 3) ls st) : SW Y k n h pc ls (.ref x :: st) := fun ρ ow H locs cells slots lsA r => lv_ifnull O.1 O.2.1 hd (kk ρ ow H locs cells slots lsA (r.to (xx_ht r.stk)))
theorem sw_ifnullN {off : Int} {tgt : Nat} (O : xx_O Y M l d) (hd : decode M.2.1 pc = .ok (.ifnull off, 3)) (ht : (pc : Int) + off = (tgt : Int)) (kk : SW Y k n h tgt ls st) : SW Y k n h pc ls (.null :: st) := fun ρ ow H locs cells slots lsA r => lv_ifnullN O.1 O.2.1 hd ht (kk ρ ow H locs cells slots lsA (r.to (xx_ht r.stk)))
theorem sw_ifnonnull {x : Nat} {off : Int} {tgt : Nat} (O : xx_O Y M l d) (hd : decode M.2.1 pc = .ok (.ifnonnull off, 3)) (ht : (pc : Int) + off = (tgt : Int)) (kk : SW Y k n h tgt ls st) : SW Y k n h pc ls (.ref x :: st) := fun ρ ow H locs cells slots lsA r => lv_ifnonnull O.1 O.2.1 hd ht (kk ρ ow H locs cells slots lsA (r.to (xx_ht r.stk)))
theorem sw_ifnonnullN {off : Int} (O : xx_O Y M l d) (hd : decode M.2.1 pc = .ok (.ifnonnull off, 3)) (kk : SW Y k n h (pc + 3) ls st) : SW Y k n h pc ls (.null :: st) := fun ρ ow H locs cells slots lsA r => lv_ifnonnullN O.1 O.2.1 hd (kk ρ ow H locs cells slots lsA (r.to (xx_ht r.stk)))
theorem sw_tableOut {dflt lo hi : Int} {offs : Array Int} {len : Nat} {x : Int32} {tgt : Nat} (O : xx_O Y M l d) (hd : decode M.2.1 pc = .ok (.tableswitch dflt lo hi offs, len)) (hx : x.toInt < lo ∨ hi < x.toInt) (ht : (pc : Int) + dflt = (tgt : Int)) (kk : SW Y k n h tgt ls st) : SW Y k n h pc ls (.int x :: st) := fun ρ ow H locs cells slots lsA r => lv_tableOut O.1 O.2.1 hd hx ht (kk ρ ow H locs cells slots lsA (r.to (xx_ht r.stk)))
theorem sw_tableIn {dflt lo hi : Int} {offs : Array Int} {len : Nat} {x : Int32} {off : Int} {tgt : Nat} (O : xx_O Y M l d) (hd : decode M.2.1 pc = .ok (.tableswitch dflt lo hi offs, len)) (h1 : ¬ x.toInt < lo) (h2 : ¬ hi < x.toInt) (ho : offs[(x.toInt - lo).toNat]? = some off) (ht : (pc : Int) + off = (tgt : Int)) (kk : SW Y k n h tgt ls st) : SW Y k n h pc ls (.int x :: st) := fun ρ ow H locs cells slots lsA r => lv_tableIn O.1 O.2.1 hd h1 h2 ho ht (kk ρ ow H locs cells slots lsA (r.to (xx_ht r.stk)))
theorem sw_ldc2 {idx : Nat} {v : Int64} (O : xx_O Y M l d) (hw : Cond.constantLong M.2.2.2.2.1 idx v ∈ xx_gws) (hd : decode M.2.1 pc = .ok (.ldc2_w idx, 3)) (kk : SW Y k n h (pc + 3) ls (.long v :: st)) : SW Y k n h pc ls st := fun ρ ow H locs cells slots lsA r => lv_ldc2 O.1 O.2.1 O.2.2.2.2.2.2.1 (O.2.2.2.2.2.1 _ hw) hd (kk ρ ow H locs cells slots lsA (r.to (xx_hc trivial r.stk)))
theorem sw_ldc {idx : Nat} {v : Int32} (O : xx_O Y M l d) (hw : Cond.constant M.2.2.2.2.1 idx v ∈ xx_gws) (hd : decode M.2.1 pc = .ok (.ldc idx, 2)) (kk : SW Y k n h (pc + 2) ls (.int v :: st)) : SW Y k n h pc ls st := fun ρ ow H locs cells slots lsA r => lv_ldc O.1 O.2.1 O.2.2.2.2.2.2.1 (O.2.2.2.2.2.1 _ hw) hd (kk ρ ow H locs cells slots lsA (r.to (xx_hc trivial r.stk)))
theorem sw_ldcw {idx : Nat} {v : Int32} (O : xx_O Y M l d) (hw : Cond.constant M.2.2.2.2.1 idx v ∈ xx_gws) (hd : decode M.2.1 pc = .ok (.ldc_w idx, 3)) (kk : SW Y k n h (pc + 3) ls (.int v :: st)) : SW Y k n h pc ls st := fun ρ ow H locs cells slots lsA r => lv_ldcw O.1 O.2.1 O.2.2.2.2.2.2.1 (O.2.2.2.2.2.1 _ hw) hd (kk ρ ow H locs cells slots lsA (r.to (xx_hc trivial r.stk)))
end
end
section
/-! ===== fields and arrays ===== -/
/-- a class of the list, by its place: its fields' words are among the tables' -/
def xx_cl (ci : Nat) (C : String) (T : u_T) (N : Nat) (ty : Nat → FieldType) : Prop :=
  ci < 100 ∧ vwCl[ci]? = some (C, T, N) ∧ (∀ w ∈ u_ws C T N, w ∈ xx_gws) ∧ (∀ k, k < N → parseFieldDescriptor (T k).2.2.1 = some (ty k)) ∧ ∀ a, a < N → ∀ b, b < N → a ≠ b → (T a).2.1 ≠ (T b).2.1
/-- a field's entry in a class's pool -/
def xx_fl (own : String) (idx : Nat) (C : String) (T : u_T) (kf : Nat) : Prop :=
  (Cond.fieldLink own idx C (T kf).2.1 (T kf).2.2.1 ∈ xx_gws ∨ ∃ host, Cond.fieldLinkNest own idx C (T kf).2.1 (T kf).2.2.1 host ∈ xx_nws) ∧ (T kf).1 = C
def xx_ok (ty : FieldType) (v : Value) : Prop := ∀ ρ : Nat → Nat, narrow ty (xx_v ρ v) = xx_v ρ v ∧ fits ty (xx_v ρ v) = true
section
variable {Y : XY} {M : XM} {l : Launch} {d k n : Nat} {h : XH} {pc : Nat} {ls st : List Value} {ρ : Nat → Nat} {ow : Nat → Option Nat} {H : Heap} {locs : List Loc} {cells slots : Nat} {lsA : Array Slot}
theorem xx_R.obj {ls' st' : List Value} {ci N r : Nat} {f : Nat → Value} {C : String} {T : u_T} {ty : Nat → FieldType} (r9 : xx_R Y k n h ls' st' ρ ow H locs cells slots lsA) (O : xx_O Y M l d) (K : xx_cl ci C T N ty) (hc : h r = some (ci, N, f)) :
    (∃ cell : Cell, H[ρ r]? = some cell ∧ cell.cls = (xd_G (xy_D Y)).1 ci ∧ (cell.vm.isStatics = false ∧ cell.vm ≠ .unknown ∧ (1000 ≤ r → cell.vm = .none)) ∧ ∀ k, k < N → (r < 1000 → ci = 0 → k < 2) → cell.slots[(xd_G (xy_D Y)).2 ci k]? = some (xx_v ρ (f k))) ∧ u_Kn (xt_s Y.1) C T N ((xd_G (xy_D Y)).1 ci) ((xd_G (xy_D Y)).2 ci) := by
  have h1 := (r9.1.2.2.2.1 r _ hc).2
  have hK := O.2.2.2.2.2.2.2.1
  have e4 : (xd_cl (xy_D Y))[ci]? = some (C, T, N) := by rw [hK.1]; exact K.2.1
  refine ⟨?_, hK.2.1.1.1 ci _ e4⟩
  by_cases hlo : r < 1000
  · have h1 := h1.1 hlo
    unfold xx_oldc at h1
    rw [if_pos K.1] at h1
    obtain ⟨q, cell, e1, e2, e3, e5, e6, e7⟩ := h1
    cases Option.some.inj (e1.symm.trans e4)
    exact ⟨cell, e3, e5, ⟨e6.1, e6.2, fun q => absurd q (Nat.not_le.mpr hlo)⟩, fun k hk h0 => e7 k hk (h0 hlo)⟩
  · have h1 := h1.2 (Nat.not_lt.mp hlo)
    unfold xx_newc at h1
    rw [if_pos K.1] at h1
    obtain ⟨q, e1, e2, cell, e3, e5, e6, e7⟩ := h1
    cases Option.some.inj (e1.symm.trans e4)
    exact ⟨cell, e3, e5, ⟨by rw [e6]; rfl, (by rw [e6]; exact fun q => by cases q), fun _ => e6⟩, fun k hk _ => e7 k hk⟩
theorem sw_get {idx ci N r kf : Nat} {f : Nat → Value} {C : String} {T : u_T} {ty : Nat → FieldType} (O : xx_O Y M l d) (hd : decode M.2.1 pc = .ok (.getfield idx, 3)) (K : xx_cl ci C T N ty) (F : xx_fl M.2.2.2.2.1 idx C T kf) (hc : h r = some (ci, N, f)) (hk : kf < N)
    {v : Value} (hv : f kf = v) (kk : SW Y k n h (pc + 3) ls (v :: st)) (hlo : r < 1000 → ci = 0 → kf < 2 := by first | exact fun _ q => absurd q (by decide) | exact fun _ _ => (by decide) | omega) : SW Y k n h pc ls (.ref r :: st) := by
  subst hv
  intro ρ ow H locs cells slots lsA r9
  obtain ⟨⟨cell, q1, q2, q3, q4⟩, hS, hfc, kC, hkC, hkind⟩ := r9.obj O K hc
  obtain ⟨cf, kF, fi, fd, hi, hsl⟩ := hS kf hk
  have hst := (u_facts hfc hkC (u_lays O.2.2.2.2.2.1 K.2.2.1 hk) hi).1
  have hv : cell.slots[fd.slot]? = some (xx_v ρ (f kf)) := by rw [hsl]; exact q4 kf hk hlo
  have kk' := kk ρ ow H locs cells slots lsA (r9.to (xx_hc (r9.1.2.2.2.2 r _ kf hc hk) (xx_ht r9.stk)))
  rw [F.2] at hi
  rcases F.1 with w | ⟨host, w⟩
  · exact W.getf O.1 O.2.1 O.2.2.2.2.2.2.1 (O.2.2.2.2.2.1 _ w) hi hst q1 q3.2.1 hv rfl rfl hd kk'
  · exact va_Wgetf O.1 O.2.1 O.2.2.2.2.2.2.1 (va_Nw.use rfl (O.2.2.2.2.2.2.2.2.1.1 _ w)) hi hst q1 q3.2.1 hv rfl rfl hd kk'
theorem xx_locs {r k9 : Nat} (r9 : xx_R Y k n h ls st ρ ow H locs cells slots lsA) {c : XC} (hc : h r = some c) (h1 : 1000 ≤ r) : ow (ρ r) = some r ∧ ∀ z ∈ locs ++ [⟨ρ r, k9⟩], (xd_H (xy_D Y)).size ≤ z.base := by
  have e : ow (ρ r) = some r := by
    rcases (r9.1.2.2.2.1 r c hc).1 with h2 | h2
    · omega
    · exact h2.2
  refine ⟨e, fun z hz => ?_⟩
  rcases List.mem_append.mp hz with h3 | h3
  · exact r9.2.2.1 z h3
  · rw [List.mem_singleton.mp h3]
    exact (r9.1.2.2.1 _ _ e).1
/-- behind a write into the cell r -/
theorem xx_R.put {r k9 : Nat} {c c' : XC} {st' : List Value} {H1 : Heap} (r9 : xx_R Y k n h ls st ρ ow H locs cells slots lsA) (hc : h r = some c) (h1 : 1000 ≤ r) (z : H1.size = H.size) (o : ∀ a, a ≠ ρ r → H1[a]? = H[a]?)
    (hcell : xx_cell (xy_D Y) ρ ow r c' H1) (hin : ∀ j, j < c'.2.1 → xx_in h (c'.2.2 j)) (hs : ∀ v ∈ st', xx_in h v) : xx_R Y k n (xx_up h r c') ls st' ρ ow H1 (locs ++ [⟨ρ r, k9⟩]) cells slots lsA := by
  obtain ⟨e, hl⟩ := xx_locs (k9 := k9) r9 hc h1
  refine ⟨r9.1.put hc h1 z (fun a ha => o a (fun q => ha (by rw [q]; exact e))) hcell hin, fun q hq => ⟨?_, (r9.2.1 q hq).2⟩, hl, r9.2.2.2.1, r9.2.2.2.2.1, r9.L, fun v hv => xx_in_up (r9.lcl v hv), fun v hv => xx_in_up (hs v hv)⟩
  unfold xx_up
  split
  · rfl
  · exact (r9.2.1 q hq).1
theorem xx_put_cell {D : XD} {ci N r kf : Nat} {f : Nat → Value} {v : Value} {C : String} {T : u_T} {H1 : Heap} {cell : Cell} {sl : Nat} (hD : (xd_cl D)[ci]? = some (C, T, N)) (hci : ci < 100) (hk : kf < N) (h1 : 1000 ≤ r)
    (hap : ∀ x y, x < N → y < N → x ≠ y → (xd_G D).2 ci x ≠ (xd_G D).2 ci y) (q2 : cell.cls = (xd_G D).1 ci) (q3 : cell.vm = .none) (q4 : ∀ k, k < N → cell.slots[(xd_G D).2 ci k]? = some (xx_v ρ (f k))) (hsl : sl = (xd_G D).2 ci kf) (e1 : H1[ρ r]? = some (cell.setSlot sl (xx_v ρ v))) :
    xx_cell D ρ ow r (ci, N, updV f kf v) H1 := by
  refine xx_cell.mk h1 ?_
  unfold xx_newc
  rw [if_pos hci]
  refine ⟨(C, T, N), hD, rfl, _, e1, q2, q3, fun j hj => ?_⟩
  rw [hsl]
  by_cases e : j = kf
  · subst e
    have hlt := k2_hasslot (q4 j hj)
    simp [Cell.setSlot, updV, hlt]
  · rw [show (cell.setSlot ((xd_G D).2 ci kf) (xx_v ρ v)).slots[(xd_G D).2 ci j]? = cell.slots[(xd_G D).2 ci j]? from slot_ne cell _ (fun q => hap j kf hj hk e q.symm)]
    rw [q4 j hj]
    simp [updV, e]
theorem sw_put {idx ci N r kf : Nat} {f : Nat → Value} {v : Value} {C : String} {T : u_T} {ty : Nat → FieldType} (O : xx_O Y M l d) (hd : decode M.2.1 pc = .ok (.putfield idx, 3)) (K : xx_cl ci C T N ty) (F : xx_fl M.2.2.2.2.1 idx C T kf) (hc : h r = some (ci, N, f)) (hk : kf < N) (h1 : 1000 ≤ r) (hfin : (T kf).2.2.2 = false) (hok : xx_ok (ty kf) v)
    {h2 : XH} (he : xx_up h r (ci, N, updV f kf v) = h2) (kk : SW Y k n h2 (pc + 3) ls st) : SW Y k n h pc ls (v :: .ref r :: st) := by
  subst he
  intro ρ ow H locs cells slots lsA r9
  obtain ⟨⟨cell, q1, q2, ⟨-, -, q3⟩, q4⟩, hS, hfc, kC, hkC, hkind⟩ := r9.obj O K hc
  have q3 := q3 h1
  have q4 := fun k hk => q4 k hk (fun q => absurd h1 (Nat.not_le.mpr q))
  have hKK := O.2.2.2.2.2.2.2.1
  have hcl : (xd_cl (xy_D Y))[ci]? = some (C, T, N) := by rw [hKK.1]; exact K.2.1
  have hap := va_apart (own := M.2.2.2.2.1) O.2.2.2.2.2.1 K.2.2.1 ty K.2.2.2.1 K.2.2.2.2 hKK.2.1.1 hcl
  obtain ⟨cf, kF, fi, fd, hi, hsl⟩ := hS kf hk
  have hlay := O.2.2.2.2.2.1 _ (K.2.2.1 _ (u_in_lay hk))
  unfold u_lay at hlay
  rw [if_neg (by rw [hfin]; decide)] at hlay
  have hst := (u_facts hfc hkC (u_lays O.2.2.2.2.2.1 K.2.2.1 hk) hi).1
  have h6 := u_store hfc hkC hkind hlay hi (K.2.2.2.1 kf hk) (hok ρ).1 (hok ρ).2
  have hlt : fd.slot < cell.slots.size := by rw [hsl]; exact k2_hasslot (q4 kf hk)
  have go : ∀ H' : Heap, H'[ρ r]? = some (cell.setSlot fd.slot (xx_v ρ v)) → H'.size = H.size → (∀ q, q ≠ ρ r → H'[q]? = H[q]?) → xx_W Y H' (locs ++ [⟨ρ r, fd.slot⟩]) cells slots (F0 (xt_m Y.1) (pc + 3) lsA (st.map (xx_v ρ))) := by
    intro H' e1 e2 e3
    refine kk ρ ow H' _ cells slots lsA (r9.put hc h1 e2 e3 (xx_put_cell hcl K.1 hk h1 hap q2 q3 q4 hsl e1) (fun j hj => ?_) (xx_ht (xx_ht r9.stk)))
    show xx_in h (updV f kf v j)
    unfold updV
    split
    · exact xx_h0 r9.stk
    · exact r9.1.2.2.2.2 r _ j hc hj
  rw [F.2] at hi
  rcases F.1 with w | ⟨host, w⟩
  · exact W.putK O.1 O.2.1 (f := fd) ⟨O.2.2.2.2.2.2.1, O.2.2.2.2.2.1 _ w, ⟨_, _, _, hi⟩, hst⟩ (by rw [q2]; exact h6) q1 q3 hlt rfl rfl hd go
  · exact va_WputK O.1 O.2.1 (f := fd) O.2.2.2.2.2.2.1 (va_Nw.use rfl (O.2.2.2.2.2.2.2.2.1.1 _ w)) hi hst (by rw [q2]; exact h6) q1 q3 hlt rfl rfl hd go
/-- a final field, in the constructor -/
theorem sw_putF {idx ci N r kf : Nat} {f : Nat → Value} {v : Value} {C : String} {T : u_T} {ty : Nat → FieldType} (O : xx_O Y M l d) (hd : decode M.2.1 pc = .ok (.putfield idx, 3)) (K : xx_cl ci C T N ty) (F : Cond.fieldLink M.2.2.2.2.1 idx C (T kf).2.1 (T kf).2.2.1 ∈ xx_gws ∧ (T kf).1 = C ∧ C = M.2.2.2.2.1) (hc : h r = some (ci, N, f)) (hk : kf < N) (h1 : 1000 ≤ r) (hfin : (T kf).2.2.2 = true) (hin2 : M.1.name = "<init>") (hok : xx_ok (ty kf) v)
    {h2 : XH} (he : xx_up h r (ci, N, updV f kf v) = h2) (kk : SW Y k n h2 (pc + 3) ls st) : SW Y k n h pc ls (v :: .ref r :: st) := by
  subst he
  intro ρ ow H locs cells slots lsA r9
  obtain ⟨⟨cell, q1, q2, ⟨-, -, q3⟩, q4⟩, hS, hfc, kC, hkC, hkind⟩ := r9.obj O K hc
  have q3 := q3 h1
  have q4 := fun k hk => q4 k hk (fun q => absurd h1 (Nat.not_le.mpr q))
  have hKK := O.2.2.2.2.2.2.2.1
  have hcl : (xd_cl (xy_D Y))[ci]? = some (C, T, N) := by rw [hKK.1]; exact K.2.1
  have hap := va_apart (own := M.2.2.2.2.1) O.2.2.2.2.2.1 K.2.2.1 ty K.2.2.2.1 K.2.2.2.2 hKK.2.1.1 hcl
  obtain ⟨cf, kF, fi, fd, hi, hsl⟩ := hS kf hk
  have hlay := O.2.2.2.2.2.1 _ (K.2.2.1 _ (u_in_lay hk))
  unfold u_lay at hlay
  rw [if_pos hfin] at hlay
  have hst := (u_facts hfc hkC (u_lays O.2.2.2.2.2.1 K.2.2.1 hk) hi).1
  have hcf : (xt_m Y.1).cls = cf := by
    obtain ⟨_, _, c', _, _, _, -, -, hf', -, -, -, hown2, -⟩ := Cond.laysFinal_spec hlay
    have e1 : c' = cf := by have := hi.symm.trans hf'; simp at this; exact this.1.symm
    rw [F.2.1, F.2.2] at hown2
    rw [← e1]; exact Option.some.inj (O.2.2.2.2.2.2.1.symm.trans hown2)
  have h6 := u_fits hfc hkC hkind (Or.inr hlay) hi (K.2.2.2.1 kf hk) (hok ρ).1 (hok ρ).2
  have hlt : fd.slot < cell.slots.size := by rw [hsl]; exact k2_hasslot (q4 kf hk)
  have go : ∀ H' : Heap, H'[ρ r]? = some (cell.setSlot fd.slot (xx_v ρ v)) → H'.size = H.size → (∀ q, q ≠ ρ r → H'[q]? = H[q]?) → xx_W Y H' (locs ++ [⟨ρ r, fd.slot⟩]) cells slots (F0 (xt_m Y.1) (pc + 3) lsA (st.map (xx_v ρ))) := by
    intro H' e1 e2 e3
    refine kk ρ ow H' _ cells slots lsA (r9.put hc h1 e2 e3 (xx_put_cell hcl K.1 hk h1 hap q2 q3 q4 hsl e1) (fun j hj => ?_) (xx_ht (xx_ht r9.stk)))
    show xx_in h (updV f kf v j)
    unfold updV
    split
    · exact xx_h0 r9.stk
    · exact r9.1.2.2.2.2 r _ j hc hj
  rw [F.2.1] at hi
  exact W.putFinK O.1 O.2.1 O.2.2.2.2.2.2.1 (O.2.2.2.2.2.1 _ F.1) hi hst hcf (O.2.2.2.2.2.2.2.2.2.2.1.trans hin2) (by rw [q2]; exact h6) q1 q3 hlt rfl rfl hd go
/-! arrays -/
theorem xx_R.arr {ls' st' : List Value} {t N r : Nat} {f : Nat → Value} (r9 : xx_R Y k n h ls' st' ρ ow H locs cells slots lsA) (O : xx_O Y M l d) (t1 : 100 ≤ t) (t2 : t < 106) (hc : h r = some (t, N, f)) (hnew : 1000 ≤ r) :
    H[ρ r]? = some (arrV (xd_A (xy_D Y) t) N (fun k => xx_v ρ (f k))) ∧ (xt_s Y.1).isArrayOf (arrV (xd_A (xy_D Y) t) N (fun k => xx_v ρ (f k))) (xx_aty t) := by
  have h1 := (r9.1.2.2.2.1 r _ hc).2.2 hnew
  unfold xx_newc at h1
  rw [if_neg (by show ¬ t < 100; omega), if_pos (by show t < 200; omega)] at h1
  exact ⟨h1, (O.2.2.2.2.2.2.2.1.2.2 t t1 t2).1 _ _⟩
/-- an array as reading needs it, new or old -/
theorem xx_R.arrW {ls' st' : List Value} {t N r : Nat} {f : Nat → Value} (r9 : xx_R Y k n h ls' st' ρ ow H locs cells slots lsA) (O : xx_O Y M l d) (t1 : 100 ≤ t) (t2 : t < 106) (hc : h r = some (t, N, f)) :
    ∃ cell : Cell, H[ρ r]? = some cell ∧ (xt_s Y.1).isArrayOf cell (xx_aty t) ∧ cell.vm ≠ .unknown ∧ N ≤ cell.slots.size ∧ cell.slots.size.toInt32 = Int32.ofNat N ∧ ∀ j, j < N → cell.slots[j]? = some (xx_v ρ (f j)) := by
  by_cases hlo : r < 1000
  · obtain ⟨h0, h1⟩ := r9.1.2.2.2.1 r _ hc
    have h1 := h1.1 hlo
    unfold xx_oldc at h1
    rw [if_neg (by show ¬ t < 100; omega), if_pos (by show t < 200; omega)] at h1
    obtain ⟨e0, cell, e1, e2, e3, e4, e5⟩ := h1
    obtain ⟨cell2, g1, g2⟩ := O.2.2.2.2.2.2.2.1.2.1.2.2.2.2.2.2.2 r t e0
    have hE : ρ r < (xd_H (xy_D Y)).size ∧ ρ r = xd_E (xy_D Y) r := by
      rcases h0 with ⟨-, z⟩ | ⟨z, -⟩
      · exact ⟨z.1 (by show t < 300; omega), z.2⟩
      · omega
    rw [← hE.2, ← r9.1.2.1 _ hE.1] at g1
    cases Option.some.inj (e1.symm.trans g1)
    exact ⟨cell, e1, g2, e2, e3, e4, e5⟩
  · obtain ⟨q1, q2⟩ := r9.arr O t1 t2 hc (Nat.not_lt.mp hlo)
    exact ⟨_, q1, q2, (fun q => by cases q), Nat.le_of_eq (arrV_size _ _ _).symm, congrArg Nat.toInt32 (arrV_size _ _ _), fun j hj => arrV_read _ _ hj⟩
theorem xx_vpin2 {i : Int32} {N S : Nat} (hin : vp_in i N) (hS : N ≤ S) : ¬ (i < 0 ∨ S ≤ i.toNatClampNeg) ∧ i.toNatClampNeg < N := by
  have h2 : i.toNatClampNeg < N := Nat.not_le.mp fun q => hin (Or.inr q)
  exact ⟨fun q => hin (q.imp id (fun z => Nat.le_trans hS z)), h2⟩
theorem xx_vpin {i : Int32} {N : Nat} {cA : ClassId} {f : Nat → Value} (hin : vp_in i N) : ¬ (i < 0 ∨ (arrV cA N f).slots.size ≤ i.toNatClampNeg) ∧ i.toNatClampNeg < N := by
  rw [arrV_size]
  exact ⟨hin, Nat.not_le.mp fun q => hin (Or.inr q)⟩
theorem sw_iaload {N r : Nat} {f : Nat → Value} {i : Int32} (O : xx_O Y M l d) (hd : decode M.2.1 pc = .ok (.iaload, 1)) (hc : h r = some (100, N, f)) (hin : vp_in i N) {v : Value} (hv : f i.toNatClampNeg = v) (kk : SW Y k n h (pc + 1) ls (v :: st)) : SW Y k n h pc ls (.int i :: .ref r :: st) := by
  subst hv
  intro ρ ow H locs cells slots lsA r9
  obtain ⟨cell, q1, q2, q3, q4, q5, q6⟩ := r9.arrW O (by omega) (by omega) hc
  obtain ⟨i1, i2⟩ := xx_vpin2 hin q4
  exact W.iald O.1 O.2.1 q1 q2 q3 i1 (q6 _ i2) rfl rfl hd (kk ρ ow H locs cells slots lsA (r9.to (xx_hc (r9.1.2.2.2.2 r _ _ hc i2) (xx_ht (xx_ht r9.stk)))))
theorem sw_zaload {N r : Nat} {f : Nat → Value} {i : Int32} (O : xx_O Y M l d) (hd : decode M.2.1 pc = .ok (.baload, 1)) (hc : h r = some (101, N, f)) (hin : vp_in i N) {v : Value} (hv : f i.toNatClampNeg = v) (kk : SW Y k n h (pc + 1) ls (v :: st)) : SW Y k n h pc ls (.int i :: .ref r :: st) := by
  subst hv
  intro ρ ow H locs cells slots lsA r9
  obtain ⟨cell, q1, q2, q3, q4, q5, q6⟩ := r9.arrW O (by omega) (by omega) hc
  obtain ⟨i1, i2⟩ := xx_vpin2 hin q4
  exact W.zald O.1 O.2.1 q1 q2 q3 i1 (q6 _ i2) rfl rfl hd (kk ρ ow H locs cells slots lsA (r9.to (xx_hc (r9.1.2.2.2.2 r _ _ hc i2) (xx_ht (xx_ht r9.stk)))))
theorem sw_aaload {t N r : Nat} {f : Nat → Value} {i : Int32} (O : xx_O Y M l d) (hd : decode M.2.1 pc = .ok (.aaload, 1)) (t1 : 103 ≤ t) (t2 : t < 106) (hc : h r = some (t, N, f)) (hin : vp_in i N) {v : Value} (hv : f i.toNatClampNeg = v) (kk : SW Y k n h (pc + 1) ls (v :: st)) : SW Y k n h pc ls (.int i :: .ref r :: st) := by
  subst hv
  intro ρ ow H locs cells slots lsA r9
  obtain ⟨cell, q1, q2, q3, q4, q5, q6⟩ := r9.arrW O (by omega) t2 hc
  obtain ⟨i1, i2⟩ := xx_vpin2 hin q4
  have hr : (xx_aty t).isReference = true := by
    rcases (show t = 103 ∨ t = 104 ∨ t = 105 by omega) with rfl | rfl | rfl <;> rfl
  exact W.aald O.1 O.2.1 q1 q2 hr q3 i1 (q6 _ i2) rfl rfl hd (kk ρ ow H locs cells slots lsA (r9.to (xx_hc (r9.1.2.2.2.2 r _ _ hc i2) (xx_ht (xx_ht r9.stk)))))
theorem sw_alen {t N r : Nat} {f : Nat → Value} (O : xx_O Y M l d) (hd : decode M.2.1 pc = .ok (.arraylength, 1)) (t1 : 100 ≤ t) (t2 : t < 106) (hc : h r = some (t, N, f)) (kk : SW Y k n h (pc + 1) ls (.int (nI N) :: st)) : SW Y k n h pc ls (.ref r :: st) := by
  intro ρ ow H locs cells slots lsA r9
  obtain ⟨cell, q1, q2, q3, q4, q5, q6⟩ := r9.arrW O t1 t2 hc
  exact W.alen O.1 O.2.1 q1 q2 q5 rfl rfl hd (kk ρ ow H locs cells slots lsA (r9.to (xx_hc (a := .int (nI N)) trivial (xx_ht r9.stk))))
theorem sw_iastore {N r : Nat} {f : Nat → Value} {i x : Int32} (O : xx_O Y M l d) (hd : decode M.2.1 pc = .ok (.iastore, 1)) (hc : h r = some (100, N, f)) (hin : vp_in i N) (h1 : 1000 ≤ r) {h2 : XH} (he : xx_up h r (100, N, updV f i.toNatClampNeg (.int x)) = h2) (kk : SW Y k n h2 (pc + 1) ls st) : SW Y k n h pc ls (.int x :: .int i :: .ref r :: st) := by
  subst he
  intro ρ ow H locs cells slots lsA r9
  obtain ⟨q1, q2⟩ := r9.arr O (by omega) (by omega) hc h1
  obtain ⟨i1, i2⟩ := xx_vpin (cA := xd_A (xy_D Y) 100) (f := fun k => xx_v ρ (f k)) hin
  refine W.iast O.1 O.2.1 q1 q2 (fun q => by cases q) i1 rfl rfl hd (fun H' e1 e2 e3 => kk ρ ow H' _ cells slots lsA (r9.put hc h1 e2 e3 ?_ (fun j hj => ?_) (xx_ht (xx_ht (xx_ht r9.stk)))))
  · refine xx_cell.mk h1 ?_
    unfold xx_newc
    rw [if_neg (by show ¬ 100 < 100; omega), if_pos (by show 100 < 200; omega)]
    rw [e1, arrV_store]
    refine congrArg some (xx_arr_eq fun j _ => ?_)
    show updV _ _ _ j = xx_v ρ (updV f _ _ j)
    unfold updV
    split <;> rfl
  · show xx_in h (updV f _ _ j)
    unfold updV
    split
    · exact trivial
    · exact r9.1.2.2.2.2 r _ j hc hj
theorem sw_zastore {N r : Nat} {f : Nat → Value} {i x : Int32} (O : xx_O Y M l d) (hd : decode M.2.1 pc = .ok (.bastore, 1)) (hc : h r = some (101, N, f)) (hin : vp_in i N) (h1 : 1000 ≤ r) (hx : narrow .boolean (.int x) = .int x) {h2 : XH} (he : xx_up h r (101, N, updV f i.toNatClampNeg (.int x)) = h2) (kk : SW Y k n h2 (pc + 1) ls st) : SW Y k n h pc ls (.int x :: .int i :: .ref r :: st) := by
  subst he
  intro ρ ow H locs cells slots lsA r9
  obtain ⟨q1, q2⟩ := r9.arr O (by omega) (by omega) hc h1
  obtain ⟨i1, i2⟩ := xx_vpin (cA := xd_A (xy_D Y) 101) (f := fun k => xx_v ρ (f k)) hin
  refine W.zast O.1 O.2.1 q1 q2 (fun q => by cases q) i1 rfl rfl hd (fun H' e1 e2 e3 => kk ρ ow H' _ cells slots lsA (r9.put hc h1 e2 e3 ?_ (fun j hj => ?_) (xx_ht (xx_ht (xx_ht r9.stk)))))
  · refine xx_cell.mk h1 ?_
    unfold xx_newc
    rw [if_neg (by show ¬ 101 < 100; omega), if_pos (by show 101 < 200; omega)]
    rw [hx] at e1
    rw [e1, arrV_store]
    refine congrArg some (xx_arr_eq fun j _ => ?_)
    show updV _ _ _ j = xx_v ρ (updV f _ _ j)
    unfold updV
    split <;> rfl
  · show xx_in h (updV f _ _ j)
    unfold updV
    split
    · exact trivial
    · exact r9.1.2.2.2.2 r _ j hc hj
end
end
section
/-! ===== System.arraycopy of ints ===== -/
section
variable {Y : XY} {M : XM} {l : Launch} {d k n : Nat} {h : XH} {pc : Nat} {ls st : List Value} {ρ : Nat → Nat} {ow : Nat → Option Nat} {H : Heap} {locs : List Loc} {cells slots : Nat} {lsA : Array Slot}
theorem xx_R.putL {r : Nat} {c c' : XC} {st' : List Value} {H1 : Heap} {locs2 : List Loc} (r9 : xx_R Y k n h ls st ρ ow H locs cells slots lsA) (hc : h r = some c) (h1 : 1000 ≤ r) (z : H1.size = H.size) (o : ∀ a, a ≠ ρ r → H1[a]? = H[a]?) (hlc : ∀ q ∈ locs2, q ∈ locs ∨ q.base = ρ r)
    (hcell : xx_cell (xy_D Y) ρ ow r c' H1) (hin : ∀ j, j < c'.2.1 → xx_in h (c'.2.2 j)) (hs : ∀ v ∈ st', xx_in h v) : xx_R Y k n (xx_up h r c') ls st' ρ ow H1 locs2 cells slots lsA := by
  obtain ⟨e, hl⟩ := xx_locs (k9 := 0) r9 hc h1
  refine ⟨r9.1.put hc h1 z (fun a ha => o a (fun q => ha (by rw [q]; exact e))) hcell hin, fun q hq => ⟨?_, (r9.2.1 q hq).2⟩, fun q hq => ?_, r9.2.2.2.1, r9.2.2.2.2.1, r9.L, fun v hv => xx_in_up (r9.lcl v hv), fun v hv => xx_in_up (hs v hv)⟩
  · unfold xx_up
    split
    · rfl
    · exact (r9.2.1 q hq).1
  · rcases hlc q hq with h3 | h3
    · exact r9.2.2.1 q h3
    · rw [h3]
      exact (r9.1.2.2.1 _ _ e).1
def xx_ac (own : String) (idx : Nat) : Prop := Cond.methodLink own idx arraycopyName ∈ xx_gws ∧ Cond.native arraycopyName ∈ xx_gws ∧ Cond.static arraycopyName ∈ xx_gws ∧ Cond.initialized "java/lang/System" ∈ xx_gws
theorem sw_copy {idx N0 N1 r0 r1 : Nat} {f g : Nat → Int32} {sp dp n9 : Int32} (O : xx_O Y M l d) (K : xx_ac M.2.2.2.2.1 idx) (hd : decode M.2.1 pc = .ok (.invokestatic idx, 3)) (hc0 : h r0 = some (100, N0, fun k => .int (f k))) (hc1 : h r1 = some (100, N1, fun k => .int (g k))) (h9 : 1000 ≤ r1) (h1 : ¬ sp < 0) (h2 : ¬ dp < 0) (h3 : ¬ n9 < 0) (h4 : sp.toNatClampNeg + n9.toNatClampNeg ≤ N0) (h5 : dp.toNatClampNeg + n9.toNatClampNeg ≤ N1)
    (hdd : 1 ≤ d) (hw : (st.map fun v => v.category).sum + (nativeFrameWords "java/lang/System" "arraycopy" 5 + 11) ≤ 40) {h2' : XH} (he : xx_up h r1 (100, N1, fun j => .int (va_cpy f g sp.toNatClampNeg dp.toNatClampNeg n9.toNatClampNeg j)) = h2') (kk : SW Y k n h2' (pc + 3) ls st) (hs0 : 1000 ≤ r0 := by omega) : SW Y k n h pc ls (.int n9 :: .int dp :: .ref r1 :: .int sp :: .ref r0 :: st) := by
  subst he
  intro ρ ow H locs cells slots lsA r9
  have nn : ∀ z : Int32, ¬ z < 0 → z.toInt = (z.toNatClampNeg : Int) := by
    intro z hz
    have hz0 : (0 : Int) ≤ z.toInt := by
      have := Int32.not_lt.mp hz
      simpa using Int32.le_iff_toInt_le.mp this
    show z.toInt = ((z.toInt.toNat : Nat) : Int)
    omega
  have hcat : ((st.map (xx_v ρ)).map fun v => v.category).sum = (st.map fun v => v.category).sum := by
    rw [List.map_map]
    refine congrArg List.sum (List.map_congr_left fun v _ => ?_)
    exact xx_v_cat ρ v
  obtain ⟨hK0, -⟩ := O.2.2.2.2.2.2.2.1.2.2 100 (by omega) (by omega)
  obtain ⟨q0, -⟩ := r9.arr O (by omega) (by omega) hc0 hs0
  obtain ⟨q1, -⟩ := r9.arr O (by omega) (by omega) hc1 h9
  generalize hcA : xd_A (xy_D Y) 100 = cA at hK0 q0 q1
  have q0' : H[ρ r0]? = some (vp_cell cA (N0, .inl f)) := q0
  have q1' : H[ρ r1]? = some (vp_cell cA (N1, .inl g)) := q1
  obtain ⟨-, k0, hk0, cm0, hkk0⟩ := hK0 N0 (fun j => .int (f j))
  obtain ⟨-, k1, hk1, cm1, hkk1⟩ := hK0 N1 (fun j => .int (g j))
  have hgw := O.2.2.2.2.2.1
  intro T hT X
  obtain ⟨vm', X', step⟩ := X.arraycopy O.1 O.2.2.2.2.2.2.1 (hgw _ K.1) (hgw _ K.2.1) (hgw _ K.2.2.1) (hgw _ K.2.2.2) (src := ρ r0) (dst := ρ r1) (cs := vp_cell cA (N0, .inl f)) (cd := vp_cell cA (N1, .inl g)) (srcPos := sp) (destPos := dp) (n := n9) (by rw [hT]; exact q0') (by rw [hT]; exact q1')
    (fun _ h => by cases h) (fun _ h => by cases h) (fun h => by cases h) (fun h => by cases h) hk0 hk1 hkk0 hkk1 (by simp [xx_aty, refKind]) h1 h2 h3
    (by rw [nn sp h1, nn n9 h3]; show ¬ _ > ((arrV cA N0 (fun j => .int (f j))).slots.size : Int); rw [arrV_size]; omega)
    (by rw [nn dp h2, nn n9 h3]; show ¬ _ > ((arrV cA N1 (fun j => .int (g j))).slots.size : Int); rw [arrV_size]; omega)
    (fun vm₁ _ i hi => by
      have e : (vp_cell cA (N0, .inl f)).slots.getD (sp.toNatClampNeg + i) .null = .int (f (sp.toNatClampNeg + i)) := by
        show (arrV cA N0 (fun j => .int (f j))).slots.getD _ _ = _
        rw [Array.getD_eq_getD_getElem?, arrV_read _ _ (by omega)]
        rfl
      refine ⟨?_, ?_⟩
      · rw [e]
        rfl
      · rw [e]
        exact trivial)
    (g := F0 (xt_m Y.1) pc lsA (.int n9 :: .int dp :: .ref (ρ r1) :: .int sp :: .ref (ρ r0) :: st.map (xx_v ρ))) rfl (by show lsA.size = _; exact r9.L.1) (rest := st.map (xx_v ρ)) rfl (by rw [O.2.1]; exact hd) (by exact Nat.le_trans hdd O.2.2.2.2.2.2.2.2.2.2.2.2.1) (by show 2 * 0 + _ + _ ≤ _; rw [hcat]; have h9 := O.2.2.2.2.2.2.2.2.2.2.2.2.2.1; omega)
  have e1 : copied (vp_cell cA (N0, .inl f)) (vp_cell cA (N1, .inl g)) sp dp n9 = vp_cell cA (N1, .inl (va_cpy f g sp.toNatClampNeg dp.toNatClampNeg n9.toNatClampNeg)) := va_copied (fun z => .int z) cA cA f g h4
  rw [e1] at X' step
  have hl : ρ r1 < H.size := (Array.getElem?_eq_some_iff.mp q1').1
  have hheap : ((T.setVm vm').setCell (ρ r1) (vp_cell cA (N1, .inl (va_cpy f g sp.toNatClampNeg dp.toNatClampNeg n9.toNatClampNeg)))).heap = H.setIfInBounds (ρ r1) (vp_cell cA (N1, .inl (va_cpy f g sp.toNatClampNeg dp.toNatClampNeg n9.toNatClampNeg))) := by rw [← hT]; rfl
  have oq : ∀ q : Nat, q ≠ ρ r1 → (H.setIfInBounds (ρ r1) (vp_cell cA (N1, .inl (va_cpy f g sp.toNatClampNeg dp.toNatClampNeg n9.toNatClampNeg))))[q]? = H[q]? := fun q hq => by simp [Array.getElem?_setIfInBounds, Ne.symm hq]
  have oe : (H.setIfInBounds (ρ r1) (vp_cell cA (N1, .inl (va_cpy f g sp.toNatClampNeg dp.toNatClampNeg n9.toNatClampNeg))))[ρ r1]? = some (vp_cell cA (N1, .inl (va_cpy f g sp.toNatClampNeg dp.toNatClampNeg n9.toNatClampNeg))) := by simp [Array.getElem?_setIfInBounds, hl]
  obtain ⟨t, a1, b1⟩ := kk ρ ow _ _ cells slots lsA (r9.putL hc1 h9 (by simp) oq (fun q hq => by
      rcases List.mem_append.mp hq with h | h
      · exact .inl h
      · obtain ⟨z, -, hz⟩ := List.mem_map.mp h
        exact .inr (by rw [← hz])) (by
      refine xx_cell.mk h9 ?_
      unfold xx_newc
      rw [if_neg (by show ¬ 100 < 100; omega), if_pos (by show 100 < 200; omega)]
      rw [show xd_A (xy_D Y) (100, N1, fun j => Value.int (va_cpy f g sp.toNatClampNeg dp.toNatClampNeg n9.toNatClampNeg j)).1 = cA from hcA]
      exact oe) (fun j _ => trivial) (xx_ht (xx_ht (xx_ht (xx_ht (xx_ht r9.stk)))))) _ hheap X'
  exact ⟨t, step t a1, b1⟩
end
end
section
/-! ===== cells are made ===== -/
def xx_blk (h : XH) (r0 N : Nat) (c : Nat → XC) : XH := fun q => if r0 ≤ q ∧ q < r0 + N then some (c (q - r0)) else h q
def xx_ρn (ρ : Nat → Nat) (r0 N z : Nat) : Nat → Nat := fun q => if r0 ≤ q ∧ q < r0 + N then z + (q - r0) else ρ q
def xx_own (ow : Nat → Option Nat) (r0 z : Nat) : Nat → Option Nat := fun a => if z ≤ a then some (r0 + (a - z)) else ow a
theorem xx_blk_in {h : XH} {r0 N i : Nat} {c : Nat → XC} (hi : i < N) : xx_blk h r0 N c (r0 + i) = some (c i) := by
  unfold xx_blk
  rw [if_pos ⟨by omega, by omega⟩, show r0 + i - r0 = i by omega]
theorem xx_blk_0 {h : XH} {r0 N : Nat} {c : Nat → XC} (hi : 0 < N) : xx_blk h r0 N c r0 = some (c 0) := by
  have := xx_blk_in (h := h) (r0 := r0) (c := c) hi
  exact this
theorem xx_blk_out {h : XH} {r0 N q : Nat} {c : Nat → XC} (hq : ¬ (r0 ≤ q ∧ q < r0 + N)) : xx_blk h r0 N c q = h q := if_neg hq
theorem xx_blk_some {h : XH} {r0 N q : Nat} {c : Nat → XC} (hf : ∀ i, i < N → h (r0 + i) = none) (hq : (h q).isSome = true) : ¬ (r0 ≤ q ∧ q < r0 + N) := fun e => by
  have := hf (q - r0) (by omega)
  rw [show r0 + (q - r0) = q by omega] at this
  rw [this] at hq
  cases hq
theorem xx_in_blk {h : XH} {r0 N : Nat} {c : Nat → XC} (hf : ∀ i, i < N → h (r0 + i) = none) {v : Value} (hv : xx_in h v) : xx_in (xx_blk h r0 N c) v := by
  cases v with
  | ref a =>
    show (xx_blk h r0 N c a).isSome = true
    rw [xx_blk_out (xx_blk_some (c := c) hf hv)]
    exact hv
  | _ => exact trivial
theorem xx_S.news {D : XD} {ρ : Nat → Nat} {ow : Nat → Option Nat} {h : XH} {H H1 : Heap} (S : xx_S D ρ ow h H) {r0 N : Nat} {c : Nat → XC} (hf : ∀ i, i < N → h (r0 + i) = none) (h1 : 1000 ≤ r0) (z : H1.size = H.size + N) (o : ∀ a, a < H.size → H1[a]? = H[a]?)
    (hc : ∀ i, i < N → xx_cell D (xx_ρn ρ r0 N H.size) (xx_own ow r0 H.size) (r0 + i) (c i) H1) (hin : ∀ i j, i < N → j < (c i).2.1 → xx_in (xx_blk h r0 N c) ((c i).2.2 j)) :
    xx_S D (xx_ρn ρ r0 N H.size) (fun a => if a < H.size + N then xx_own ow r0 H.size a else none) (xx_blk h r0 N c) H1 := by
  obtain ⟨s1, s2, s3, s4, s5⟩ := S
  have hρ : ∀ a, (h a).isSome = true → xx_ρn ρ r0 N H.size a = ρ a := fun a ha => if_neg (xx_blk_some (c := c) hf ha)
  refine ⟨by omega, fun a ha => by rw [o a (by omega)]; exact s2 a ha, fun a q e => ?_, fun q d hd => ?_, fun q d j hd hj => ?_⟩
  · by_cases e1 : a < H.size + N
    · simp only [e1, if_true] at e
      unfold xx_own at e
      split at e
      · omega
      · have := s3 a q e
        omega
    · simp [e1] at e
  · by_cases e : r0 ≤ q ∧ q < r0 + N
    · obtain ⟨i, rfl⟩ : ∃ i, q = r0 + i := ⟨q - r0, by omega⟩
      have hi : i < N := by omega
      rw [xx_blk_in hi] at hd
      cases hd
      have e2 : xx_ρn ρ r0 N H.size (r0 + i) = H.size + i := by
        unfold xx_ρn
        rw [if_pos e]
        omega
      refine ⟨Or.inr ⟨by omega, ?_⟩, (hc i hi).kept (fun _ a ha => rfl) |>.names rfl (fun a ha => ?_) (fun j _ => rfl)⟩
      · rw [e2]
        show (if H.size + i < H.size + N then xx_own ow r0 H.size (H.size + i) else none) = _
        rw [if_pos (by omega)]
        unfold xx_own
        rw [if_pos (by omega), show r0 + (H.size + i - H.size) = r0 + i by omega]
      · show (if a < H.size + N then xx_own ow r0 H.size a else none) = _
        by_cases e3 : a < H.size + N
        · rw [if_pos e3]; exact ha
        · exfalso
          unfold xx_own at ha
          rw [if_pos (by omega)] at ha
          have := Option.some.inj ha
          omega
    · rw [xx_blk_out e] at hd
      obtain ⟨a1, a2⟩ := s4 q d hd
      have e4 : xx_ρn ρ r0 N H.size q = ρ q := hρ q (by rw [hd]; rfl)
      have hlt : ∀ a, ow a = some q → a < H.size := fun a ha => (s3 a q ha).2
      have how : ∀ a, a < H.size → (if a < H.size + N then xx_own ow r0 H.size a else none) = ow a := fun a ha => by
        rw [if_pos (by omega)]
        unfold xx_own
        rw [if_neg (by omega)]
      refine ⟨?_, (a2.kept fun h3 a ha => o a ?_).names e4 (fun a ha => by show (if a < H.size + N then xx_own ow r0 H.size a else none) = _; rw [how a (hlt a ha)]; exact ha) (fun j hj => xx_v_eq hρ (s5 q d j hd hj))⟩
      · rw [e4]
        rcases a1 with a1 | ⟨a0, a1⟩
        · exact Or.inl a1
        · refine Or.inr ⟨a0, ?_⟩
          show (if ρ q < H.size + N then xx_own ow r0 H.size (ρ q) else none) = _
          rw [how _ (hlt _ a1)]; exact a1
      · rcases ha with rfl | ha | ha
        · rcases a1 with ⟨-, a1, -⟩ | ⟨-, a1⟩
          · have a1 := a1 h3
            omega
          · exact hlt _ a1
        · exact hlt a ha
        · omega
  · by_cases e : r0 ≤ q ∧ q < r0 + N
    · obtain ⟨i, rfl⟩ : ∃ i, q = r0 + i := ⟨q - r0, by omega⟩
      have hi : i < N := by omega
      rw [xx_blk_in hi] at hd
      cases hd
      exact hin i j hi hj
    · rw [xx_blk_out e] at hd
      exact xx_in_blk hf (s5 q d j hd hj)
section
variable {Y : XY} {M : XM} {l : Launch} {d k n : Nat} {h : XH} {pc : Nat} {ls st : List Value} {ρ : Nat → Nat} {ow : Nat → Option Nat} {H : Heap} {locs : List Loc} {cells slots : Nat} {lsA : Array Slot}
theorem xx_map_eq {ρ' : Nat → Nat} (ha : ∀ a, (h a).isSome = true → ρ' a = ρ a) (hs : ∀ v ∈ st, xx_in h v) : st.map (xx_v ρ') = st.map (xx_v ρ) := List.map_congr_left fun v hv => xx_v_eq ha (hs v hv)
theorem xx_L.names {ρ' : Nat → Nat} {nL : Nat} (ha : ∀ a, (h a).isSome = true → ρ' a = ρ a) (hs : ∀ v ∈ ls, xx_in h v) (hL : xx_L ρ nL ls lsA) : xx_L ρ' nL ls lsA := ⟨hL.1, hL.2.1, fun i v hi hv => by rw [xx_v_eq ha (hs v (List.mem_of_getElem? hi))]; exact hL.2.2 i v hi hv⟩
theorem xx_R.news {r0 N a b k' n' : Nat} {c : Nat → XC} {st' : List Value} {H1 : Heap} (r9 : xx_R Y k' n' h ls st ρ ow H locs cells slots lsA) (hk : k + a ≤ k') (hn : n + b ≤ n') (hf : ∀ i, i < N → h (r0 + i) = none) (h1 : 1000 ≤ r0) (z : H1.size = H.size + N) (o : ∀ a, a < H.size → H1[a]? = H[a]?)
    (hc : ∀ i, i < N → xx_cell (xy_D Y) (xx_ρn ρ r0 N H.size) (xx_own ow r0 H.size) (r0 + i) (c i) H1) (hin : ∀ i j, i < N → j < (c i).2.1 → xx_in (xx_blk h r0 N c) ((c i).2.2 j)) (hs : ∀ v ∈ st', xx_in (xx_blk h r0 N c) v) :
    xx_R Y k n (xx_blk h r0 N c) ls st' (xx_ρn ρ r0 N H.size) (fun a => if a < H.size + N then xx_own ow r0 H.size a else none) H1 locs (cells + a) (slots + b) lsA := by
  have hρ : ∀ a, (h a).isSome = true → xx_ρn ρ r0 N H.size a = ρ a := fun a ha => if_neg (xx_blk_some (c := c) hf ha)
  refine ⟨r9.1.news hf h1 z o hc hin, fun q hq => ?_, r9.2.2.1, ?_, ?_, r9.L.names hρ r9.lcl, fun v hv => xx_in_blk hf (r9.lcl v hv), hs⟩
  · have h2 := r9.2.1 q hq
    refine ⟨?_, by rw [hρ q h2.1]; exact h2.2⟩
    rw [xx_blk_out (xx_blk_some (c := c) hf h2.1)]
    exact h2.1
  · have := r9.2.2.2.1
    omega
  · have := r9.2.2.2.2.1
    omega
theorem sw_new {idx ci N r : Nat} {C : String} {T : u_T} {ty : Nat → FieldType} (O : xx_O Y M l d) (hd : decode M.2.1 pc = .ok (.new idx, 3)) (K : xx_cl ci C T N ty) (w : Cond.classLink M.2.2.2.2.1 idx C ∈ xx_gws ∧ Cond.instantiable C N ∈ xx_gws ∧ Cond.initialized C ∈ xx_gws) (hr : h r = none) (h1 : 1000 ≤ r)
    (kk : SW Y k n (xx_blk h r 1 (fun _ => (ci, N, fun j => defaultValue (ty j)))) (pc + 3) ls (.ref r :: st)) : SW Y (k + 1) (n + N) h pc ls st := by
  intro ρ ow H locs cells slots lsA r9
  have hKK := O.2.2.2.2.2.2.2.1
  have hcl : (xd_cl (xy_D Y))[ci]? = some (C, T, N) := by rw [hKK.1]; exact K.2.1
  have hKn := hKK.2.1.1.1 ci _ hcl
  have hw := O.2.2.2.2.2.1
  have hf : ∀ i, i < 1 → h (r + i) = none := fun i hi => by rw [show r + i = r by omega]; exact hr
  refine W.newcK O.1 O.2.1 O.2.2.2.2.2.2.1 (hw _ w.1) (hw _ w.2.1) (hw _ w.2.2) rfl hd (by have := r9.2.2.2.1; omega) (by have := r9.2.2.2.2.1; omega) hKn.2.1 rfl (fun H' kC hkC e1 e2 e3 => ?_)
  have hρ : ∀ a, (h a).isSome = true → xx_ρn ρ r 1 H.size a = ρ a := fun a ha => if_neg (xx_blk_some (c := fun _ => (ci, N, fun j => defaultValue (ty j))) hf ha)
  have e5 : xx_ρn ρ r 1 H.size r = H.size := by
    unfold xx_ρn
    rw [if_pos ⟨by omega, by omega⟩]
    omega
  have hdv : ∀ (ρ' : Nat → Nat) (t : FieldType), xx_v ρ' (defaultValue t) = defaultValue t := fun ρ' t => by cases t <;> rfl
  have hdi : ∀ (h' : XH) (t : FieldType), xx_in h' (defaultValue t) := fun h' t => by cases t <;> exact trivial
  have R1 := r9.news (k := k) (n := n) (a := 1) (b := N) (r0 := r) (N := 1) (c := fun _ => (ci, N, fun j => defaultValue (ty j))) (st' := .ref r :: st) (H1 := H') (by omega) (by omega) hf h1 e2 e3 (fun i hi => by
    obtain rfl : i = 0 := by omega
    refine xx_cell.mk (by omega) ?_
    unfold xx_newc
    rw [if_pos (show ci < 100 from K.1)]
    refine ⟨(C, T, N), hcl, rfl, ?_⟩
    show t_OB (xx_ρn ρ r 1 H.size r) _ _ _ _ _
    rw [e5]
    exact (u_born ty hw K.2.2.1 hKn hkC e1 K.2.2.2.1).to (fun j _ => (hdv _ _).symm)) (fun i j _ _ => hdi _ _) (xx_hc (by show (xx_blk h r 1 _ r).isSome = true; rw [xx_blk_0 (by omega)]; rfl) (fun v hv => xx_in_blk hf (r9.stk v hv)))
  have k1 := kk _ _ H' locs _ _ lsA R1
  rw [show (Value.ref r :: st).map (xx_v (xx_ρn ρ r 1 H.size)) = Value.ref H.size :: st.map (xx_v ρ) by rw [List.map_cons, xx_map_eq hρ r9.stk]; show Value.ref (xx_ρn ρ r 1 H.size r) :: _ = _; rw [e5]] at k1
  exact k1
theorem sw_newarray {t N r : Nat} {aty : ArrayType} {i : Int32} (O : xx_O Y M l d) (hd : decode M.2.1 pc = .ok (.newarray aty, 2)) (ht : (100 ≤ t ∧ t < 103) ∧ xx_aty t = newarray.typeOf aty) (w : Cond.arrayClass (newarray.typeOf aty) ∈ xx_gws) (hn : ¬ i < 0) (hN : i.toNatClampNeg = N) (hb : N * componentBytes (newarray.typeOf aty) ≤ 536870912) (hr : h r = none) (h1 : 1000 ≤ r)
    (kk : SW Y k n (xx_blk h r 1 (fun _ => (t, N, fun _ => defaultValue (newarray.typeOf aty)))) (pc + 2) ls (.ref r :: st)) : SW Y (k + 1) (n + N) h pc ls (.int i :: st) := by
  intro ρ ow H locs cells slots lsA r9
  have hKK := O.2.2.2.2.2.2.2.1
  have hw := O.2.2.2.2.2.1
  subst hN
  have hf : ∀ i, i < 1 → h (r + i) = none := fun i hi => by rw [show r + i = r by omega]; exact hr
  refine W.newa O.1 O.2.1 (hw _ w) rfl hd rfl hn hb (by have := r9.2.2.2.1; omega) (by have := r9.2.2.2.2.1; omega) (fun cA kA comp f1 f2 f3 => ?_)
  have hcA : cA = xd_A (xy_D Y) t := by
    have hRA := (hKK.2.2 t (by omega) (by omega)).2 (by omega)
    rw [ht.2] at hRA
    have : ∀ a9 : ArrayType, va_RA (xt_s Y.1) (xd_A (xy_D Y) t) (newarray.typeOf a9) → (xt_s Y.1).vm.findClass ("[" ++ (newarray.typeOf a9).toString) = some (xd_A (xy_D Y) t) := fun a9 h9 => by cases a9 <;> exact h9
    exact Option.some.inj (f1.symm.trans (this aty hRA))
  have hρ : ∀ a, (h a).isSome = true → xx_ρn ρ r 1 H.size a = ρ a := fun a ha => if_neg (xx_blk_some (c := fun _ => (t, i.toNatClampNeg, fun _ => defaultValue (newarray.typeOf aty))) hf ha)
  have e5 : xx_ρn ρ r 1 H.size r = H.size := by
    unfold xx_ρn
    rw [if_pos ⟨by omega, by omega⟩]
    omega
  have hdv : ∀ (ρ' : Nat → Nat) (t : FieldType), xx_v ρ' (defaultValue t) = defaultValue t := fun ρ' t => by cases t <;> rfl
  have hdi : ∀ (h' : XH) (t : FieldType), xx_in h' (defaultValue t) := fun h' t => by cases t <;> exact trivial
  have R1 := r9.news (k := k) (n := n) (a := 1) (b := i.toNatClampNeg) (r0 := r) (N := 1) (c := fun _ => (t, i.toNatClampNeg, fun _ => defaultValue (newarray.typeOf aty))) (st' := .ref r :: st) (H1 := H.push { cls := cA, slots := Array.replicate i.toNatClampNeg (defaultValue (newarray.typeOf aty)), vm := .none }) (by omega) (by omega) hf h1 (by simp) (fun a ha => by rw [Array.getElem?_push, if_neg (Nat.ne_of_lt ha)]) (fun j hj => by
    obtain rfl : j = 0 := by omega
    refine xx_cell.mk (by omega) ?_
    unfold xx_newc
    rw [if_neg (show ¬ t < 100 by omega), if_pos (show t < 200 by omega)]
    show _[xx_ρn ρ r 1 H.size r]? = _
    rw [e5, arrV_new, hcA]
    simp only [Array.getElem?_push_size]
    exact congrArg some (xx_arr_eq fun j _ => (hdv _ _).symm)) (fun i j _ _ => hdi _ _) (xx_hc (by show (xx_blk h r 1 _ r).isSome = true; rw [xx_blk_0 (by omega)]; rfl) (fun v hv => xx_in_blk hf (xx_ht r9.stk v hv)))
  have k1 := kk _ _ _ locs _ _ lsA R1
  rw [show (Value.ref r :: st).map (xx_v (xx_ρn ρ r 1 H.size)) = Value.ref H.size :: st.map (xx_v ρ) by rw [List.map_cons, xx_map_eq hρ (xx_ht r9.stk)]; show Value.ref (xx_ρn ρ r 1 H.size r) :: _ = _; rw [e5]] at k1
  exact k1
theorem sw_multi {idx N K r : Nat} {i j : Int32} (O : xx_O Y M l d) (hd : decode M.2.1 pc = .ok (.multianewarray idx 2, 4)) (w : Cond.classLink M.2.2.2.2.1 idx "[[I" ∈ xx_gws ∧ Cond.arrayClass .int ∈ xx_gws) (hn : ¬ i < 0) (hm : ¬ j < 0) (hN : i.toNatClampNeg = N) (hK : j.toNatClampNeg = K) (b1 : N ≤ 1000) (b2 : K ≤ 1000) (hr : ∀ q, q < N + 1 → h (r + q) = none) (h1 : 1000 ≤ r)
    (kk : SW Y k n (xx_blk h r (N + 1) (fun q => if q = 0 then (103, N, fun q => .ref (r + 1 + q)) else (100, K, fun _ => .int 0))) (pc + 4) ls (.ref r :: st)) : SW Y (k + (1 + N)) (n + (N + N * K)) h pc ls (.int j :: .int i :: st) := by
  intro ρ ow H locs cells slots lsA r9
  have hKK := O.2.2.2.2.2.2.2.1
  have hw := O.2.2.2.2.2.1
  subst hN
  subst hK
  generalize hcc : (fun q => if q = 0 then ((103, i.toNatClampNeg, fun q => Value.ref (r + 1 + q)) : XC) else (100, j.toNatClampNeg, fun _ => Value.int 0)) = cc at kk
  have c0 : cc 0 = (103, i.toNatClampNeg, fun q => Value.ref (r + 1 + q)) := by rw [← hcc]; rfl
  have c1 : ∀ q, cc (q + 1) = (100, j.toNatClampNeg, fun _ => Value.int 0) := fun q => by rw [← hcc]; simp
  intro T hT Xs
  obtain ⟨vm₁, cA, comp, -, fA, fC, hO, -, X', step⟩ := Xs.multianewarray2F (ty := .int) O.1 O.2.2.2.2.2.2.1 (hw _ w.1) (va_AOA.use hKK.2.1.2.1) (hw _ w.2) (g := F0 (xt_m Y.1) pc lsA (.int j :: .int i :: st.map (xx_v ρ))) rfl (by rw [O.2.1]; exact hd) rfl hn hm (by omega) (by show _ * 4 ≤ _; omega) (by omega) rfl rfl (by have := r9.2.2.2.1; omega) (by have := r9.2.2.2.2.1; omega)
  have eA : cA = xd_A (xy_D Y) 103 := Option.some.inj (fA.symm.trans ((hKK.2.2 103 (by omega) (by omega)).2 (by omega)))
  have eC : comp = xd_A (xy_D Y) 100 := Option.some.inj (fC.symm.trans ((hKK.2.2 100 (by omega) (by omega)).2 (by omega)))
  subst eA
  subst eC
  generalize hF : Jvm.Free.Multi.fill (T.setVm vm₁) (xd_A (xy_D Y) 103) (xd_A (xy_D Y) 100) i.toNatClampNeg j.toNatClampNeg (defaultValue .int) i.toNatClampNeg = F at X' step
  have hTh : (T.setVm vm₁).heap = H := hT
  obtain ⟨f1, f2, -, -⟩ := Jvm.Free.Multi.fill_facts (T.setVm vm₁) (xd_A (xy_D Y) 103) (xd_A (xy_D Y) 100) i.toNatClampNeg j.toNatClampNeg (defaultValue .int) i.toNatClampNeg
  rw [hF, hTh] at f1 f2
  have hold : ∀ x : Nat, x < H.size → F.heap[x]? = H[x]? := fun x hx => by
    have := Jvm.Free.Multi.fill_old (T.setVm vm₁) (xd_A (xy_D Y) 103) (xd_A (xy_D Y) 100) i.toNatClampNeg j.toNatClampNeg (defaultValue .int) (a := x) (by rw [hTh]; exact hx) i.toNatClampNeg
    rw [hF, hTh] at this
    exact this
  have hrow : ∀ q : Nat, q < i.toNatClampNeg → F.heap[H.size + 1 + q]? = some (arrV (xd_A (xy_D Y) 100) j.toNatClampNeg (fun _ => .int 0)) := fun q hq => by
    have := Jvm.Free.Multi.fill_inner (T.setVm vm₁) (xd_A (xy_D Y) 103) (xd_A (xy_D Y) 100) i.toNatClampNeg j.toNatClampNeg (defaultValue .int) i.toNatClampNeg q hq
    rw [hF, hTh] at this
    rw [this, ← arrV_new]
    rfl
  rw [show Jvm.Free.Multi.outerC (xd_A (xy_D Y) 103) i.toNatClampNeg H.size i.toNatClampNeg = _ from vr_outer (xd_A (xy_D Y) 103) i.toNatClampNeg H.size i.toNatClampNeg] at f2
  have hρ : ∀ a, (h a).isSome = true → xx_ρn ρ r (i.toNatClampNeg + 1) H.size a = ρ a := fun a ha => if_neg (xx_blk_some (c := cc) hr ha)
  have e5 : ∀ q, q < i.toNatClampNeg + 1 → xx_ρn ρ r (i.toNatClampNeg + 1) H.size (r + q) = H.size + q := fun q hq => by
    unfold xx_ρn
    rw [if_pos ⟨by omega, by omega⟩]
    omega
  have R1 := r9.news (k := k) (n := n) (a := 1 + i.toNatClampNeg) (b := i.toNatClampNeg + i.toNatClampNeg * j.toNatClampNeg) (r0 := r) (N := i.toNatClampNeg + 1) (c := cc) (st' := .ref r :: st) (H1 := F.heap) (by omega) (by omega) hr h1 (by rw [f1]; omega) hold (fun q hq => by
    cases q with
    | zero =>
      refine xx_cell.mk (by omega) ?_
      unfold xx_newc
      rw [c0, if_neg (show ¬ 103 < 100 by omega), if_pos (show 103 < 200 by omega), e5 0 (by omega)]
      show F.heap[H.size]? = _
      rw [f2]
      refine congrArg some (xx_arr_eq fun q hq => ?_)
      show va_rf (if q < i.toNatClampNeg then some (H.size + 1 + q) else none) = Value.ref (xx_ρn ρ r (i.toNatClampNeg + 1) H.size (r + 1 + q))
      rw [if_pos hq, show r + 1 + q = r + (1 + q) by omega, e5 (1 + q) (by omega), show H.size + 1 + q = H.size + (1 + q) by omega]
      rfl
    | succ q =>
      refine xx_cell.mk (by omega) ?_
      unfold xx_newc
      rw [c1, if_neg (show ¬ 100 < 100 by omega), if_pos (show 100 < 200 by omega), e5 (q + 1) (by omega), show H.size + (q + 1) = H.size + 1 + q by omega, hrow q (by omega)]
      rfl) (fun q q2 hq hq2 => by
    cases q with
    | zero =>
      rw [c0] at hq2 ⊢
      show (xx_blk h r (i.toNatClampNeg + 1) cc (r + 1 + q2)).isSome = true
      have hq2 : q2 < i.toNatClampNeg := hq2
      rw [show r + 1 + q2 = r + (1 + q2) by omega, xx_blk_in (by omega)]
      rfl
    | succ q =>
      rw [c1]
      exact trivial) (xx_hc (by show (xx_blk h r _ cc r).isSome = true; rw [xx_blk_0 (by omega)]; rfl) (fun v hv => xx_in_blk hr (xx_ht (xx_ht r9.stk) v hv)))
  have k1 := kk _ _ F.heap locs _ _ lsA R1
  rw [show (Value.ref r :: st).map (xx_v (xx_ρn ρ r (i.toNatClampNeg + 1) H.size)) = Value.ref H.size :: st.map (xx_v ρ) by rw [List.map_cons, xx_map_eq hρ (xx_ht (xx_ht r9.stk))]; show Value.ref (xx_ρn ρ r (i.toNatClampNeg + 1) H.size (r + 0)) :: _ = _; rw [e5 0 (by omega)]; rfl] at k1
  obtain ⟨t, a1, b1⟩ := k1 F rfl (by rw [show cells + (1 + i.toNatClampNeg) = cells + 1 + i.toNatClampNeg by omega, show slots + (i.toNatClampNeg + i.toNatClampNeg * j.toNatClampNeg) = slots + i.toNatClampNeg + i.toNatClampNeg * j.toNatClampNeg by omega]; exact X')
  refine ⟨t, step t ?_, b1⟩
  have eT : T.heap.size = H.size := by rw [hT]
  rw [eT]
  exact a1
end
end
section
/-! ===== ends and calls ===== -/
def xx_cls (h : XH) : Prop := ∀ r c j, h r = some c → j < c.2.1 → xx_in h (c.2.2 j)
def xx_sub (h' h : XH) : Prop := ∀ r c, h' r = some c → h r = some c
section
variable {Y : XY} {M : XM} {l : Launch} {d k n : Nat} {h : XH} {pc : Nat} {ls st : List Value} {ρ : Nat → Nat} {ow : Nat → Option Nat} {H : Heap} {locs : List Loc} {cells slots : Nat} {lsA : Array Slot}
theorem xx_end {h' : XH} {v : Option Value} {st' : List Value} (r9 : xx_R Y k n h ls st' ρ ow H locs cells slots lsA) (hs : xx_sub h' h) (hc : xx_cls h') (hdom : ∀ r, (xy_h Y r).isSome = true → (h' r).isSome = true) (hv : ∀ w, v = some w → xx_in h' w) (hQ : xy_Q Y (.inl v) h') (t : State) (ht : t.heap = H) :
    xx_Qc (xy_D Y) (xy_ρ Y) (xy_h Y) (xy_Q Y) (xt_a Y.1) (xt_s Y.1) (.returned (v.map (xx_v ρ))) t :=
  ⟨v, h', ρ, ow, rfl, hQ, by rw [ht]; exact r9.1.drop hs hc, fun r hr => ⟨hdom r hr, (r9.2.1 r hr).2⟩, hv⟩
theorem xx_room1 (r9 : xx_R Y k n h ls st ρ ow H locs cells slots lsA) : cells ≤ (xt_R Y.1).cells ∧ slots ≤ (xt_R Y.1).slots := by
  have h1 := r9.2.2.2.1
  have h2 := r9.2.2.2.2.1
  omega
theorem sw_iretD {x : Int32} {ty : FieldType} {h' : XH} (O : xx_O Y M l d) (hd : decode M.2.1 pc = .ok (.ireturn, 1)) (hr : M.2.2.2.1 = some ty) (hn : narrow ty (.int x) = .int x) (hs : xx_sub h' h) (hc : xx_cls h') (hdom : ∀ r, (xy_h Y r).isSome = true → (h' r).isSome = true) (hQ : xy_Q Y (.inl (some (.int x))) h') : SW Y k n h pc ls [.int x] := by
  intro ρ ow H locs cells slots lsA r9
  refine W.widen (xx_room1 r9).1 (xx_room1 r9).2 (vx_ret (W.zret O.1 O.2.1 (O.2.2.2.1.trans hr) hn (fun t ht _ => xx_end (v := some (.int x)) r9 hs hc hdom (fun w hw => ?_) hQ t ht) r9.2.2.1 hd O.2.2.2.2.1))
  cases hw
  exact trivial
theorem sw_lretD {x : Int64} {h' : XH} (O : xx_O Y M l d) (hd : decode M.2.1 pc = .ok (.lreturn, 1)) (hr : M.2.2.2.1 = some .long) (hs : xx_sub h' h) (hc : xx_cls h') (hdom : ∀ r, (xy_h Y r).isSome = true → (h' r).isSome = true) (hQ : xy_Q Y (.inl (some (.long x))) h') : SW Y k n h pc ls [.long x] := by
  intro ρ ow H locs cells slots lsA r9
  refine W.widen (xx_room1 r9).1 (xx_room1 r9).2 (vx_ret (W.lret O.1 O.2.1 (O.2.2.2.1.trans hr) (fun t ht _ => xx_end (v := some (.long x)) r9 hs hc hdom (fun w hw => ?_) hQ t ht) r9.2.2.1 hd O.2.2.2.2.1))
  cases hw
  exact trivial
theorem sw_retD {h' : XH} (O : xx_O Y M l d) (hd : decode M.2.1 pc = .ok (.return_, 1)) (hr : M.2.2.2.1 = none) (hs : xx_sub h' h) (hc : xx_cls h') (hdom : ∀ r, (xy_h Y r).isSome = true → (h' r).isSome = true) (hQ : xy_Q Y (.inl none) h') : SW Y k n h pc ls [] := by
  intro ρ ow H locs cells slots lsA r9
  refine W.widen (xx_room1 r9).1 (xx_room1 r9).2 (vx_ret (W.vret O.1 O.2.1 (O.2.2.2.1.trans hr) (fun t ht _ => xx_end (v := none) r9 hs hc hdom (fun w hw => ?_) hQ t ht) r9.2.2.1 hd O.2.2.2.2.1))
  cases hw
theorem sw_aretD {x : Nat} {rt : FieldType} {h' : XH} (O : xx_O Y M l d) (hd : decode M.2.1 pc = .ok (.areturn, 1)) (hr : M.2.2.2.1 = some rt) (hrt : (∃ n, rt = .object n) ∨ ∃ t, rt = .array t) (hs : xx_sub h' h) (hc : xx_cls h') (hdom : ∀ r, (xy_h Y r).isSome = true → (h' r).isSome = true) (hx : (h' x).isSome = true) (hQ : xy_Q Y (.inl (some (.ref x))) h') : SW Y k n h pc ls [.ref x] := by
  intro ρ ow H locs cells slots lsA r9
  refine W.widen (xx_room1 r9).1 (xx_room1 r9).2 (vx_ret (W.aret O.1 O.2.1 (O.2.2.2.1.trans hr) hrt (Or.inr ⟨_, rfl⟩) (fun t ht _ => xx_end (v := some (.ref x)) r9 hs hc hdom (fun w hw => ?_) hQ t ht) r9.2.2.1 hd O.2.2.2.2.1))
  cases hw
  exact hx
/-! nothing is dropped -/
theorem sw_iret {x : Int32} {ty : FieldType} (O : xx_O Y M l d) (hd : decode M.2.1 pc = .ok (.ireturn, 1)) (hr : M.2.2.2.1 = some ty) (hn : narrow ty (.int x) = .int x) (hQ : xy_Q Y (.inl (some (.int x))) h) : SW Y k n h pc ls [.int x] := by
  intro ρ ow H locs cells slots lsA r9
  exact sw_iretD O hd hr hn (fun _ _ e => e) r9.1.2.2.2.2 (fun r hr => (r9.2.1 r hr).1) hQ ρ ow H locs cells slots lsA r9
theorem sw_lret {x : Int64} (O : xx_O Y M l d) (hd : decode M.2.1 pc = .ok (.lreturn, 1)) (hr : M.2.2.2.1 = some .long) (hQ : xy_Q Y (.inl (some (.long x))) h) : SW Y k n h pc ls [.long x] := by
  intro ρ ow H locs cells slots lsA r9
  exact sw_lretD O hd hr (fun _ _ e => e) r9.1.2.2.2.2 (fun r hr => (r9.2.1 r hr).1) hQ ρ ow H locs cells slots lsA r9
theorem sw_ret (O : xx_O Y M l d) (hd : decode M.2.1 pc = .ok (.return_, 1)) (hr : M.2.2.2.1 = none) (hQ : xy_Q Y (.inl none) h) : SW Y k n h pc ls [] := by
  intro ρ ow H locs cells slots lsA r9
  exact sw_retD O hd hr (fun _ _ e => e) r9.1.2.2.2.2 (fun r hr => (r9.2.1 r hr).1) hQ ρ ow H locs cells slots lsA r9
theorem sw_aret {x : Nat} {rt : FieldType} (O : xx_O Y M l d) (hd : decode M.2.1 pc = .ok (.areturn, 1)) (hr : M.2.2.2.1 = some rt) (hrt : (∃ n, rt = .object n) ∨ ∃ t, rt = .array t) (hQ : xy_Q Y (.inl (some (.ref x))) h) : SW Y k n h pc ls [.ref x] := by
  intro ρ ow H locs cells slots lsA r9
  exact sw_aretD O hd hr hrt (fun _ _ e => e) r9.1.2.2.2.2 (fun r hr => (r9.2.1 r hr).1) (xx_h0 r9.stk) hQ ρ ow H locs cells slots lsA r9
theorem xx_blind {D : XD} {as : List Value} {h1 : XH} : FrameBlind (xx_Pc D ρ ow h1 as) := fun a U g mk q => ⟨q.1, xx_K.moved (u := U) (U := U.calling g mk a) (Vm.Alike.refl U.vm) q.2.1, xx_N.same (s := U) rfl q.2.2.1, q.2.2.2⟩
theorem xx_ws_at {M' : XM} (O : xx_O Y M l d) (hcode : Cond.code M'.1 M'.2.1 M'.2.2.1 M'.2.2.2.1 ∈ xx_gws) : ∀ w ∈ xx_ws M', ∀ (a' : Array Value) (U : State), (xt_s Y.1).WarmedH U.vm → w.before a' U = true := by
  have hg : ∀ w ∈ xx_gws, ∀ (a' : Array Value) (U : State), (xt_s Y.1).WarmedH U.vm → w.before a' U = true := fun w hw a' U hW => word_at hW (good_of_word (List.mem_filter.mp hw).2) (O.2.2.2.2.2.1 w hw)
  intro w hw
  rcases List.mem_cons.mp hw with rfl | h1
  · exact hg _ hcode
  · exact hg _ h1
/-- what the tables say of a callee -/
def xx_ce (M' : XM) : Prop :=
  Cond.code M'.1 M'.2.1 M'.2.2.1 M'.2.2.2.1 ∈ xx_gws ∧ Cond.initialized M'.1.cls ∈ xx_gws ∧ (M'.1.cls ≠ "java/lang/invoke/MethodHandle" ∧ M'.1.cls ≠ "java/lang/invoke/VarHandle") ∧ (parseMethodDescriptor M'.1.desc).map (fun d => d.parameters.length) = some M'.2.2.2.2.2 ∧ M'.2.2.1 ≤ 21
/-- a method's entry in a class's pool -/
def xx_ml (own : String) (idx : Nat) (y : MethodName) : Prop := Cond.methodLink own idx y ∈ xx_gws ∨ ∃ host, Cond.methodLinkNest own idx y host ∈ xx_nws
theorem xx_ce.par {M' : XM} (E : xx_ce M') : ∀ sig, parseMethodDescriptor M'.1.desc = some sig → M'.2.2.2.2.2 = sig.parameters.length := fun sig h => by
  have h2 := E.2.2.2.1
  rw [h] at h2
  exact (Option.some.inj h2).symm
theorem xx_callB {M' : XM} {d' k' n' idx : Nat} (O : xx_O Y M l d) (E : xx_ce M') (hd : d' + 1 ≤ d) (hl : Cond.methodLink M.2.2.2.2.1 idx M'.1 ∈ xx_gws) :
    CallB (xt_R Y.1) (xt_s Y.1) (xt_a Y.1) M.2.2.2.2.1 idx M'.1 M'.2.1 M'.2.2.1 M'.2.2.2.1 (xx_ws M') (xx_rm d' k' n') k' n' M'.2.2.2.2.2 := by
  have hw := O.2.2.2.2.2.1
  have hR := O.2.2.2.2.2.2.2.2.2.2.2.2
  have := E.2.2.2.2
  refine ⟨rfl, rfl, ?_, ?_, xx_ws_at O E.1, List.mem_cons_self, hw _ E.1, hw _ E.2.1, E.2.2.1, E.par, hw _ hl⟩
  · exact Nat.le_trans hd hR.1
  · refine Nat.le_trans ?_ hR.2.1
    show 8 + (M'.2.2.1 + 11) + 40 * d' ≤ 40 * d
    omega
theorem xx_callN {M' : XM} {d' k' n' idx : Nat} {host : String} (O : xx_O Y M l d) (E : xx_ce M') (hd : d' + 1 ≤ d) (hl : Cond.methodLinkNest M.2.2.2.2.1 idx M'.1 host ∈ xx_nws) :
    va_CN (xt_R Y.1) (xt_s Y.1) (xt_a Y.1) M.2.2.2.2.1 idx M'.1 host M'.2.1 M'.2.2.1 M'.2.2.2.1 (xx_ws M') (xx_rm d' k' n') k' n' M'.2.2.2.2.2 := by
  have hw := O.2.2.2.2.2.1
  have hR := O.2.2.2.2.2.2.2.2.2.2.2.2
  have := E.2.2.2.2
  refine ⟨⟨rfl, rfl, ?_, ?_, xx_ws_at O E.1, List.mem_cons_self⟩, hw _ E.1, hw _ E.2.1, E.2.2.1, E.par, va_Nw.use rfl (O.2.2.2.2.2.2.2.2.1.1 _ hl)⟩
  · exact Nat.le_trans hd hR.1
  · refine Nat.le_trans ?_ hR.2.1
    show 8 + (M'.2.2.1 + 11) + 40 * d' ≤ 40 * d
    omega
/-- behind a call -/
theorem xx_run {k' n' : Nat} {Q' : XO → XH → Prop} {stk : List Value} {st0 : List Value} {a : Array Value} (O : xx_O Y M l d) (r9 : xx_R Y (k + k') (n + n') h ls stk ρ ow H locs cells slots lsA) (hst : ∀ v ∈ st, xx_in h v)
    (hr : vx_Run (xt_p Y.1) (xt_l Y.1) (xt_e Y.1) (xt_R Y.1) (xt_s Y.1) (xt_m Y.1) (xt_a Y.1) (xt_b Y.1) (xt_h Y.1) (xt_c Y.1) H locs cells slots k' n' (F0 (xt_m Y.1) pc lsA st0) (st.map (xx_v ρ)) (xx_Qc (xy_D Y) ρ h Q' a) (xx_Xc (xy_D Y) ρ h Q') (xx_fr (xy_D Y)))
    (kr : ∀ v h', Q' (.inl v) h' → (∀ r, (h r).isSome = true → (h' r).isSome = true) → SW Y k n h' (pc + 3) ls (v.toList ++ st)) (kx : ∀ E h', Q' (.inr E) h' → xy_Q Y (.inr E) h') : xx_W Y H locs cells slots (F0 (xt_m Y.1) pc lsA st0) := by
  intro T hT X
  have hloc : ∀ L : List Loc, (∀ q ∈ L, xx_fr (xy_D Y) q.base) → ∀ z ∈ locs ++ L, (xd_H (xy_D Y)).size ≤ z.base := fun L hL z hz => (List.mem_append.mp hz).elim (r9.2.2.1 z) (hL z)
  rcases hr T hT X with ⟨v, st₀, t, T', L, h0, X', hL, e1, e2, ⟨v', h', ρ', ow', hv, hq, hS, hA, hin⟩, go⟩ | ⟨q, st₀, t, T', L, E, ce, h0, X', hL, e1, e2, ⟨h', ρ', ow', hq, hS, hA⟩, hce, hcv, hcl, go⟩
  · cases hv
    have hρ : ∀ a, (h a).isSome = true → ρ' a = ρ a := fun a ha => (hA a ha).2
    have hup : ∀ v, xx_in h v → xx_in h' v := fun v hv => by
      cases v with
      | ref a => exact (hA a hv).1
      | _ => exact trivial
    have R1 : xx_R Y k n h' ls (v'.toList ++ st) ρ' ow' T'.heap (locs ++ L) (cells + k') (slots + n') lsA := by
      refine ⟨by rw [e1]; exact hS, fun r hr => ?_, hloc L hL, ?_, ?_, r9.L.names hρ r9.lcl, fun v hv => hup v (r9.lcl v hv), fun v hv => ?_⟩
      · have h2 := r9.2.1 r hr
        exact ⟨(hA r h2.1).1, by rw [(hA r h2.1).2]; exact h2.2⟩
      · have := r9.2.2.2.1
        omega
      · have := r9.2.2.2.2.1
        omega
      · rcases List.mem_append.mp hv with h3 | h3
        · exact hin v (by cases v' <;> simp at h3; rw [h3])
        · exact hup v (hst v h3)
    have k1 := kr v' h' hq (fun r hr => (hA r hr).1) ρ' ow' T'.heap (locs ++ L) (cells + k') (slots + n') lsA R1 T' rfl X'
    obtain ⟨t2, a1, b1⟩ := k1
    refine ⟨t2, go t2 ?_, b1⟩
    rw [show (v'.toList ++ st).map (xx_v ρ') = (v'.map (xx_v ρ')).toList ++ st.map (xx_v ρ) by rw [List.map_append, xx_map_eq hρ hst]; cases v' <;> rfl] at a1
    exact a1
  · have hx := vx_out (p := xt_p Y.1) (l := xt_l Y.1) (e := xt_e Y.1) (R := xt_R Y.1) (s := xt_s Y.1) (m := xt_m Y.1) (args := xt_a Y.1) (below := xt_b Y.1) (meth := xt_h Y.1) (c := xt_c Y.1) (H := T'.heap) (locs := locs ++ L) (cells := cells + k') (slots := slots + n') (ls := lsA) (rest := st.map (xx_v ρ)) (free := xx_fr (xy_D Y)) (Qc := xx_Qc (xy_D Y) (xy_ρ Y) (xy_h Y) (xy_Q Y)) (XC := xx_Xc (xy_D Y) (xy_ρ Y) (xy_h Y) (xy_Q Y)) (pc := pc) (E := E) (ce := ce) (q := q) (mc := (xt_R Y.1).cells) (ms := (xt_R Y.1).slots)
      (fun x hx => absurd hx (fun w => O.2.2.2.2.2.2.2.2.2.2.2.2.2.2.1 E h' (kx E h' hq) x w)) O.2.2.2.2.1 (by rw [e1]; exact hce) hcv hcl
      (fun t9 ht9 _ => ⟨h', ρ', ow', kx E h' hq, by rw [ht9, e1]; exact hS, fun r hr => by
        have h2 := r9.2.1 r hr
        exact ⟨(hA r h2.1).1, by rw [(hA r h2.1).2]; exact h2.2⟩⟩) (hloc L hL) (by have := r9.2.2.2.1; omega) (by have := r9.2.2.2.2.1; omega)
    obtain ⟨t2, a1, b1⟩ := hx T' rfl X'
    exact ⟨t2, go.trans a1, b1⟩
theorem xx_cats {st : List Value} : ((st.map (xx_v ρ)).map fun v => v.category) = st.map fun v => v.category := by
  rw [List.map_map]
  exact List.map_congr_left fun v _ => xx_v_cat ρ v
theorem xx_stk {as st : List Value} {b : Nat} : (as.reverse ++ .ref b :: st).map (xx_v ρ) = (as.map (xx_v ρ)).reverse ++ .ref (ρ b) :: st.map (xx_v ρ) := by
  rw [List.map_append, List.map_reverse]
  rfl
/-- a call of an object's method -/
theorem sw_callV {M' : XM} {d' k' n' idx ci N b : Nat} {f : Nat → Value} {C : String} {T : u_T} {ty : Nat → FieldType} {as stk : List Value} {Q' : XO → XH → Prop} (O : xx_O Y M l d) (hM : XMet l M' d' k' n' (.ref b :: as) h Q') (E : xx_ce M') (hl : xx_ml M.2.2.2.2.1 idx M'.1) (hsel : Cond.instanceMethod M'.1 ∈ xx_gws ∧ Cond.selects M'.1.cls M'.1 M'.1 ∈ xx_gws)
    (K : xx_cl ci C T N ty) (hC : C = M'.1.cls) (hb : h b = some (ci, N, f)) (hd : decode M.2.1 pc = .ok (.invokevirtual idx, 3)) (hdd : d' + 1 ≤ d) (hn : as.length = M'.2.2.2.2.2) (hs : stk = as.reverse ++ .ref b :: st) (hc : (st.map fun v => v.category).sum ≤ 8)
    (kr : ∀ v h', Q' (.inl v) h' → (∀ r, (h r).isSome = true → (h' r).isSome = true) → SW Y k n h' (pc + 3) ls (v.toList ++ st)) (kx : ∀ E h', Q' (.inr E) h' → xy_Q Y (.inr E) h') : SW Y (k + k') (n + n') h pc ls stk := by
  subst hs
  intro ρ ow H locs cells slots lsA r9
  obtain ⟨⟨cell, q1, q2, q3, q4⟩, hS, hfc, -⟩ := r9.obj O K hb
  have hst : ∀ v ∈ st, xx_in h v := fun v hv => r9.stk v (List.mem_append_right _ (List.mem_cons_of_mem _ hv))
  have has : ∀ v ∈ (Value.ref b :: as), xx_in h v := fun v hv => by
    rcases List.mem_cons.mp hv with rfl | hv
    · exact r9.stk _ (List.mem_append_right _ List.mem_cons_self)
    · exact r9.stk v (List.mem_append_left _ (List.mem_reverse.mpr hv))
  have S : CallFix (xt_p Y.1) (xt_m Y.1) (xt_c Y.1) M.2.1 (xt_c Y.1).maxLocals (xt_s Y.1) (xt_a Y.1) xx_gws M.2.2.2.2.1 := ⟨O.1, O.2.1, rfl, O.2.2.2.2.2.2.1, O.2.2.2.2.2.1⟩
  have hM' := hM (xy_D Y) ρ ow
  rw [← O.2.2.2.2.2.2.2.2.2.2.2.1] at hM'
  have hp : PreV (xt_s Y.1) H M'.1.cls (ρ b) (xx_Pc (xy_D Y) ρ ow h (.ref b :: as)) (as.map (xx_v ρ)) := ⟨xx_blind, ⟨cell, q1, q3.1, by rw [q2, ← hC]; exact hfc⟩, fun U hU hW => ⟨rfl, xx_K.moved hW.alike O.2.2.2.2.2.2.2.1, xx_N.warm hW O.2.2.2.2.2.2.2.2.1, by rw [hU]; exact r9.1, has⟩⟩
  have hw := O.2.2.2.2.2.1
  refine xx_run O r9 hst (a := (Value.ref (ρ b) :: as.map (xx_v ρ)).toArray) ?_ kr kx
  rcases hl with hl | ⟨host, hl⟩
  · exact vx_runV S hM' ⟨xx_callB O E hdd hl, hw _ hsel.1, hw _ hsel.2⟩ hp rfl (by rw [List.length_map]; exact hn) r9.L.1 xx_stk (lv_room (by rw [xx_cats]; exact hc)) hd (by have := r9.2.2.2.1; have := r9.2.2.2.2.1; omega)
  · exact vx_runVN S hM' ⟨xx_callN O E hdd hl, hw _ hsel.1, hw _ hsel.2⟩ hp rfl (by rw [List.length_map]; exact hn) r9.L.1 xx_stk (lv_room (by rw [xx_cats]; exact hc)) hd (by have := r9.2.2.2.1; have := r9.2.2.2.2.1; omega)
/-- a static call -/
theorem sw_callS {M' : XM} {d' k' n' idx : Nat} {as stk : List Value} {Q' : XO → XH → Prop} (O : xx_O Y M l d) (hM : XMet l M' d' k' n' as h Q') (E : xx_ce M') (hl : xx_ml M.2.2.2.2.1 idx M'.1) (hst0 : Cond.static M'.1 ∈ xx_gws)
    (hd : decode M.2.1 pc = .ok (.invokestatic idx, 3)) (hdd : d' + 1 ≤ d) (hn : as.length = M'.2.2.2.2.2) (hs : stk = as.reverse ++ st) (hc : (st.map fun v => v.category).sum ≤ 8)
    (kr : ∀ v h', Q' (.inl v) h' → (∀ r, (h r).isSome = true → (h' r).isSome = true) → SW Y k n h' (pc + 3) ls (v.toList ++ st)) (kx : ∀ E h', Q' (.inr E) h' → xy_Q Y (.inr E) h') : SW Y (k + k') (n + n') h pc ls stk := by
  subst hs
  intro ρ ow H locs cells slots lsA r9
  have hst : ∀ v ∈ st, xx_in h v := fun v hv => r9.stk v (List.mem_append_right _ hv)
  have has : ∀ v ∈ as, xx_in h v := fun v hv => r9.stk v (List.mem_append_left _ (List.mem_reverse.mpr hv))
  have S : CallFix (xt_p Y.1) (xt_m Y.1) (xt_c Y.1) M.2.1 (xt_c Y.1).maxLocals (xt_s Y.1) (xt_a Y.1) xx_gws M.2.2.2.2.1 := ⟨O.1, O.2.1, rfl, O.2.2.2.2.2.2.1, O.2.2.2.2.2.1⟩
  have hM' := hM (xy_D Y) ρ ow
  rw [← O.2.2.2.2.2.2.2.2.2.2.2.1] at hM'
  have hp : PreS (xt_s Y.1) H (xx_Pc (xy_D Y) ρ ow h as) (as.map (xx_v ρ)) := ⟨xx_blind, fun U hU hW => ⟨rfl, xx_K.moved hW.alike O.2.2.2.2.2.2.2.1, xx_N.warm hW O.2.2.2.2.2.2.2.2.1, by rw [hU]; exact r9.1, has⟩⟩
  have hw := O.2.2.2.2.2.1
  have e9 : (as.reverse ++ st).map (xx_v ρ) = (as.map (xx_v ρ)).reverse ++ st.map (xx_v ρ) := by rw [List.map_append, List.map_reverse]
  refine xx_run O r9 hst (a := (as.map (xx_v ρ)).toArray) ?_ kr kx
  rcases hl with hl | ⟨host, hl⟩
  · exact vx_runS S hM' ⟨xx_callB O E hdd hl, hw _ hst0⟩ hp rfl (by rw [List.length_map]; exact hn) r9.L.1 e9 (lv_room (by rw [xx_cats]; exact hc)) hd (by have := r9.2.2.2.1; have := r9.2.2.2.2.1; omega)
  · exact vx_runSN S hM' ⟨xx_callN O E hdd hl, hw _ hst0, trivial⟩ hp rfl (by rw [List.length_map]; exact hn) r9.L.1 e9 (lv_room (by rw [xx_cats]; exact hc)) hd (by have := r9.2.2.2.1; have := r9.2.2.2.2.1; omega)
/-- a constructor's call -/
theorem sw_callI {M' : XM} {d' k' n' idx b : Nat} {as stk : List Value} {Q' : XO → XH → Prop} (O : xx_O Y M l d) (hM : XMet l M' d' k' n' (.ref b :: as) h Q') (E : xx_ce M') (hl : xx_ml M.2.2.2.2.1 idx M'.1) (hi : M'.1.name = "<init>" ∧ M'.2.2.2.1 = none ∧ Cond.instanceMethod M'.1 ∈ xx_gws)
    (hd : decode M.2.1 pc = .ok (.invokespecial idx, 3)) (hdd : d' + 1 ≤ d) (hn : as.length = M'.2.2.2.2.2) (hs : stk = as.reverse ++ .ref b :: st) (hc : (st.map fun v => v.category).sum ≤ 8)
    (kr : ∀ v h', Q' (.inl v) h' → (∀ r, (h r).isSome = true → (h' r).isSome = true) → SW Y k n h' (pc + 3) ls (v.toList ++ st)) (kx : ∀ E h', Q' (.inr E) h' → xy_Q Y (.inr E) h') : SW Y (k + k') (n + n') h pc ls stk := by
  subst hs
  intro ρ ow H locs cells slots lsA r9
  have hst : ∀ v ∈ st, xx_in h v := fun v hv => r9.stk v (List.mem_append_right _ (List.mem_cons_of_mem _ hv))
  have has : ∀ v ∈ (Value.ref b :: as), xx_in h v := fun v hv => by
    rcases List.mem_cons.mp hv with rfl | hv
    · exact r9.stk _ (List.mem_append_right _ List.mem_cons_self)
    · exact r9.stk v (List.mem_append_left _ (List.mem_reverse.mpr hv))
  have S : CallFix (xt_p Y.1) (xt_m Y.1) (xt_c Y.1) M.2.1 (xt_c Y.1).maxLocals (xt_s Y.1) (xt_a Y.1) xx_gws M.2.2.2.2.1 := ⟨O.1, O.2.1, rfl, O.2.2.2.2.2.2.1, O.2.2.2.2.2.1⟩
  have hM' := hM (xy_D Y) ρ ow
  rw [← O.2.2.2.2.2.2.2.2.2.2.2.1] at hM'
  have hp : PreS (xt_s Y.1) H (xx_Pc (xy_D Y) ρ ow h (.ref b :: as)) (.ref (ρ b) :: as.map (xx_v ρ)) := ⟨xx_blind, fun U hU hW => ⟨rfl, xx_K.moved hW.alike O.2.2.2.2.2.2.2.1, xx_N.warm hW O.2.2.2.2.2.2.2.2.1, by rw [hU]; exact r9.1, has⟩⟩
  have hw := O.2.2.2.2.2.1
  refine xx_run O r9 hst (a := (Value.ref (ρ b) :: as.map (xx_v ρ)).toArray) ?_ kr kx
  rcases hl with hl | ⟨host, hl⟩
  · have cb := xx_callB (k' := k') (n' := n') O E hdd hl
    rw [hi.2.1] at cb
    exact vx_runI S hM' ⟨cb, hi.1, hw _ hi.2.2⟩ hp rfl (by rw [List.length_map]; exact hn) r9.L.1 xx_stk (lv_room (by rw [xx_cats]; exact hc)) hd (by have := r9.2.2.2.1; have := r9.2.2.2.2.1; omega)
  · have cb := xx_callN (k' := k') (n' := n') O E hdd hl
    rw [hi.2.1] at cb
    exact vx_runIN S hM' ⟨cb, hi.1, hw _ hi.2.2⟩ hp rfl (by rw [List.length_map]; exact hn) r9.L.1 xx_stk (lv_room (by rw [xx_cats]; exact hc)) hd (by have := r9.2.2.2.1; have := r9.2.2.2.2.1; omega)
/-- the constructor of java/lang/Object -/
theorem sw_objInit {idx b : Nat} (O : xx_O Y M l d) (w : Cond.methodLink M.2.2.2.2.1 idx Lib.objectInit ∈ xx_gws ∧ Cond.instanceMethod Lib.objectInit ∈ xx_gws ∧ Cond.code Lib.objectInit ⟨#[0xb1]⟩ 1 none ∈ xx_gws) (hd : decode M.2.1 pc = .ok (.invokespecial idx, 3)) (hdd : 1 ≤ d) (hc : (st.map fun v => v.category).sum ≤ 8)
    (kk : SW Y k n h (pc + 3) ls st) : SW Y k n h pc ls (.ref b :: st) := by
  intro ρ ow H locs cells slots lsA r9
  have hw := O.2.2.2.2.2.1
  have hR := O.2.2.2.2.2.2.2.2.2.2.2.2
  refine W.objInit O.1 O.2.1 O.2.2.2.2.2.2.1 (hw _ w.1) (hw _ w.2.1) (hw _ w.2.2) rfl r9.L.1 rfl hd (by exact Nat.le_trans hdd hR.1) ?_ (kk ρ ow H locs cells slots lsA (r9.to (xx_ht r9.stk)))
  have h1 : ((st.map (xx_v ρ)).map fun v => v.category).sum ≤ 8 := by rw [xx_cats]; exact hc
  have h2 := lv_room (m := xt_m Y.1) (pc := pc) (ls := lsA) (rest := .ref (ρ b) :: st.map (xx_v ρ)) h1
  have h9 : 40 * d ≤ (xt_R Y.1).locals := hR.2.1
  refine Nat.le_trans (Nat.add_le_add_right h2 12) ?_
  omega
end
end
section
/-! ===== Math.max, Math.min ===== -/
section
variable {Y : XY} {M : XM} {l : Launch} {d k n : Nat} {h : XH} {pc : Nat} {ls st : List Value}
def xx_mmax (own : String) (idx : Nat) : Prop := Cond.methodLink own idx Lib.Math.max.name ∈ xx_gws ∧ Cond.static Lib.Math.max.name ∈ xx_gws ∧ Cond.initialized "java/lang/Math" ∈ xx_gws ∧ Cond.code Lib.Math.max.name Lib.Math.max.code 2 (some .int) ∈ xx_gws
theorem sw_max {idx : Nat} {x y : Int32} (O : xx_O Y M l d) (K : xx_mmax M.2.2.2.2.1 idx) (hd : decode M.2.1 pc = .ok (.invokestatic idx, 3)) (hdd : 1 ≤ d) (hw : (st.map fun v => v.category).sum + 13 ≤ 40) (kk : SW Y k n h (pc + 3) ls (.int (if x < y then y else x) :: st)) : SW Y k n h pc ls (.int y :: .int x :: st) := by
  intro ρ ow H locs cells slots lsA r9
  have hcat : ((st.map (xx_v ρ)).map fun v => v.category).sum = (st.map fun v => v.category).sum := by
    rw [List.map_map]
    refine congrArg List.sum (List.map_congr_left fun v _ => ?_)
    exact xx_v_cat ρ v
  have hgw := O.2.2.2.2.2.1
  refine va_mmax O.1 O.2.1 r9.L.1.symm O.2.2.2.2.2.2.1 (hgw _ K.1) (hgw _ K.2.1) (hgw _ K.2.2.1) (hgw _ K.2.2.2) (by exact Nat.le_trans hdd O.2.2.2.2.2.2.2.2.2.2.2.2.1) (by rw [hcat]; have h9 := O.2.2.2.2.2.2.2.2.2.2.2.2.2.1; omega) (by have := r9.2.2.2.1; omega) (by have := r9.2.2.2.2.1; omega) hd ?_
  exact kk ρ ow H locs cells slots lsA (r9.to (xx_hc (a := .int (if x < y then y else x)) trivial (xx_ht (xx_ht r9.stk))))
def xx_mmin (own : String) (idx : Nat) : Prop := Cond.methodLink own idx Lib.Math.min.name ∈ xx_gws ∧ Cond.static Lib.Math.min.name ∈ xx_gws ∧ Cond.initialized "java/lang/Math" ∈ xx_gws ∧ Cond.code Lib.Math.min.name Lib.Math.min.code 2 (some .int) ∈ xx_gws
theorem sw_min {idx : Nat} {x y : Int32} (O : xx_O Y M l d) (K : xx_mmin M.2.2.2.2.1 idx) (hd : decode M.2.1 pc = .ok (.invokestatic idx, 3)) (hdd : 1 ≤ d) (hw : (st.map fun v => v.category).sum + 13 ≤ 40) (kk : SW Y k n h (pc + 3) ls (.int (if y < x then y else x) :: st)) : SW Y k n h pc ls (.int y :: .int x :: st) := by
  intro ρ ow H locs cells slots lsA r9
  have hcat : ((st.map (xx_v ρ)).map fun v => v.category).sum = (st.map fun v => v.category).sum := by
    rw [List.map_map]
    refine congrArg List.sum (List.map_congr_left fun v _ => ?_)
    exact xx_v_cat ρ v
  have hgw := O.2.2.2.2.2.1
  refine va_mmin O.1 O.2.1 r9.L.1.symm O.2.2.2.2.2.2.1 (hgw _ K.1) (hgw _ K.2.1) (hgw _ K.2.2.1) (hgw _ K.2.2.2) (by exact Nat.le_trans hdd O.2.2.2.2.2.2.2.2.2.2.2.2.1) (by rw [hcat]; have h9 := O.2.2.2.2.2.2.2.2.2.2.2.2.2.1; omega) (by have := r9.2.2.2.1; omega) (by have := r9.2.2.2.2.1; omega) hd ?_
  exact kk ρ ow H locs cells slots lsA (r9.to (xx_hc (a := .int (if y < x then y else x)) trivial (xx_ht (xx_ht r9.stk))))
end
end
section
/-! ===== throw new E("a text") ===== -/
theorem xx_castXX {X : String} {n : Nat} {args : Array Value} {s : State} (h : (Cond.instantiable X n).before args s = true) : (Cond.castable X X).before args s = true := by
  obtain ⟨c, k, hfc, -⟩ := Cond.instantiable_spec h
  simp only [Cond.before, Cond.holds, Cond.value, hfc]
  rw [va_asg]
  rfl
/-- the words of a throw but the one of its own entry -/
def xx_atA (X : String) (names : List String) : List Cond := Bundle.throwableAtoms ++ Bundle.throwableSAtoms ++ Bundle.chainSAtoms X names
def xx_atB (X : String) (names : List String) : List Cond := (xx_atA X names ++ (Bundle.ownAtoms "" 0 X names).drop ((xx_atA X names).length + 1)).filter vx_no
/-- what the tables say of an exception's class, with a text -/
def xx_ex (E : String) : Prop := (Bundle.fit E = true ∧ ∀ n ∈ ["java/lang/RuntimeException", "java/lang/Exception"], Bundle.fit n = true) ∧ Cond.initialized E ∈ xx_gws ∧ Cond.instantiable E 6 ∈ xx_gws ∧
  (∀ w ∈ xx_atB E ["java/lang/RuntimeException", "java/lang/Exception"], w = .castable E E ∨ w ∈ xx_gws ∨ w ∈ xx_nws) ∧ ∀ w ∈ xx_atB E ["java/lang/RuntimeException", "java/lang/Exception"], vx_ot w = true
theorem xx_atS {own E : String} {ic : Nat} {names : List String} {w : Cond} (h : w ∈ vx_atS own ic E names) : w = .methodLink own ic (Bundle.initS E) ∨ w ∈ xx_atB E names := by
  unfold vx_atS at h
  obtain ⟨h1, h2⟩ := List.mem_filter.mp h
  unfold Bundle.ownAtoms at h1
  rcases List.mem_append.mp h1 with h3 | h3
  · exact Or.inr (List.mem_filter.mpr ⟨List.mem_append_left _ h3, h2⟩)
  · rcases List.mem_cons.mp h3 with h4 | h4
    · exact Or.inl h4
    · refine Or.inr (List.mem_filter.mpr ⟨List.mem_append_right _ ?_, h2⟩)
      unfold Bundle.ownAtoms
      rw [show Bundle.throwableAtoms ++ Bundle.throwableSAtoms ++ Bundle.chainSAtoms E names = xx_atA E names from rfl, List.drop_append, List.drop_eq_nil_of_le (by omega), show (xx_atA E names).length + 1 - (xx_atA E names).length = 1 by omega]
      exact h4
section
variable {Y : XY} {M : XM} {l : Launch} {d k n : Nat} {h : XH} {pc : Nat} {ls st : List Value}
theorem sw_throw {ik is ic : Nat} {E tx : String} (O : xx_O Y M l d) (X : xx_ex E) (w : Cond.classLink M.2.2.2.2.1 ik E ∈ xx_gws ∧ Cond.methodLink M.2.2.2.2.1 ic (Bundle.initS E) ∈ xx_gws ∧ (M.2.2.2.2.1, is, tx) ∈ xx_strs)
    (d0 : decode M.2.1 pc = .ok (.new ik, 3)) (d3 : decode M.2.1 (pc + 3) = .ok (.dup, 1)) (d4 : decode M.2.1 (pc + 4) = .ok (.ldc is, 2)) (d6 : decode M.2.1 (pc + 6) = .ok (.invokespecial ic, 3)) (d9 : decode M.2.1 (pc + 9) = .ok (.athrow, 1))
    (hdd : 6 ≤ d) (hc : (st.map fun v => v.category).sum ≤ 8) (hQ : xy_Q Y (.inr E) h) : SW Y (k + 1) (n + 6) h pc ls st := by
  intro ρ ow H locs cells slots lsA r9 T hT Xs
  have hw := O.2.2.2.2.2.1
  have hKK := O.2.2.2.2.2.2.2.1
  have hR := O.2.2.2.2.2.2.2.2.2.2.2.2
  have hgr : (xt_s Y.1).heap.size ≤ H.size := by rw [← hT]; exact Xs.heapGrown
  obtain ⟨sa, hsa⟩ := O.2.2.2.2.2.2.2.2.1.2.1 _ w.2.2
  have hold := hR.2.2.2
  have hsz : (xd_H (xy_D Y)).size ≤ H.size := r9.1.1
  have hS : va_S (fun q => (xd_H (xy_D Y)).size ≤ q) (xt_s Y.1).heap H locs := ⟨hgr, fun q h1 h2 => by rw [r9.1.2.1 q (Nat.not_le.mp h2), hold q (Nat.not_le.mp h2)], fun z hz => r9.2.2.1 z hz⟩
  have hcast := xx_castXX (hw _ X.2.2.1)
  refine vx_throwS (names := ["java/lang/RuntimeException", "java/lang/Exception"]) (A := fun q => (xd_H (xy_D Y)).size ≤ q) (text := tx) O.1 O.2.1 (by rw [O.2.2.2.2.2.2.2.2.2.2.2.1]; exact O.2.2.2.2.2.2.2.2.2.1) O.2.2.2.2.2.2.1 X.1.1 X.1.2 (hw _ w.1) (hw _ X.2.1) hsa (fun w9 h9 => ?_) (fun w9 h9 => ?_)
    (hKK.2.1.2.2.1.kept (fun a h1 _ => hold a h1)) (hKK.2.1.2.2.2.1.kept (fun a h1 _ => hold a h1)) hS r9.L.1 d0 d3 d4 d6 d9 (fun x hx => absurd hx (fun w => hR.2.2.1 E h hQ x w)) ?_ ?_ (by have := r9.2.2.2.1; omega) (by have := r9.2.2.2.2.1; omega) O.2.2.2.2.1 (fun t ha h1 h2 => ?_) r9.2.2.1 (by have := r9.2.2.2.1; omega) (by have := r9.2.2.2.2.1; omega) T hT Xs
  · rcases xx_atS h9 with rfl | h8
    · exact hw _ w.2.1
    · rcases X.2.2.2.1 w9 h8 with rfl | h7 | h7
      · exact hcast
      · exact hw _ h7
      · exact O.2.2.2.2.2.2.2.2.1.use h7
  · rcases List.mem_cons.mp h9 with rfl | h8
    · rfl
    · rcases List.mem_cons.mp h8 with rfl | h7
      · rfl
      · rcases xx_atS h7 with rfl | h6
        · rfl
        · exact X.2.2.2.2 w9 h6
  · show 2 + 3 < (xt_R Y.1).frames
    have h9 : d ≤ (xt_R Y.1).frames := hR.1
    omega
  · rw [xx_cats]
    have h9 : 40 * d ≤ (xt_R Y.1).locals := hR.2.1
    show _ + (13 * (2 + 1) + 43) ≤ (xt_R Y.1).locals
    omega
  · refine ⟨h, ρ, ow, hQ, ?_, r9.2.1⟩
    have S := r9.1
    refine ⟨by omega, fun a ha => by rw [h2 a (by omega)]; exact S.2.1 a ha, fun a r e => ⟨(S.2.2.1 a r e).1, Nat.lt_of_lt_of_le (S.2.2.1 a r e).2 h1⟩, fun r c hr => ⟨(S.2.2.2.1 r c hr).1, (S.2.2.2.1 r c hr).2.kept fun h3 a ha => h2 a ?_⟩, S.2.2.2.2⟩
    rcases ha with rfl | ha | ha
    · rcases (S.2.2.2.1 r c hr).1 with ⟨-, a1, -⟩ | ⟨-, a1⟩
      · have a1 := a1 h3
        omega
      · exact (S.2.2.1 _ _ a1).2
    · exact (S.2.2.1 _ _ ha).2
    · omega
theorem sw_throwW {ik is ic : Nat} {E tx : String} (O : xx_O Y M l d) (X : xx_ex E) (w : Cond.classLink M.2.2.2.2.1 ik E ∈ xx_gws ∧ Cond.methodLink M.2.2.2.2.1 ic (Bundle.initS E) ∈ xx_gws ∧ (M.2.2.2.2.1, is, tx) ∈ xx_strs)
    (d0 : decode M.2.1 pc = .ok (.new ik, 3)) (d3 : decode M.2.1 (pc + 3) = .ok (.dup, 1)) (d4 : decode M.2.1 (pc + 4) = .ok (.ldc_w is, 3)) (d7 : decode M.2.1 (pc + 7) = .ok (.invokespecial ic, 3)) (d10 : decode M.2.1 (pc + 10) = .ok (.athrow, 1))
    (hdd : 6 ≤ d) (hc : (st.map fun v => v.category).sum ≤ 8) (hQ : xy_Q Y (.inr E) h) : SW Y (k + 1) (n + 6) h pc ls st := by
  intro ρ ow H locs cells slots lsA r9 T hT Xs
  have hw := O.2.2.2.2.2.1
  have hKK := O.2.2.2.2.2.2.2.1
  have hR := O.2.2.2.2.2.2.2.2.2.2.2.2
  have hgr : (xt_s Y.1).heap.size ≤ H.size := by rw [← hT]; exact Xs.heapGrown
  obtain ⟨sa, hsa⟩ := O.2.2.2.2.2.2.2.2.1.2.1 _ w.2.2
  have hold := hR.2.2.2
  have hsz : (xd_H (xy_D Y)).size ≤ H.size := r9.1.1
  have hS : va_S (fun q => (xd_H (xy_D Y)).size ≤ q) (xt_s Y.1).heap H locs := ⟨hgr, fun q h1 h2 => by rw [r9.1.2.1 q (Nat.not_le.mp h2), hold q (Nat.not_le.mp h2)], fun z hz => r9.2.2.1 z hz⟩
  have hcast := xx_castXX (hw _ X.2.2.1)
  refine vx_throwSW (names := ["java/lang/RuntimeException", "java/lang/Exception"]) (A := fun q => (xd_H (xy_D Y)).size ≤ q) (text := tx) O.1 O.2.1 (by rw [O.2.2.2.2.2.2.2.2.2.2.2.1]; exact O.2.2.2.2.2.2.2.2.2.1) O.2.2.2.2.2.2.1 X.1.1 X.1.2 (hw _ w.1) (hw _ X.2.1) hsa (fun w9 h9 => ?_) (fun w9 h9 => ?_)
    (hKK.2.1.2.2.1.kept (fun a h1 _ => hold a h1)) (hKK.2.1.2.2.2.1.kept (fun a h1 _ => hold a h1)) hS r9.L.1 d0 d3 d4 d7 d10 (fun x hx => absurd hx (fun w => hR.2.2.1 E h hQ x w)) ?_ ?_ (by have := r9.2.2.2.1; omega) (by have := r9.2.2.2.2.1; omega) O.2.2.2.2.1 (fun t ha h1 h2 => ?_) r9.2.2.1 (by have := r9.2.2.2.1; omega) (by have := r9.2.2.2.2.1; omega) T hT Xs
  · rcases xx_atS h9 with rfl | h8
    · exact hw _ w.2.1
    · rcases X.2.2.2.1 w9 h8 with rfl | h7 | h7
      · exact hcast
      · exact hw _ h7
      · exact O.2.2.2.2.2.2.2.2.1.use h7
  · rcases List.mem_cons.mp h9 with rfl | h8
    · rfl
    · rcases List.mem_cons.mp h8 with rfl | h7
      · rfl
      · rcases xx_atS h7 with rfl | h6
        · rfl
        · exact X.2.2.2.2 w9 h6
  · show 2 + 3 < (xt_R Y.1).frames
    have h9 : d ≤ (xt_R Y.1).frames := hR.1
    omega
  · rw [xx_cats]
    have h9 : 40 * d ≤ (xt_R Y.1).locals := hR.2.1
    show _ + (13 * (2 + 1) + 43) ≤ (xt_R Y.1).locals
    omega
  · refine ⟨h, ρ, ow, hQ, ?_, r9.2.1⟩
    have S := r9.1
    refine ⟨by omega, fun a ha => by rw [h2 a (by omega)]; exact S.2.1 a ha, fun a r e => ⟨(S.2.2.1 a r e).1, Nat.lt_of_lt_of_le (S.2.2.1 a r e).2 h1⟩, fun r c hr => ⟨(S.2.2.2.1 r c hr).1, (S.2.2.2.1 r c hr).2.kept fun h3 a ha => h2 a ?_⟩, S.2.2.2.2⟩
    rcases ha with rfl | ha | ha
    · rcases (S.2.2.2.1 r c hr).1 with ⟨-, a1, -⟩ | ⟨-, a1⟩
      · have a1 := a1 h3
        omega
      · exact (S.2.2.1 _ _ a1).2
    · exact (S.2.2.1 _ _ ha).2
    · omega
end
end
section
/-! ===== contracts whose end is known exactly ===== -/
def XEx (l : Launch) (M : XM) (d k n : Nat) (as : List Value) (h : XH) (v : Option Value) (h2 : XH) : Prop := XMet l M d k n as h (fun o g => o = .inl v ∧ g = h2)
theorem XMet.imp {l : Launch} {M : XM} {d k n : Nat} {as : List Value} {h : XH} {Q Q2 : XO → XH → Prop} (hQ : ∀ o g, Q o g → Q2 o g) (hM : XMet l M d k n as h Q) : XMet l M d k n as h Q2 := by
  intro D ρ ow p e a1 a2 a3 s m args below b1 b2 b3 b4
  obtain ⟨nn, o, c1, c2, c3, c4⟩ := hM D ρ ow p e a1 a2 a3 s m args below b1 b2 b3 b4
  refine ⟨nn, o, c1, c2, c3, ?_⟩
  rcases c4 with ⟨⟨v, h', ρ', ow', e1, q, r⟩, z⟩ | ⟨q9, e1, E, ce, L, ⟨h', ρ', ow', q, r⟩, z⟩
  · exact Or.inl ⟨⟨v, h', ρ', ow', e1, hQ _ _ q, r⟩, z⟩
  · exact Or.inr ⟨q9, e1, E, ce, L, ⟨h', ρ', ow', hQ _ _ q, r⟩, z⟩
section
variable {Y : XY} {M : XM} {l : Launch} {d k n : Nat} {h : XH} {pc : Nat} {ls st : List Value}
theorem sw_callVx {M' : XM} {d' k' n' idx ci N b : Nat} {f : Nat → Value} {C : String} {T : u_T} {ty : Nat → FieldType} {as stk : List Value} {v : Option Value} {h2 : XH} (O : xx_O Y M l d) (hM : XEx l M' d' k' n' (.ref b :: as) h v h2) (E : xx_ce M') (hl : xx_ml M.2.2.2.2.1 idx M'.1) (hsel : Cond.instanceMethod M'.1 ∈ xx_gws ∧ Cond.selects M'.1.cls M'.1 M'.1 ∈ xx_gws)
    (K : xx_cl ci C T N ty) (hC : C = M'.1.cls) (hb : h b = some (ci, N, f)) (hd : decode M.2.1 pc = .ok (.invokevirtual idx, 3)) (hdd : d' + 1 ≤ d) (hn : as.length = M'.2.2.2.2.2) (hs : stk = as.reverse ++ .ref b :: st) (hc : (st.map fun v => v.category).sum ≤ 8)
    {st2 : List Value} (h2s : v.toList ++ st = st2) (kk : SW Y k n h2 (pc + 3) ls st2) : SW Y (k + k') (n + n') h pc ls stk :=
  sw_callV O hM E hl hsel K hC hb hd hdd hn hs hc (fun v' h' q _ => by obtain ⟨e1, rfl⟩ := q; cases e1; rw [h2s]; exact kk) (fun E h' q => by obtain ⟨e1, -⟩ := q; cases e1)
theorem sw_callSx {M' : XM} {d' k' n' idx : Nat} {as stk : List Value} {v : Option Value} {h2 : XH} (O : xx_O Y M l d) (hM : XEx l M' d' k' n' as h v h2) (E : xx_ce M') (hl : xx_ml M.2.2.2.2.1 idx M'.1) (hst0 : Cond.static M'.1 ∈ xx_gws)
    (hd : decode M.2.1 pc = .ok (.invokestatic idx, 3)) (hdd : d' + 1 ≤ d) (hn : as.length = M'.2.2.2.2.2) (hs : stk = as.reverse ++ st) (hc : (st.map fun v => v.category).sum ≤ 8)
    {st2 : List Value} (h2s : v.toList ++ st = st2) (kk : SW Y k n h2 (pc + 3) ls st2) : SW Y (k + k') (n + n') h pc ls stk :=
  sw_callS O hM E hl hst0 hd hdd hn hs hc (fun v' h' q _ => by obtain ⟨e1, rfl⟩ := q; cases e1; rw [h2s]; exact kk) (fun E h' q => by obtain ⟨e1, -⟩ := q; cases e1)
theorem sw_callIx {M' : XM} {d' k' n' idx b : Nat} {as stk : List Value} {v : Option Value} {h2 : XH} (O : xx_O Y M l d) (hM : XEx l M' d' k' n' (.ref b :: as) h v h2) (E : xx_ce M') (hl : xx_ml M.2.2.2.2.1 idx M'.1) (hi : M'.1.name = "<init>" ∧ M'.2.2.2.1 = none ∧ Cond.instanceMethod M'.1 ∈ xx_gws)
    (hd : decode M.2.1 pc = .ok (.invokespecial idx, 3)) (hdd : d' + 1 ≤ d) (hn : as.length = M'.2.2.2.2.2) (hs : stk = as.reverse ++ .ref b :: st) (hc : (st.map fun v => v.category).sum ≤ 8)
    {st2 : List Value} (h2s : v.toList ++ st = st2) (kk : SW Y k n h2 (pc + 3) ls st2) : SW Y (k + k') (n + n') h pc ls stk :=
  sw_callI O hM E hl hi hd hdd hn hs hc (fun v' h' q _ => by obtain ⟨e1, rfl⟩ := q; cases e1; rw [h2s]; exact kk) (fun E h' q => by obtain ⟨e1, -⟩ := q; cases e1)
end
end
