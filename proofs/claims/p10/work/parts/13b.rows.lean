/-! ===== int arrays of the class as rows ===== -/
def xx_wk : List Value → List Value → Prop
  | [], [] => True
  | v :: t, w :: u => (w = xx_d ∨ w = v) ∧ xx_wk t u
  | _, _ => False
theorem xx_wk.get : ∀ {ls ls2 : List Value}, xx_wk ls ls2 → ∀ (i : Nat) (v : Value), ls2[i]? = some v → v = xx_d ∨ ls[i]? = some v
  | [], [], _, i, v, h => by simp at h
  | _ :: _, _ :: _, e, 0, v, h => by
    simp only [List.getElem?_cons_zero, Option.some.injEq] at h
    subst h
    rcases e.1 with h1 | h1
    · exact .inl h1
    · exact .inr (by rw [h1]; rfl)
  | _ :: _, _ :: _, e, i + 1, v, h => by
    simp only [List.getElem?_cons_succ] at h
    rcases xx_wk.get e.2 i v h with h1 | h1
    · exact .inl h1
    · exact .inr (by simp only [List.getElem?_cons_succ]; exact h1)
  | [], _ :: _, e, _, _, _ => False.elim e
  | _ :: _, [], e, _, _, _ => False.elim e
theorem sw_dum {Y : XY} {k n pc : Nat} {h : XH} {ls ls2 st : List Value} (e : xx_wk ls ls2) (kk : SW Y k n h pc ls2 st) : SW Y k n h pc ls st := fun ρ ow H locs cells slots lsA r9 =>
  kk ρ ow H locs cells slots lsA (r9.lc ⟨r9.L.1, r9.L.2.1, fun i v h1 h2 => r9.L.2.2 i v ((e.get i v h1).resolve_left h2) h2⟩ (fun v hv => by
    obtain ⟨i, hi⟩ := List.getElem?_of_mem hv
    rcases e.get i v hi with h1 | h1
    · rw [h1]; exact trivial
    · exact r9.lcl v (List.mem_of_getElem? h1)) r9.stk)
def xitB {S : Type} (step : Nat → S → S ⊕ S) : Nat → Nat → S → S
  | 0, _, s => s
  | f + 1, i, s => match step i s with
    | .inl s' => xitB step f (i + 1) s'
    | .inr s' => s'
theorem sw_forB {Y : XY} {k n : Nat} {S : Type} (step : Nat → S → S ⊕ S) (P : Nat → S → Prop) (PX : S → Prop) {hd ex : Nat} {hp : S → XH} {lc : Nat → S → List Value} {lx : S → List Value} {N : Nat}
    (hstep : ∀ i s, i < N → P i s → ((∀ s', step i s = .inl s' → P (i + 1) s') ∧ ∀ s', step i s = .inr s' → PX s') ∧ ((∀ s', step i s = .inl s' → SW Y k n (hp s') hd (lc (i + 1) s') []) → (∀ s', step i s = .inr s' → SW Y k n (hp s') ex (lx s') []) → SW Y k n (hp s) hd (lc i s) []))
    (hexit : ∀ s, P N s → PX s ∧ (SW Y k n (hp s) ex (lx s) [] → SW Y k n (hp s) hd (lc N s) [])) :
    ∀ (f i : Nat) (s : S), i + f = N → P i s → (PX (xitB step f i s) → SW Y k n (hp (xitB step f i s)) ex (lx (xitB step f i s)) []) → SW Y k n (hp s) hd (lc i s) []
  | 0, i, s, e, hP, kk => by
    obtain rfl : i = N := by omega
    exact (hexit s hP).2 (kk (hexit s hP).1)
  | f + 1, i, s, e, hP, kk => by
    obtain ⟨⟨h1, h2⟩, h3⟩ := hstep i s (by omega) hP
    unfold xitB at kk
    refine h3 (fun s' e' => ?_) (fun s' e' => ?_)
    · rw [e'] at kk
      exact sw_forB step P PX hstep hexit f (i + 1) s' (by omega) (h1 s' e') kk
    · rw [e'] at kk
      exact kk (h2 s' e')
theorem xitB_keep {S : Type} {step : Nat → S → S ⊕ S} {A : Type} (π : S → A) (h : ∀ i s s', step i s = .inl s' ∨ step i s = .inr s' → π s' = π s) : ∀ (f i : Nat) (s : S), π (xitB step f i s) = π s
  | 0, _, _ => rfl
  | f + 1, i, s => by
    unfold xitB
    split
    · rename_i s' e
      exact (xitB_keep π h f (i + 1) s').trans (h i s s' (.inl e))
    · rename_i s' e
      exact h i s s' (.inr e)
theorem xx_bool {v : Int32} (h : v = 0 ∨ v = 1) : narrow .boolean (.int v) = .int v := by rcases h with h | h <;> subst h <;> rfl
theorem vp_6 {w : Int32} (h0 : ¬ w < 0) (h1 : ¬ (6 : Int32) ≤ w) : vp_in w 6 := by
  intro h
  rcases h with h | h
  · exact h0 h
  · refine h1 (Int32.le_iff_toInt_le.mpr ?_)
    have h2 : (6 : Nat) ≤ w.toInt.toNat := h
    have h3 : (6 : Int32).toInt = 6 := by decide
    rw [h3]
    omega
def bsub (S i : Nat) : Nat := S - 2 ^ i
theorem bsub_lt {S : Nat} (i : Nat) (h : S < 64) : bsub S i < 64 := Nat.lt_of_le_of_lt (Nat.sub_le _ _) h
theorem bit_sub {S i : Nat} (hS : S < 64) (hi : i < 6) (h : ¬ (nI S &&& ((1 : Int32) <<< (nI i &&& 31))) = 0) : nI S - ((1 : Int32) <<< (nI i &&& 31)) = nI (bsub S i) := by
  have : ∀ S, S < 64 → ∀ i, i < 6 → ¬ (nI S &&& ((1 : Int32) <<< (nI i &&& 31))) = 0 → nI S - ((1 : Int32) <<< (nI i &&& 31)) = nI (bsub S i) := by decide +kernel
  exact this S hS i hi h
theorem bit_sub63 {i : Nat} (hi : i < 6) : (63 : Int32) - ((1 : Int32) <<< (nI i &&& 31)) = nI (bsub 63 i) := by
  have : ∀ i, i < 6 → (63 : Int32) - ((1 : Int32) <<< (nI i &&& 31)) = nI (bsub 63 i) := by decide +kernel
  exact this i hi
theorem nI_a1 (k : Nat) : nI k + 1 = nI (k + 1) := nI_1 k
theorem nI_s1 (k : Nat) : nI (k + 1) - 1 = nI k := by rw [Int32.sub_eq_add_neg]; exact pk_m1 k
def isA (r n : Nat) : Prop := (1000 ≤ r ∧ r < 4000) ∧ ∀ s, lyC r s = some (100, n, fun k => .int (s k))
def uR (σ : XS9) (r : Nat) (x : Nat → Int32) : XS9 := fun q => if q = r then x else σ q
theorem uR_ne {σ : XS9} {r q : Nat} {x : Nat → Int32} (e : q ≠ r) : uR σ r x q = σ q := if_neg e
theorem uR_eq (σ : XS9) (r : Nat) (x : Nat → Int32) : uR σ r x r = x := if_pos rfl
theorem u2_at {σ : XS9} {r i : Nat} {x : Int32} : u2 σ r i x r i = x := by rw [u2_eq]; exact if_pos rfl
theorem u2_oi {σ : XS9} {r i j : Nat} {x : Int32} (h : j ≠ i) : u2 σ r i x r j = σ r j := by rw [u2_eq]; exact if_neg h
theorem isA.get {r n : Nat} (a : isA r n) (σ : XS9) (h : XH) : setC σ h r = some (100, n, fun k => .int (σ r k)) := by
  unfold setC
  rw [if_pos a.1, a.2]
theorem isA.getE {r n : Nat} (a : isA r n) {σ : XS9} {h : XH} {f : Nat → Int32} (e : σ r = f) : setC σ h r = some (100, n, fun k => .int (f k)) := by rw [← e]; exact a.get σ h
theorem isA.put {r n i : Nat} {x : Int32} (a : isA r n) {σ : XS9} {h : XH} : xx_up (setC σ h) r (100, n, updV (fun k => .int (σ r k)) i (.int x)) = setC (u2 σ r i x) h := put_a a.1 a.2
theorem isA.putR {r n : Nat} {x : Nat → Int32} (a : isA r n) {σ : XS9} {h : XH} : xx_up (setC σ h) r (100, n, fun k => .int (x k)) = setC (uR σ r x) h := by
  funext q
  unfold xx_up setC
  by_cases e : q = r
  · subst e
    rw [if_pos rfl, if_pos a.1, uR_eq, a.2]
  · rw [if_neg e, uR_ne e]
theorem isA.of {r n : Nat} (h1 : 1000 ≤ r ∧ r < 4000) (h : ∀ s : Nat → Int32, setC (fun _ => s) (fun _ => none) r = some (100, n, fun k => .int (s k))) : isA r n := ⟨h1, fun s => by
  have := h s
  unfold setC at this
  rw [if_pos h1] at this
  exact this⟩
theorem ia_1010 : isA 1010 5 := ⟨by omega, fun _ => rfl⟩
theorem ia_1011 : isA 1011 5 := ⟨by omega, fun _ => rfl⟩
theorem ia_1012 : isA 1012 5 := ⟨by omega, fun _ => rfl⟩
theorem ia_1013 : isA 1013 5 := ⟨by omega, fun _ => rfl⟩
theorem ia_1014 : isA 1014 6 := ⟨by omega, fun _ => rfl⟩
theorem ia_1015 : isA 1015 6 := ⟨by omega, fun _ => rfl⟩
theorem ia_1016 : isA 1016 6 := ⟨by omega, fun _ => rfl⟩
theorem ia_1017 : isA 1017 6 := ⟨by omega, fun _ => rfl⟩
theorem ia_1020 : isA 1020 6 := ⟨by omega, fun _ => rfl⟩
theorem ia_1040 : isA 1040 6 := ⟨by omega, fun _ => rfl⟩
theorem ia_1041 : isA 1041 64 := ⟨by omega, fun _ => rfl⟩
theorem ia_1042 : isA 1042 64 := ⟨by omega, fun _ => rfl⟩
theorem ia_1043 : isA 1043 6 := ⟨by omega, fun _ => rfl⟩
theorem ia_1044 : isA 1044 5 := ⟨by omega, fun _ => rfl⟩
theorem ia_1150 : isA 1150 10 := ⟨by omega, fun _ => rfl⟩
theorem ia_1151 : isA 1151 10 := ⟨by omega, fun _ => rfl⟩
theorem ia_1152 : isA 1152 10 := ⟨by omega, fun _ => rfl⟩
theorem ia_1153 : isA 1153 6 := ⟨by omega, fun _ => rfl⟩
theorem ir_1021 {k : Nat} (hk : k < 6) : isA (1022 + k) 6 := .of (by omega) (fun s => lr_1021 (fun _ => s) (fun _ => none) hk)
theorem ir_1030 {k : Nat} (hk : k < 6) : isA (1031 + k) 6 := .of (by omega) (fun s => lr_1030 (fun _ => s) (fun _ => none) hk)
theorem ir_1050 {k : Nat} (hk : k < 64) : isA (1051 + k) 6 := .of (by omega) (fun s => lr_1050 (fun _ => s) (fun _ => none) hk)
theorem ir_1120 {k : Nat} (hk : k < 4) : isA (1121 + k) 5 := .of (by omega) (fun s => lr_1120 (fun _ => s) (fun _ => none) hk)
theorem ir_1130 {k : Nat} (hk : k < 3) : isA (1131 + k) 6 := .of (by omega) (fun s => lr_1130 (fun _ => s) (fun _ => none) hk)
theorem ir_1140 {k : Nat} (hk : k < 5) : isA (1141 + k) 5 := .of (by omega) (fun s => lr_1140 (fun _ => s) (fun _ => none) hk)
theorem ik_1 {b : Nat} (hb : b = 2000 ∨ b = 3000) : isA (b + 1) 5 := .of (by omega) (fun s => lk_1 (fun _ => s) (fun _ => none) hb)
theorem ik_2 {b : Nat} (hb : b = 2000 ∨ b = 3000) : isA (b + 2) 6 := .of (by omega) (fun s => lk_2 (fun _ => s) (fun _ => none) hb)
theorem ik_3 {b : Nat} (hb : b = 2000 ∨ b = 3000) : isA (b + 3) 6 := .of (by omega) (fun s => lk_3 (fun _ => s) (fun _ => none) hb)
theorem ik_4 {b : Nat} (hb : b = 2000 ∨ b = 3000) : isA (b + 4) 6 := .of (by omega) (fun s => lk_4 (fun _ => s) (fun _ => none) hb)
theorem ik_5 {b : Nat} (hb : b = 2000 ∨ b = 3000) : isA (b + 5) 6 := .of (by omega) (fun s => lk_5 (fun _ => s) (fun _ => none) hb)
theorem ik_6 {b : Nat} (hb : b = 2000 ∨ b = 3000) : isA (b + 6) 6 := .of (by omega) (fun s => lk_6 (fun _ => s) (fun _ => none) hb)
theorem ik_7 {b : Nat} (hb : b = 2000 ∨ b = 3000) : isA (b + 7) 60 := .of (by omega) (fun s => lk_7 (fun _ => s) (fun _ => none) hb)
theorem ik_8 {b : Nat} (hb : b = 2000 ∨ b = 3000) : isA (b + 8) 60 := .of (by omega) (fun s => lk_8 (fun _ => s) (fun _ => none) hb)
theorem ikr_100 {b k : Nat} (hb : b = 2000 ∨ b = 3000) (hk : k < 60) : isA (b + 101 + k) 5 := .of (by omega) (fun s => lkr_100 (fun _ => s) (fun _ => none) hb hk)
theorem ikr_200 {b k : Nat} (hb : b = 2000 ∨ b = 3000) (hk : k < 60) : isA (b + 201 + k) 6 := .of (by omega) (fun s => lkr_200 (fun _ => s) (fun _ => none) hb hk)
theorem ikr_300 {b k : Nat} (hb : b = 2000 ∨ b = 3000) (hk : k < 60) : isA (b + 301 + k) 6 := .of (by omega) (fun s => lkr_300 (fun _ => s) (fun _ => none) hb hk)
