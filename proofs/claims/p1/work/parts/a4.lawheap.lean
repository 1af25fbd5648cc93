/-! ===== other names ===== -/
def vk (κ : Nat → Nat) (v : Value) : Value := match v with
  | .ref a => .ref (κ a)
  | v => v
theorem vk_v {κ : Nat → Nat} {ρ ρ' : Nat → Nat} {h : XH} (hk : ∀ a, (h a).isSome = true → ρ' (κ a) = ρ a) {v : Value} (hv : xx_in h v) : xx_v ρ' (vk κ v) = xx_v ρ v := by
  cases v with
  | ref a => exact congrArg Value.ref (hk a hv)
  | _ => rfl
theorem xx_cell_ren {D : XD} {ρ ρ' : Nat → Nat} {ow ow' : Nat → Option Nat} {r r' : Nat} {c c' : XC} {H : Heap} (h : xx_cell D ρ ow r c H) (hr : ρ' r' = ρ r) (hw : ∀ a, ow a = some r → ow' a = some r') (hlo : (r < 1000 → r' = r) ∧ (1000 ≤ r → 1000 ≤ r')) (h1 : c'.1 = c.1) (h2 : c'.2.1 = c.2.1) (hf : ∀ j, j < c.2.1 → xx_v ρ' (c'.2.2 j) = xx_v ρ (c.2.2 j)) : xx_cell D ρ' ow' r' c' H := by
  obtain ⟨t, N, f⟩ := c
  obtain ⟨t', N', f'⟩ := c'
  dsimp only at h1 h2 hf
  subst h1
  subst h2
  refine ⟨fun q => ?_, fun q => ?_⟩
  · have q2 : r < 1000 := Nat.not_le.mp fun z => by have := hlo.2 z; omega
    have e := hlo.1 q2
    subst e
    exact (h.1 q).ren (by rw [hr]) hf
  · have q2 : 1000 ≤ r := Nat.not_lt.mp fun z => by have := hlo.1 z; omega
    exact (h.2 q2).ren hr hw hf
theorem sw_ren {Y : XY} {k n pc : Nat} {h h' : XH} {ls st : List Value} (κ κ' : Nat → Nat) (hinv : ∀ r, (h r).isSome = true → κ' (κ r) = r) (hY : ∀ r, (xy_h Y r).isSome = true → κ r = r) (hlo : ∀ r, (h r).isSome = true → (r < 1000 → κ r = r) ∧ (1000 ≤ r → 1000 ≤ κ r))
    (hh : ∀ r' c', h' r' = some c' → ∃ r c, h r = some c ∧ κ r = r' ∧ c'.1 = c.1 ∧ c'.2.1 = c.2.1 ∧ ∀ j, j < c.2.1 → c'.2.2 j = vk κ (c.2.2 j)) (hdom : ∀ r, (h r).isSome = true → (h' (κ r)).isSome = true) (hl : ∀ v ∈ ls, vk κ v = v) (hst : ∀ v ∈ st, vk κ v = v) (kk : SW Y k n h' pc ls st) : SW Y k n h pc ls st := by
  intro ρ ow H locs cells slots lsA r9
  obtain ⟨⟨s1, s2, s3, s4, s5⟩, ag, r3, r4, r5, r6, r7, r8⟩ := r9
  have hρ : ∀ a, (h a).isSome = true → (fun q => ρ (κ' q)) (κ a) = ρ a := fun a ha => congrArg ρ (hinv a ha)
  have up : ∀ v, xx_in h v → vk κ v = v → xx_in h' v := fun v hv e => by
    cases v with
    | ref a =>
      have := hdom a hv
      rw [show κ a = a from Value.ref.inj e] at this
      exact this
    | _ => exact trivial
  have ev : ∀ v, xx_in h v → vk κ v = v → xx_v (fun q => ρ (κ' q)) v = xx_v ρ v := fun v hv e => by
    have := vk_v (κ := κ) (ρ := ρ) (ρ' := fun q => ρ (κ' q)) hρ hv
    rw [e] at this
    exact this
  have em : st.map (xx_v ρ) = st.map (xx_v (fun q => ρ (κ' q))) := List.map_congr_left fun v hv => (ev v (r8 v hv) (hst v hv)).symm
  rw [em]
  refine kk (fun q => ρ (κ' q)) (fun a => (ow a).map κ) H locs cells slots lsA ⟨⟨s1, s2, fun a r' e => ?_, fun r' c' e => ?_, fun r' c' j e hj => ?_⟩, fun r hr => ?_, r3, r4, r5, ?_, fun v hv => up v (r7 v hv) (hl v hv), fun v hv => up v (r8 v hv) (hst v hv)⟩
  · cases e9 : ow a with
    | none =>
      have e' : (ow a).map κ = some r' := e
      rw [e9] at e'
      cases e'
    | some r => exact s3 a r e9
  · obtain ⟨r, c, e1, e2, e3, e4, e5⟩ := hh r' c' e
    obtain ⟨a1, a2⟩ := s4 r c e1
    have hs : (h r).isSome = true := by rw [e1]; rfl
    have hp : ρ (κ' r') = ρ r := by rw [← e2]; exact hρ r hs
    refine ⟨?_, xx_cell_ren a2 hp (fun a ha => by show (ow a).map κ = some r'; rw [ha, ← e2]; rfl) (by have := hlo r (by rw [e1]; rfl); rw [← e2]; exact this) e3 e4 (fun j hj => by rw [e5 j hj]; exact vk_v (κ := κ) (ρ := ρ) (ρ' := fun q => ρ (κ' q)) hρ (s5 r c j e1 hj))⟩
    rcases a1 with ⟨b1, b2, b3⟩ | ⟨b1, b2⟩
    · have := (hlo r hs).1 b1
      left
      show r' < 1000 ∧ (c'.1 < 300 → ρ (κ' r') < _) ∧ ρ (κ' r') = _
      rw [hp, ← e2, this]
      exact ⟨b1, fun q => b2 (by rw [← e3]; exact q), b3⟩
    · right
      show 1000 ≤ r' ∧ (ow (ρ (κ' r'))).map κ = some r'
      rw [hp, b2, ← e2]
      exact ⟨(hlo r hs).2 b1, rfl⟩
  · obtain ⟨r, c, e1, e2, e3, e4, e5⟩ := hh r' c' e
    rw [e4] at hj
    rw [e5 j hj]
    have := s5 r c j e1 hj
    revert this
    cases c.2.2 j with
    | ref a => exact fun h9 => hdom a h9
    | _ => exact fun _ => trivial
  · have h2 := ag r hr
    have hk := hY r hr
    refine ⟨?_, ?_⟩
    · have := hdom r h2.1
      rw [hk] at this
      exact this
    · show ρ (κ' r) = _
      have := hρ r h2.1
      dsimp only at this
      rw [hk] at this
      rw [this]
      exact h2.2
  · refine ⟨r6.1, r6.2.1, fun i v hi hv => ?_⟩
    rw [ev v (r7 v (List.mem_of_getElem? hi)) (hl v (List.mem_of_getElem? hi))]
    exact r6.2.2 i v hi hv
/-! ===== the heap of the law ===== -/
theorem mc_comm {z : Int64} {τ σ : XS9} {h : XH} : setM z τ (setC σ h) = setC σ (setM z τ h) := by
  funext q
  by_cases a : 1000 ≤ q ∧ q < 4000
  · rw [setM_out (by omega)]
    unfold setC
    rw [if_pos a, if_pos a]
  · rw [setC_out a]
    by_cases b : 5000 ≤ q ∧ q < 20010
    · unfold setM
      rw [if_pos b, if_pos b]
      cases e : lyQ z (ctl τ) q (τ q) with
      | none => exact setC_out a
      | some c => rfl
    · rw [setM_out b, setM_out b, setC_out a]
def fO (n : Int64) (v : Value) : Nat → Value := fun k => match k with | 0 => .long n | 1 => v | _ => .null
def hO (h0 : XH) (n : Int64) : Option (Nat × (Nat → Value)) → XH
  | none => xx_up h0 4500 (14, 2, fO n .null)
  | some (c, G) => xx_up (xx_up (xx_up h0 4500 (14, 2, fO n (.ref 4502))) 4502 (0, 4, xx_so 4503)) 4503 (102, c, G)
def sO : Option (Nat × (Nat → Value)) → Value
  | none => .null
  | some _ => .ref 4502
theorem hO_4500 {h0 : XH} {n : Int64} {s : Option (Nat × (Nat → Value))} : hO h0 n s 4500 = some (14, 2, fO n (sO s)) := by
  cases s with
  | none => exact xx_up_eq _ _ _
  | some p => exact (xx_up_ne (by omega)).trans ((xx_up_ne (by omega)).trans (xx_up_eq _ _ _))
theorem hO_o {h0 : XH} {n : Int64} {s : Option (Nat × (Nat → Value))} {q : Nat} (h1 : q ≠ 4500) (h2 : q ≠ 4502) (h3 : q ≠ 4503) : hO h0 n s q = h0 q := by
  cases s with
  | none => exact xx_up_ne h1
  | some p => exact (xx_up_ne h3).trans ((xx_up_ne h2).trans (xx_up_ne h1))
theorem hO_n {h0 : XH} {n m : Int64} {s : Option (Nat × (Nat → Value))} : xx_up (hO h0 n s) 4500 (14, 2, updV (fO n (sO s)) 0 (.long m)) = hO h0 m s := by
  have e : ∀ v, updV (fO n v) 0 (.long m) = fO m v := fun v => by
    funext k
    match k with
    | 0 => rfl
    | 1 => rfl
    | k + 2 => rfl
  rw [e]
  funext q
  by_cases a : q = 4500
  · rw [a, xx_up_eq, hO_4500]
  · rw [xx_up_ne a]
    cases s with
    | none => exact (xx_up_ne a).trans (xx_up_ne a).symm
    | some p =>
      unfold hO xx_up
      simp only [if_neg a]
def hL (h0 : XH) (z : Int64) (τ σ : XS9) (n : Int64) (s : Option (Nat × (Nat → Value))) : XH := setM z τ (setC σ (hO h0 n s))
section
variable {h0 : XH} {z : Int64} {τ σ : XS9} {n : Int64} {s : Option (Nat × (Nat → Value))}
theorem hL_c : hL h0 z τ σ n s = setC σ (setM z τ (hO h0 n s)) := mc_comm
theorem hL_4500 : hL h0 z τ σ n s 4500 = some (14, 2, fO n (sO s)) := (setM_out (by omega)).trans ((setC_out (by omega)).trans hO_4500)
theorem hL_1000 : ∃ f, hL h0 z τ σ n s 1000 = some (13, 12, f) := ⟨_, by rw [hL_c]; exact ly_1000 σ _⟩
theorem hL_lo {q : Nat} (hq : q < 1000) : hL h0 z τ σ n s q = h0 q := (setM_out (by omega)).trans ((setC_out (by omega)).trans (hO_o (by omega) (by omega) (by omega)))
theorem hL_n {σ' : XS9} {m : Int64} : xx_up (setC σ' (setM z τ (hO h0 n s))) 4500 (14, 2, updV (fO n (sO s)) 0 (.long m)) = hL h0 z τ σ' m s := by
  rw [← setC_up (by omega), ← setM_up (.inl (by omega)), hO_n, hL_c]
def lw_n (n : Int64) (o : Int32 ⊕ String) (f : Int32 → Int64) : Int64 := match o with | .inl v => f v | .inr _ => n
theorem lw_g_e {σ' : XS9} {o : Int32 ⊕ String} {f : Int32 → Int64} : lw_g (setC σ' (setM z τ (hO h0 n s))) (fO n (sO s)) o f = hL h0 z τ σ' (lw_n n o f) s := by
  cases o with
  | inl v => exact hL_n
  | inr E => exact hL_c.symm
/-- what the law's own heap has before it makes anything -/
def okB (h0 : XH) : Prop := xx_bs h0 ∧ xx_tl h0 ∧ ∀ r, 1000 ≤ r → h0 r = none
/-- what a method of the class may take of the heap behind it -/
def okC (h : XH) : Prop := (∃ h0 z τ n s, okB h0 ∧ h = setM z τ (hO h0 n s))
/-- what a method of the reference may take of the heap behind it -/
def okM (h : XH) : Prop := (∃ h0 σ n s, okB h0 ∧ h = setC σ (hO h0 n s))
theorem okC.dig {h : XH} (a : okC h) : xx_dig h := by
  obtain ⟨h0, z, τ, n, s, b, rfl⟩ := a
  obtain ⟨F, e, e2⟩ := b.2.1.2
  exact ⟨F, (setM_out (by omega)).trans ((hO_o (by omega) (by omega) (by omega)).trans e), e2⟩
theorem okC.no {h : XH} (a : okC h) {q : Nat} (h1 : 4000 ≤ q) (h2 : q < 4500) : h q = none := by
  obtain ⟨h0, z, τ, n, s, b, rfl⟩ := a
  exact (setM_out (by omega)).trans ((hO_o (by omega) (by omega) (by omega)).trans (b.2.2 q (by omega)))
theorem okM.lo {h0 : XH} {σ : XS9} {n : Int64} {s : Option (Nat × (Nat → Value))} {q : Nat} (hq : q < 1000 ∨ 5000 ≤ q) : setC σ (hO h0 n s) q = h0 q := (setC_out (by omega)).trans (hO_o (by omega) (by omega) (by omega))
theorem okM.bs {h : XH} (a : okM h) : xx_bs h := by
  obtain ⟨h0, σ, n, s, b, rfl⟩ := a
  obtain ⟨⟨f0, a1⟩, ⟨c3, a2⟩, a3, a4, a5, a6⟩ := b.1
  exact ⟨⟨f0, (okM.lo (by omega)).trans a1⟩, ⟨c3, (okM.lo (by omega)).trans a2⟩, (okM.lo (by omega)).trans a3, fun j hj => (okM.lo (by omega)).trans (a4 j hj), (okM.lo (by omega)).trans a5, (okM.lo (by omega)).trans a6⟩
theorem okM.tl {h : XH} (a : okM h) : xx_tl h := by
  obtain ⟨h0, σ, n, s, b, rfl⟩ := a
  obtain ⟨⟨a1, a2, a3⟩, F, a4, a5⟩ := b.2.1
  exact ⟨⟨tx_at a1 (okM.lo (by omega)) (okM.lo (by omega)), tx_at a2 (okM.lo (by omega)) (okM.lo (by omega)), tx_at a3 (okM.lo (by omega)) (okM.lo (by omega))⟩, F, (okM.lo (by omega)).trans a4, a5⟩
theorem okM.no {h : XH} (a : okM h) {q : Nat} (h1 : 5000 ≤ q) : h q = none := by
  obtain ⟨h0, σ, n, s, b, rfl⟩ := a
  exact (okM.lo (.inr h1)).trans (b.2.2 q (by omega))
end
