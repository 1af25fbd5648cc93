/-! ===== loops that only look ===== -/
section
variable {σ τ s t : XS9} {x y laid : Int32} {i j m C ch u qa : Nat} {rg : Nat → Nat}
theorem xitR_one {R : Type} {step : Nat → Unit → Unit ⊕ R} : ∀ (f i : Nat), ((∀ k, i ≤ k → k < i + f → step k () = .inl ()) → xitR step f i () = .inl ()) ∧ (∀ k r, i ≤ k → k < i + f → step k () = .inr r → ∃ k' r', i ≤ k' ∧ k' < i + f ∧ step k' () = .inr r' ∧ xitR step f i () = .inr r')
  | 0, i => ⟨fun _ => rfl, fun k r a b => absurd b (by omega)⟩
  | f + 1, i => by
    have ih := xitR_one (step := step) f (i + 1)
    refine ⟨fun h => ?_, fun k r a b e => ?_⟩
    · unfold xitR
      rw [h i (Nat.le_refl i) (by omega)]
      exact ih.1 fun k a b => h k (by omega) (by omega)
    · unfold xitR
      cases q : step i () with
      | inl w =>
        cases w
        have : k ≠ i := fun z => by rw [z, q] at e; cases e
        obtain ⟨k', r', a', b', c', d'⟩ := ih.2 k r (by omega) (by omega) e
        exact ⟨k', r', by omega, by omega, c', d'⟩
      | inr w => exact ⟨i, w, Nat.le_refl i, by omega, q, rfl⟩
/-- two stations disturb each other -/
def nearM (τ : XS9) (rg : Nat → Nat) (a b : Nat) : Prop := rg a = rg b ∨ bt (τ (5010 + rg a) 3) (rg b) = true
theorem dist_eq {a b : Nat} (ha : rg a < 5) (hb : rg b < 5) : f_MareDisturbing τ a b rg = 0 ↔ ¬ nearM τ rg a b := by
  unfold f_MareDisturbing nearM
  by_cases e : rg a = rg b
  · rw [if_pos (by rw [e])]
    exact ⟨fun q => absurd q (by decide), fun q => absurd (.inl e) q⟩
  · rw [if_neg (fun q => e (nI_inj (by omega) (by omega) q))]
    by_cases h : bt (τ (5010 + rg a) 3) (rg b) = true
    · rw [if_pos ((b_tst1 (by omega)).1.mpr h)]
      exact ⟨fun q => absurd q (by decide), fun q => absurd (.inr h) q⟩
    · rw [if_neg (fun q => h ((b_tst1 (by omega)).1.mp q))]
      exact ⟨fun _ q => q.elim e h, fun _ => rfl⟩
theorem free_eq (hrg : ∀ j, j < C → rg j < 5) (hi : i < C) (hC10 : C ≤ 10) : f_MisFree τ laid i rg = 0 ↔ ∃ j, j < i ∧ bt laid j = true ∧ nearM τ rg j i := by
  unfold f_MisFree x_MisFree_2
  have st : ∀ k, k < i → ((bt laid k = true ∧ nearM τ rg k i) → (if ((laid >>> ((nI k) &&& 31)) &&& 1) = 1 then (if (f_MareDisturbing τ k i rg) = 0 then (.inl () : Unit ⊕ Int32) else .inr 0) else .inl ()) = .inr 0) ∧ (¬ (bt laid k = true ∧ nearM τ rg k i) → (if ((laid >>> ((nI k) &&& 31)) &&& 1) = 1 then (if (f_MareDisturbing τ k i rg) = 0 then (.inl () : Unit ⊕ Int32) else .inr 0) else .inl ()) = .inl ()) := fun k hk => by
    have d := dist_eq (τ := τ) (rg := rg) (a := k) (b := i) (hrg k (by omega)) (hrg i hi)
    refine ⟨fun h => ?_, fun h => ?_⟩
    · rw [if_pos ((b_tst1 (by omega)).1.mpr h.1), if_neg (fun q => d.mp q h.2)]
    · by_cases b : bt laid k = true
      · rw [if_pos ((b_tst1 (by omega)).1.mpr b), if_pos (d.mpr fun q => h ⟨b, q⟩)]
      · rw [if_neg (fun q => b ((b_tst1 (by omega)).1.mp q))]
  have L := xitR_one (step := fun i2 (_ : Unit) => (if ((laid >>> ((nI i2) &&& 31)) &&& 1) = 1 then (if (f_MareDisturbing τ i2 i rg) = 0 then (.inl () : Unit ⊕ Int32) else .inr 0) else .inl ())) i 0
  rcases Classical.em (∃ j, j < i ∧ bt laid j = true ∧ nearM τ rg j i) with h | h
  · obtain ⟨j, hj, hb⟩ := h
    obtain ⟨k', r', a', b', c', d'⟩ := L.2 j 0 (Nat.zero_le _) (by omega) ((st j hj).1 hb)
    have r0 : r' = 0 := by
      have := (st k' (by omega)).1
      by_cases z : bt laid k' = true ∧ nearM τ rg k' i
      · rw [this z] at c'
        exact (Sum.inr.inj c').symm
      · rw [(st k' (by omega)).2 z] at c'
        cases c'
    have d2 : xitR (fun i2 s2 => (if ((laid >>> ((nI i2) &&& 31)) &&& 1) = 1 then (if (f_MareDisturbing τ i2 i rg) = 0 then (.inl () : Unit ⊕ Int32) else .inr 0) else .inl ())) i 0 () = .inr r' := d'
    rw [d2, r0]
    exact ⟨fun _ => ⟨j, hj, hb⟩, fun _ => rfl⟩
  · have d2 : xitR (fun i2 s2 => (if ((laid >>> ((nI i2) &&& 31)) &&& 1) = 1 then (if (f_MareDisturbing τ i2 i rg) = 0 then (.inl () : Unit ⊕ Int32) else .inr 0) else .inl ())) i 0 () = .inl () := L.1 fun k _ hk => (st k (by omega)).2 fun q => h ⟨k, by omega, q⟩
    rw [d2]
    exact ⟨fun q => absurd q (by decide), fun q => absurd q h⟩
/-! ===== the class's table of who disturbs whom ===== -/
def nearC (σ : XS9) (rg : Nat → Nat) (a b : Nat) : Prop := rg a = rg b ∨ bt (σ 1013 (rg a)) (rg b) = true
theorem nb_eq {a b : Nat} (hb : b < 32) : f_areNeighbours σ a b = 0 ↔ ¬ bt (σ 1013 a) b = true := by
  unfold f_areNeighbours
  have e := b_tst2 (x := σ 1013 a) (j := b) hb
  cases h : bt (σ 1013 a) b with
  | true =>
    rw [if_neg (fun q => by rw [e.mp q] at h; cases h)]
    exact ⟨fun q => absurd q (by decide), fun q => absurd rfl q⟩
  | false =>
    rw [if_pos (e.mpr h)]
    exact ⟨fun _ q => (by cases q), fun _ => rfl⟩
def stDs (rg : Nat → Nat) (a k : Nat) (s : XS9) : XS9 := (if (nI (rg a)) = (nI (rg k)) then (if (nI a) = (nI k) then s else u2 s 1152 a ((s 1152 a) ||| (1 <<< ((nI k) &&& 31)))) else (if (f_areNeighbours s (rg a) (rg k)) = 0 then s else (if (nI a) = (nI k) then s else u2 s 1152 a ((s 1152 a) ||| (1 <<< ((nI k) &&& 31))))))
theorem stDs_eq (hrg : ∀ j, j < C → rg j < 5) (hC10 : C ≤ 10) {a k : Nat} (ha : a < C) (hk : k < C) {s : XS9} (hs : ∀ q, q ≠ 1152 → s q = σ q) : ((k ≠ a ∧ nearC σ rg a k) → stDs rg a k s = u2 s 1152 a ((s 1152 a) ||| (1 <<< ((nI k) &&& 31)))) ∧ (¬ (k ≠ a ∧ nearC σ rg a k) → stDs rg a k s = s) := by
  have ra := hrg a ha
  have rk := hrg k hk
  have n1 : f_areNeighbours s (rg a) (rg k) = 0 ↔ ¬ bt (σ 1013 (rg a)) (rg k) = true := by
    have := nb_eq (σ := s) (a := rg a) (b := rg k) (by omega)
    rw [hs 1013 (by decide)] at this
    exact this
  unfold stDs
  refine ⟨fun h => ?_, fun h => ?_⟩
  · have ne : ¬ nI a = nI k := fun q => h.1 (nI_inj (by omega) (by omega) q).symm
    rcases h.2 with q | q
    · rw [if_pos (show nI (rg a) = nI (rg k) by rw [q]), if_neg ne]
    · by_cases e1 : nI (rg a) = nI (rg k)
      · rw [if_pos e1, if_neg ne]
      · rw [if_neg e1, if_neg (show ¬ f_areNeighbours s (rg a) (rg k) = 0 from fun z => n1.mp z q), if_neg ne]
  · by_cases e2 : k = a
    · subst e2
      rw [if_pos rfl, if_pos rfl]
    · have hn : ¬ nearC σ rg a k := fun q => h ⟨e2, q⟩
      rw [if_neg (show ¬ nI (rg a) = nI (rg k) from fun q => hn (.inl (nI_inj (by omega) (by omega) q))), if_pos (n1.mpr fun q => hn (.inr q))]
theorem dist_in (hrg : ∀ j, j < C → rg j < 5) (hC10 : C ≤ 10) {a : Nat} (ha : a < C) (s : XS9) (hs : ∀ q, q ≠ 1152 → s q = σ q) : (∀ q, q ≠ 1152 → xit (stDs rg a) C 0 s q = σ q) ∧ (∀ b, b ≠ a → xit (stDs rg a) C 0 s 1152 b = s 1152 b) ∧ ∀ j, j < 32 → (bt (xit (stDs rg a) C 0 s 1152 a) j = true ↔ (bt (s 1152 a) j = true ∨ (j < C ∧ j ≠ a ∧ nearC σ rg a j))) := by
  refine xit_ind (fun k s' => (∀ q, q ≠ 1152 → s' q = σ q) ∧ (∀ b, b ≠ a → s' 1152 b = s 1152 b) ∧ ∀ j, j < 32 → (bt (s' 1152 a) j = true ↔ (bt (s 1152 a) j = true ∨ (j < k ∧ j ≠ a ∧ nearC σ rg a j)))) (N := C) (fun k s' hk hP => ?_) C 0 s (Nat.zero_add _) ⟨hs, fun _ _ => rfl, fun j _ => ⟨.inl, fun h => h.elim id (fun q => absurd q.1 (by omega))⟩⟩
  obtain ⟨p1, p2, p3⟩ := hP
  obtain ⟨q1, q2⟩ := stDs_eq (σ := σ) hrg hC10 ha hk p1
  rcases Classical.em (k ≠ a ∧ nearC σ rg a k) with h | h
  · rw [q1 h]
    refine ⟨fun q hq => (u2_ne hq).trans (p1 q hq), fun b hb => (u2_oi hb).trans (p2 b hb), fun j hj => ?_⟩
    rw [u2_at, b_or, b_bit (by omega) hj, Bool.or_eq_true, p3 j hj]
    by_cases jk : j = k
    · subst jk
      exact ⟨fun _ => .inr ⟨by omega, h.1, h.2⟩, fun _ => .inr (decide_eq_true rfl)⟩
    · rw [decide_eq_false jk]
      constructor
      · rintro ((z | ⟨z1, z2⟩) | z)
        · exact .inl z
        · exact .inr ⟨by omega, z2⟩
        · cases z
      · rintro (z | ⟨z1, z2⟩)
        · exact .inl (.inl z)
        · exact .inl (.inr ⟨by omega, z2⟩)
  · rw [q2 h]
    refine ⟨p1, p2, fun j hj => ?_⟩
    rw [p3 j hj]
    constructor
    · rintro (z | ⟨z1, z2⟩)
      · exact .inl z
      · exact .inr ⟨by omega, z2⟩
    · rintro (z | ⟨z1, z3, z4⟩)
      · exact .inl z
      · by_cases jk : j = k
        · subst jk
          exact absurd ⟨z3, z4⟩ h
        · exact .inr ⟨by omega, z3, z4⟩
/-- each row of the table is done -/
def DISr (σ : XS9) (rg : Nat → Nat) (C : Nat) (s : XS9) : Prop := ∀ a, a < C → ∀ j, j < 32 → (bt (s 1152 a) j = true ↔ (j < C ∧ j ≠ a ∧ nearC σ rg a j))
theorem dist_all (hrg : ∀ j, j < C → rg j < 5) (hC10 : C ≤ 10) : DISr σ rg C (g_findDisturbed σ C rg) ∧ ∀ q, q ≠ 1152 → g_findDisturbed σ C rg q = σ q := by
  refine ⟨?_, fun q hq => fr_findDisturbed hq⟩
  unfold g_findDisturbed x_findDisturbed_2
  have H : ∀ (f k : Nat) (s : XS9), k + f = C → (∀ q, q ≠ 1152 → s q = σ q) → (∀ a, a < k → ∀ j, j < 32 → (bt (s 1152 a) j = true ↔ (j < C ∧ j ≠ a ∧ nearC σ rg a j))) → DISr σ rg C (xit (fun i2 s2 => (x_findDisturbed_19 σ C rg i2 (u2 s2 1152 i2 0))) f k s) := by
    intro f
    induction f with
    | zero =>
      intro k s e hs h a ha
      exact h a (by omega)
    | succ f ih =>
      intro k s e hs h
      have hk : k < C := by omega
      obtain ⟨r1, r2, r3⟩ := dist_in (σ := σ) hrg hC10 hk (u2 s 1152 k 0) (fun q hq => (u2_ne hq).trans (hs q hq))
      refine ih (k + 1) (xit (stDs rg k) C 0 (u2 s 1152 k 0)) (by omega) r1 (fun a ha j hj => ?_)
      by_cases e1 : a = k
      · subst e1
        have := r3 j hj
        rw [u2_at, b_0] at this
        refine this.trans ⟨?_, ?_⟩
        · rintro (z | z)
          · cases z
          · exact z
        · exact fun z => .inr z
      · rw [(r2 a e1).trans (u2_oi e1)]
        exact h a (by omega) j hj
  exact H C 0 σ (Nat.zero_add _) (fun _ _ => rfl) (fun a ha => absurd ha (by omega))
end
