def stK (ch C i : Nat) (p : XS9 × Int32 × Int32) : XS9 × Int32 × Int32 := (if p.2.2 ≤ (f_asksOf p.1 (nI i) C) then (p.1, p.2.1, p.2.2) else (if (f_packAgain p.1 ((nI (2 ^ C - 1)) - (nI i)) ch C) = 0 then (g_packAgain p.1 ((nI (2 ^ C - 1)) - (nI i)) ch C, p.2.1, p.2.2) else (g_packAgain p.1 ((nI (2 ^ C - 1)) - (nI i)) ch C, nI i, f_asksOf p.1 (nI i) C)))
def stKM (σ : XS9) (ch C : Nat) (rg : Nat → Nat) (i : Nat) (p : XS9 × Int32 × Int32) : XS9 × Int32 × Int32 := (if p.2.2 ≤ (x_MclearNow_41 σ C p i 0) then (p.1, p.2.1, p.2.2) else (if (f_Mcp p.1 ((nI (2 ^ C - 1)) &&& ((nI i) ^^^ (-1))) 0 C rg 20000 ch) = 0 then (g_Mcp p.1 ((nI (2 ^ C - 1)) &&& ((nI i) ^^^ (-1))) 0 C rg 20000 ch, p.2.1, p.2.2) else (g_Mcp p.1 ((nI (2 ^ C - 1)) &&& ((nI i) ^^^ (-1))) 0 C rg 20000 ch, nI i, (x_MclearNow_41 σ C p i 0))))
section
variable {τ σ : XS9} {x : Int32} {C ch R : Nat}
/-- both searches so far -/
def KI (D t0 : XS9) (t : Nat → Nat) (C : Nat) (pc pm : XS9 × Int32 × Int32) : Prop := (∀ q, q ≠ 1153 → pc.1 q = D q) ∧ pm.1 = t0 ∧ ((pm.2 = (nI (2 ^ C - 1), 2147483647) ∧ pc.2 = (nI (2 ^ C - 1), nI (asN t (2 ^ C - 1) C))) ∨ ∃ m, asN t m C < asN t (2 ^ C - 1) C ∧ pc.2 = (nI m, nI (asN t m C)) ∧ pm.2 = pc.2)
theorem cheap_eq (h : RA τ σ) (hb : RB τ) (r : JR τ) (rs : RS τ) (hch : ch ≤ 6) : f_cheapest σ ch (mC τ) (arg σ) = f_MclearNow (u2 τ 5000 0 0) ch R (mC τ) (mrg τ) := by
  have hC10 := r.hS.2
  obtain ⟨p1, p2⟩ := pow_le10 hC10
  obtain ⟨t, et⟩ : ∃ t : Nat → Nat, t = fun j => cn (τ 5004 (2 * j + 1)) := ⟨_, rfl⟩
  have tb : ∀ j, j < mC τ → t j ≤ 9999 := fun j hj => by rw [et]; exact (rs j hj).1.2
  have t1 : ∀ j, j < mC τ → 1 ≤ t j := fun j hj => by
    rw [et]
    exact Nat.pos_of_ne_zero fun e => (rs j hj).2 (by rw [(rs j hj).1.1, (show cn (τ 5004 (2 * j + 1)) = 0 from e)]; rfl)
  have tm : ∀ j, j < mC τ → τ 5004 (2 * j + 1) = nI (t j) := fun j hj => by rw [et]; exact (rs j hj).1.1
  have tc : ∀ j, j < mC τ → σ 1150 j = nI (t j) := fun j hj => by rw [(h.2.2.2.2.1 j (by omega)).1]; exact tm j hj
  have al : ∀ m, asN t m (mC τ) ≤ 99990 := fun m => Nat.le_trans (asN_le tb) (by omega)
  obtain ⟨D, eD⟩ : ∃ D, D = g_findDisturbed σ (mC τ) (arg σ) := ⟨_, rfl⟩
  obtain ⟨t0, e0⟩ : ∃ t0, t0 = uR (u2 τ 5000 0 0) 20000 (rowN ch) := ⟨_, rfl⟩
  have d1150 : D 1150 = σ 1150 := by rw [eD, fr_findDisturbed (by decide)]
  have m0 : ∀ a, a < 5 → t0 (5010 + a) = τ (5010 + a) := fun a ha => by rw [e0, uR_ne (by omega), u2_ne (by omega)]
  have mr : t0 20000 = rowN ch := by rw [e0, uR_eq]
  have same : ∀ x, g_Mcp t0 x 0 (mC τ) (mrg τ) 20000 ch = t0 := fun x => pk_same hC10 (mC τ) t0 0 (Nat.zero_le _) (by omega) fun c hc => ⟨0, Nat.one_pos, by
    rw [mr]
    unfold rowN
    rw [if_neg (by omega), if_neg (by omega)]
    rfl⟩
  have av : ∀ m (p : XS9 × Int32 × Int32), x_MclearNow_41 (u2 τ 5000 0 0) (mC τ) p m 0 = nI (asN t m (mC τ)) := fun m p => asN_m hC10 fun j hj => by rw [u2_ne (by decide)]; exact tm j hj
  have pcs : ∀ m (p : XS9 × Int32 × Int32), (∀ q, q ≠ 1153 → p.1 q = D q) → f_asksOf p.1 (nI m) (mC τ) = nI (asN t m (mC τ)) := fun m p e => asN_c hC10 fun j hj => by rw [e 1150 (by decide), d1150]; exact tc j hj
  have pks : ∀ m (p : XS9 × Int32 × Int32), m < 2 ^ mC τ → (∀ q, q ≠ 1153 → p.1 q = D q) → f_packAgain p.1 (nI (2 ^ mC τ - 1) - nI m) ch (mC τ) = f_Mcp t0 (nI (2 ^ mC τ - 1) &&& (nI m ^^^ (-1))) 0 (mC τ) (mrg τ) 20000 ch := fun m p hm e => by
    rw [left_eq hC10 hm]
    exact again_any h hb r hch (fun q hq => by rw [e q hq, eD]) m0 mr
  have pfr : ∀ (s : XS9) y q, q ≠ 1153 → g_packAgain s y ch (mC τ) q = s q := fun s y q hq => by
    show (fg_pack ch y (mC τ) 10 0).2 (g_fill s 1153 6 0) 0 q = s q
    rw [fr_pack 10 0 hq, fr_fill hq]
  have L : ∀ k, k ≤ 2 ^ mC τ - 1 → KI D t0 t (mC τ) (xit (stK ch (mC τ)) k 0 (D, nI (2 ^ mC τ - 1), nI (asN t (2 ^ mC τ - 1) (mC τ)))) (xit (stKM (u2 τ 5000 0 0) ch (mC τ) (mrg τ)) k 0 (t0, nI (2 ^ mC τ - 1), 2147483647)) := by
    intro k
    induction k with
    | zero => exact fun _ => ⟨fun _ _ => rfl, rfl, .inl ⟨rfl, rfl⟩⟩
    | succ k ih =>
      intro hk
      have I := ih (by omega)
      rw [xit_last, xit_last]
      generalize xit (stK ch (mC τ)) k 0 (D, nI (2 ^ mC τ - 1), nI (asN t (2 ^ mC τ - 1) (mC τ))) = pc at I ⊢
      generalize xit (stKM (u2 τ 5000 0 0) ch (mC τ) (mrg τ)) k 0 (t0, nI (2 ^ mC τ - 1), 2147483647) = pm at I ⊢
      obtain ⟨i1, i2, i3⟩ := I
      have lt : asN t k (mC τ) < asN t (2 ^ mC τ - 1) (mC τ) := asN_lt t1 (by omega)
      have ak := al k
      have aN := al (2 ^ mC τ - 1)
      have eC : stK ch (mC τ) k pc = (if pc.2.2 ≤ nI (asN t k (mC τ)) then (pc.1, pc.2.1, pc.2.2) else (if f_Mcp t0 (nI (2 ^ mC τ - 1) &&& (nI k ^^^ (-1))) 0 (mC τ) (mrg τ) 20000 ch = 0 then (g_packAgain pc.1 ((nI (2 ^ mC τ - 1)) - (nI k)) ch (mC τ), pc.2.1, pc.2.2) else (g_packAgain pc.1 ((nI (2 ^ mC τ - 1)) - (nI k)) ch (mC τ), nI k, nI (asN t k (mC τ))))) := by
        unfold stK
        rw [pcs k pc i1, pks k pc (by omega) i1]
      have eM : stKM (u2 τ 5000 0 0) ch (mC τ) (mrg τ) k pm = (if pm.2.2 ≤ nI (asN t k (mC τ)) then (pm.1, pm.2.1, pm.2.2) else (if f_Mcp t0 (nI (2 ^ mC τ - 1) &&& (nI k ^^^ (-1))) 0 (mC τ) (mrg τ) 20000 ch = 0 then (t0, pm.2.1, pm.2.2) else (t0, nI k, nI (asN t k (mC τ))))) := by
        unfold stKM
        rw [av k pm, i2, same]
      rw [eC, eM]
      rcases i3 with ⟨j1, j2⟩ | ⟨m, j1, j2, j3⟩
      · have n1 : ¬ pc.2.2 ≤ nI (asN t k (mC τ)) := by
          rw [j2]
          exact fun z => absurd ((nle (by omega) (by omega)).mp z) (by omega)
        have n2 : ¬ pm.2.2 ≤ nI (asN t k (mC τ)) := by
          rw [j1]
          show ¬ (nI 2147483647) ≤ nI (asN t k (mC τ))
          exact fun z => absurd ((nle (by omega) (by omega)).mp z) (by omega)
        rw [if_neg n1, if_neg n2]
        split
        · exact ⟨fun q hq => (pfr _ _ q hq).trans (i1 q hq), rfl, .inl ⟨j1, j2⟩⟩
        · exact ⟨fun q hq => (pfr _ _ q hq).trans (i1 q hq), rfl, .inr ⟨k, lt, rfl, rfl⟩⟩
      · rw [j3]
        by_cases c : pc.2.2 ≤ nI (asN t k (mC τ))
        · rw [if_pos c, if_pos c]
          exact ⟨i1, i2, .inr ⟨m, j1, j2, rfl⟩⟩
        · rw [if_neg c, if_neg c]
          split
          · exact ⟨fun q hq => (pfr _ _ q hq).trans (i1 q hq), rfl, .inr ⟨m, j1, j2, rfl⟩⟩
          · exact ⟨fun q hq => (pfr _ _ q hq).trans (i1 q hq), rfl, .inr ⟨k, lt, rfl, rfl⟩⟩
  have I := L (2 ^ mC τ - 1) (Nat.le_refl _)
  have eA : f_asksOf D (nI (2 ^ mC τ - 1)) (mC τ) = nI (asN t (2 ^ mC τ - 1) (mC τ)) := asN_c hC10 fun j hj => by rw [d1150]; exact tc j hj
  have ec : f_cheapest σ ch (mC τ) (arg σ) = (xit (stK ch (mC τ)) (2 ^ mC τ - 1) 0 (D, nI (2 ^ mC τ - 1), nI (asN t (2 ^ mC τ - 1) (mC τ)))).2.1 := by
    rw [← eA, eD]
    rfl
  have e2 : f_MclearNow (u2 τ 5000 0 0) ch R (mC τ) (mrg τ) = (xit (stKM (u2 τ 5000 0 0) ch (mC τ) (mrg τ)) (2 ^ mC τ) 0 (t0, nI (2 ^ mC τ - 1), 2147483647)).2.1 := by
    rw [e0]
    rfl
  rw [ec, e2, show xit (stKM (u2 τ 5000 0 0) ch (mC τ) (mrg τ)) (2 ^ mC τ) 0 (t0, nI (2 ^ mC τ - 1), 2147483647) = stKM (u2 τ 5000 0 0) ch (mC τ) (mrg τ) (2 ^ mC τ - 1) (xit (stKM (u2 τ 5000 0 0) ch (mC τ) (mrg τ)) (2 ^ mC τ - 1) 0 (t0, nI (2 ^ mC τ - 1), 2147483647)) from by
    have z := xit_last (step := stKM (u2 τ 5000 0 0) ch (mC τ) (mrg τ)) (a := 2 ^ mC τ - 1) (s := (t0, nI (2 ^ mC τ - 1), 2147483647))
    rw [show 2 ^ mC τ - 1 + 1 = 2 ^ mC τ by omega] at z
    exact z]
  generalize xit (stK ch (mC τ)) (2 ^ mC τ - 1) 0 (D, nI (2 ^ mC τ - 1), nI (asN t (2 ^ mC τ - 1) (mC τ))) = pc at I ⊢
  generalize xit (stKM (u2 τ 5000 0 0) ch (mC τ) (mrg τ)) (2 ^ mC τ - 1) 0 (t0, nI (2 ^ mC τ - 1), 2147483647) = pm at I ⊢
  obtain ⟨i1, i2, i3⟩ := I
  have aN := al (2 ^ mC τ - 1)
  unfold stKM
  rw [av (2 ^ mC τ - 1) pm]
  rcases i3 with ⟨j1, j2⟩ | ⟨m, j1, j2, j3⟩
  · rw [j2, j1]
    (repeat' split) <;> rfl
  · have am := al m
    rw [j3, j2, if_pos ((nle (by omega) (by omega)).mpr (Nat.le_of_lt j1))]
end
