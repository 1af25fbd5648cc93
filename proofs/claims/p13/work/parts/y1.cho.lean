/-! ===== choices: 0 is none, k + 1 is the package k ===== -/
def cUp (c : Nat → Nat) (i v : Nat) : Nat → Nat := fun j => if j = i then v else c j
def cDg (D : Nat → Nat → Nat → Nat) (r : Nat) (c : Nat → Nat) (j : Nat) : Nat := if c j = 0 then 0 else D j (c j - 1) r
def cGd (D : Nat → Nat → Nat → Nat) (gr : Nat → Nat) (g r : Nat) (c : Nat → Nat) (j : Nat) : Nat := if gr j = g then cDg D r c j else 0
def cAd (A : Nat → Nat → Nat) (c : Nat → Nat) (j : Nat) : Nat := if c j = 0 then 0 else A j (c j - 1)
def cSb (c : Nat → Nat) (j : Nat) : Nat := if c j = 0 then 0 else 2 ^ j
def cTk (D : Nat → Nat → Nat → Nat) (r : Nat) (c : Nat → Nat) : Nat := nsum (cDg D r c) 6
def cTg (D : Nat → Nat → Nat → Nat) (gr : Nat → Nat) (g r : Nat) (c : Nat → Nat) : Nat := nsum (cGd D gr g r c) 6
def cAm (A : Nat → Nat → Nat) (c : Nat → Nat) : Nat := nsum (cAd A c) 6
def cSp (c : Nat → Nat) : Nat := nsum (cSb c) 6
def lx (c d : Nat → Nat) : Prop := ∃ i, i < 6 ∧ (∀ j, j < i → c j = d j) ∧ c i < d i
def e6 (c d : Nat → Nat) : Prop := ∀ j, j < 6 → c j = d j
def rwc (v : Nat) : Int32 := if v = 0 then -1 else nI (v - 1)
/-- at least as good -/
def btr (A : Nat → Nat → Nat) (c d : Nat → Nat) : Prop := cAm A d < cAm A c ∨ (cAm A d = cAm A c ∧ ¬ lx d c)
def cFe (D : Nat → Nat → Nat → Nat) (gr q : Nat → Nat) (cap R : Nat) (c : Nat → Nat) : Prop := ∀ r, r < R → cTk D r c ≤ q r ∧ ∀ g, 0 < g → cTg D gr g r c ≤ cap
def cOk (pk : Nat → Nat) (c : Nat → Nat) : Prop := ∀ j, j < 6 → c j ≤ pk j
section
variable {D : Nat → Nat → Nat → Nat} {A : Nat → Nat → Nat} {gr q pk : Nat → Nat} {cap R r g i k : Nat} {c d e : Nat → Nat}
theorem cUp_at {v : Nat} : cUp c i v i = v := if_pos rfl
theorem cUp_ne {v j : Nat} (h : j ≠ i) : cUp c i v j = c j := if_neg h
theorem e6.symm (h : e6 c d) : e6 d c := fun j hj => (h j hj).symm
theorem e6.tk (h : e6 c d) : cTk D r c = cTk D r d := nsum_cg fun j hj => by
  unfold cDg
  rw [h j hj]
theorem e6.tg (h : e6 c d) : cTg D gr g r c = cTg D gr g r d := nsum_cg fun j hj => by
  unfold cGd cDg
  rw [h j hj]
theorem e6.am (h : e6 c d) : cAm A c = cAm A d := nsum_cg fun j hj => by
  unfold cAd
  rw [h j hj]
theorem e6.sp (h : e6 c d) : cSp c = cSp d := nsum_cg fun j hj => by
  unfold cSb
  rw [h j hj]
theorem e6.fe (h : e6 c d) (f : cFe D gr q cap R c) : cFe D gr q cap R d := fun r hr => by
  rw [← h.tk]
  refine ⟨(f r hr).1, fun g hg => ?_⟩
  rw [← h.tg]
  exact (f r hr).2 g hg
theorem e6.ok (h : e6 c d) (f : cOk pk c) : cOk pk d := fun j hj => by
  rw [← h j hj]
  exact f j hj
theorem e6.lxl (h : e6 c d) (l : lx c e) : lx d e := by
  obtain ⟨i, h1, h2, h3⟩ := l
  exact ⟨i, h1, fun j hj => by rw [← h j (by omega)]; exact h2 j hj, by rw [← h i h1]; exact h3⟩
theorem e6.lxr (h : e6 c d) (l : lx e c) : lx e d := by
  obtain ⟨i, h1, h2, h3⟩ := l
  exact ⟨i, h1, fun j hj => by rw [← h j (by omega)]; exact h2 j hj, by rw [← h i h1]; exact h3⟩
theorem nsum_mo {d d2 : Nat → Nat} {N : Nat} (h : ∀ i, i < N → d i ≤ d2 i) : nsum d N ≤ nsum d2 N := by
  induction N with
  | zero => exact Nat.le_refl _
  | succ n ih =>
    have a := ih (fun i hi => h i (by omega))
    have b := h n (by omega)
    show nsum d n + d n ≤ nsum d2 n + d2 n
    omega
theorem nsum_z {N : Nat} {d : Nat → Nat} (h : ∀ i, i < N → d i = 0) : nsum d N = 0 := by
  induction N with
  | zero => rfl
  | succ n ih =>
    show nsum d n + d n = 0
    rw [ih (fun i hi => h i (by omega)), h n (by omega)]
theorem cTk_up (hi : i < 6) (h0 : c i = 0) : cTk D r (cUp c i (k + 1)) = cTk D r c + D i k r := by
  have := nsum_set (d := cDg D r c) (d2 := cDg D r (cUp c i (k + 1))) hi (fun j _ e => by
    unfold cDg
    rw [cUp_ne e])
  rw [show cDg D r c i = 0 from if_pos h0, show cDg D r (cUp c i (k + 1)) i = D i k r from by
    unfold cDg
    rw [cUp_at, if_neg (by omega), Nat.add_sub_cancel]] at this
  exact this
theorem cTg_up (hi : i < 6) (h0 : c i = 0) : cTg D gr g r (cUp c i (k + 1)) = cTg D gr g r c + if gr i = g then D i k r else 0 := by
  have := nsum_set (d := cGd D gr g r c) (d2 := cGd D gr g r (cUp c i (k + 1))) hi (fun j _ e => by
    unfold cGd cDg
    rw [cUp_ne e])
  rw [show cGd D gr g r c i = 0 from by
    unfold cGd cDg
    rw [if_pos h0]
    split <;> rfl, show cGd D gr g r (cUp c i (k + 1)) i = if gr i = g then D i k r else 0 from by
    unfold cGd cDg
    rw [cUp_at, if_neg (show ¬ k + 1 = 0 by omega), Nat.add_sub_cancel]] at this
  exact this
theorem cAm_up (hi : i < 6) (h0 : c i = 0) : cAm A (cUp c i (k + 1)) = cAm A c + A i k := by
  have := nsum_set (d := cAd A c) (d2 := cAd A (cUp c i (k + 1))) hi (fun j _ e => by
    unfold cAd
    rw [cUp_ne e])
  rw [show cAd A c i = 0 from if_pos h0, show cAd A (cUp c i (k + 1)) i = A i k from by
    unfold cAd
    rw [cUp_at, if_neg (by omega), Nat.add_sub_cancel]] at this
  exact this
theorem cSp_up (hi : i < 6) (h0 : c i = 0) : cSp (cUp c i (k + 1)) = cSp c + 2 ^ i := by
  have := nsum_set (d := cSb c) (d2 := cSb (cUp c i (k + 1))) hi (fun j _ e => by
    unfold cSb
    rw [cUp_ne e])
  rw [show cSb c i = 0 from if_pos h0, show cSb (cUp c i (k + 1)) i = 2 ^ i from by
    unfold cSb
    rw [cUp_at, if_neg (by omega)]] at this
  exact this
theorem cAm_le {m : Nat} (h : ∀ j, j < 6 → cAd A c j ≤ m) : cAm A c ≤ m * 6 := nsum_le h
/-! the set of those who have something -/
def bsum6 (b0 b1 b2 b3 b4 b5 : Bool) : Nat := (((((0 + (if b0 = true then 2 ^ 0 else 0)) + (if b1 = true then 2 ^ 1 else 0)) + (if b2 = true then 2 ^ 2 else 0)) + (if b3 = true then 2 ^ 3 else 0)) + (if b4 = true then 2 ^ 4 else 0)) + (if b5 = true then 2 ^ 5 else 0)
theorem bsum6_ok (b0 b1 b2 b3 b4 b5 : Bool) : bsum6 b0 b1 b2 b3 b4 b5 < 64 ∧ (bsum6 b0 b1 b2 b3 b4 b5).testBit 0 = b0 ∧ (bsum6 b0 b1 b2 b3 b4 b5).testBit 1 = b1 ∧ (bsum6 b0 b1 b2 b3 b4 b5).testBit 2 = b2 ∧ (bsum6 b0 b1 b2 b3 b4 b5).testBit 3 = b3 ∧ (bsum6 b0 b1 b2 b3 b4 b5).testBit 4 = b4 ∧ (bsum6 b0 b1 b2 b3 b4 b5).testBit 5 = b5 := by
  cases b0 <;> cases b1 <;> cases b2 <;> cases b3 <;> cases b4 <;> cases b5 <;> decide
theorem cSb_b {j : Nat} : cSb c j = if decide (c j ≠ 0) = true then 2 ^ j else 0 := by
  unfold cSb
  by_cases h : c j = 0
  · rw [if_pos h, if_neg (by simp [h])]
  · rw [if_neg h, if_pos (by simp [h])]
theorem cSp_b : cSp c = bsum6 (decide (c 0 ≠ 0)) (decide (c 1 ≠ 0)) (decide (c 2 ≠ 0)) (decide (c 3 ≠ 0)) (decide (c 4 ≠ 0)) (decide (c 5 ≠ 0)) := by
  show (((((0 + cSb c 0) + cSb c 1) + cSb c 2) + cSb c 3) + cSb c 4) + cSb c 5 = _
  rw [cSb_b, cSb_b, cSb_b, cSb_b, cSb_b, cSb_b]
  rfl
theorem cSp_lt : cSp c < 64 := by
  rw [cSp_b]
  exact (bsum6_ok _ _ _ _ _ _).1
theorem cSp_bit (hi : i < 6) : (cSp c).testBit i = decide (c i ≠ 0) := by
  have h := bsum6_ok (decide (c 0 ≠ 0)) (decide (c 1 ≠ 0)) (decide (c 2 ≠ 0)) (decide (c 3 ≠ 0)) (decide (c 4 ≠ 0)) (decide (c 5 ≠ 0))
  rw [← cSp_b] at h
  match i, hi with
  | 0, _ => exact h.2.1
  | 1, _ => exact h.2.2.1
  | 2, _ => exact h.2.2.2.1
  | 3, _ => exact h.2.2.2.2.1
  | 4, _ => exact h.2.2.2.2.2.1
  | 5, _ => exact h.2.2.2.2.2.2
theorem or_plus {S : Nat} (hS : S < 64) (hi : i < 6) (hb : S.testBit i = false) : S ||| 2 ^ i = S + 2 ^ i := by
  have : ∀ S, S < 64 → ∀ i, i < 6 → S.testBit i = false → S ||| 2 ^ i = S + 2 ^ i := by decide +kernel
  exact this S hS i hi hb
theorem cSp_or (hi : i < 6) (h0 : c i = 0) : cSp c ||| 2 ^ i = cSp (cUp c i (k + 1)) := by
  rw [cSp_up hi h0]
  exact or_plus cSp_lt hi (by rw [cSp_bit hi]; simp [h0])
/-! order -/
theorem lx_no : ¬ lx c c := fun ⟨_, _, _, h⟩ => absurd h (Nat.lt_irrefl _)
theorem lx_cut : ∀ n, n ≤ 6 → (∀ j, j < n → c j = d j) ∨ lx c d ∨ lx d c := by
  intro n
  induction n with
  | zero => exact fun _ => .inl fun j hj => absurd hj (by omega)
  | succ n ih =>
    intro hn
    rcases ih (by omega) with h | h
    · rcases Nat.lt_trichotomy (c n) (d n) with l | l | l
      · exact .inr (.inl ⟨n, by omega, h, l⟩)
      · refine .inl fun j hj => ?_
        by_cases e : j = n
        · rw [e]
          exact l
        · exact h j (by omega)
      · exact .inr (.inr ⟨n, by omega, fun j hj => (h j hj).symm, l⟩)
    · exact .inr h
theorem lx_tri : e6 c d ∨ lx c d ∨ lx d c := lx_cut 6 (Nat.le_refl _)
theorem lx_trans (h1 : lx c d) (h2 : lx d e) : lx c e := by
  obtain ⟨i, a1, a2, a3⟩ := h1
  obtain ⟨j, b1, b2, b3⟩ := h2
  rcases Nat.lt_trichotomy i j with l | l | l
  · exact ⟨i, a1, fun k hk => (a2 k hk).trans (b2 k (by omega)), by rw [← b2 i l]; exact a3⟩
  · subst l
    exact ⟨i, a1, fun k hk => (a2 k hk).trans (b2 k hk), Nat.lt_trans a3 b3⟩
  · exact ⟨j, b1, fun k hk => (a2 k (by omega)).trans (b2 k hk), by rw [a2 j l]; exact b3⟩
theorem lx_asym (h1 : lx c d) (h2 : lx d c) : False := lx_no (lx_trans h1 h2)
theorem btr.rfl' : btr A c c := .inr ⟨rfl, lx_no⟩
theorem btr.le (h : btr A c d) : cAm A d ≤ cAm A c := by
  rcases h with h | h
  · exact Nat.le_of_lt h
  · exact Nat.le_of_eq h.1
theorem btr.trans (h1 : btr A c d) (h2 : btr A d e) : btr A c e := by
  have l1 := h1.le
  have l2 := h2.le
  rcases h1 with h1 | ⟨a1, a2⟩
  · exact .inl (by omega)
  · rcases h2 with h2 | ⟨b1, b2⟩
    · exact .inl (by omega)
    · refine .inr ⟨by omega, fun l => ?_⟩
      rcases lx_tri (c := c) (d := d) with t | t | t
      · exact b2 (t.lxr l)
      · exact b2 (lx_trans l t)
      · exact a2 t
theorem btr.tot : btr A c d ∨ btr A d c := by
  rcases Nat.lt_trichotomy (cAm A c) (cAm A d) with l | l | l
  · exact .inr (.inl l)
  · rcases Classical.em (lx c d) with t | t
    · exact .inl (.inr ⟨l.symm, fun z => lx_asym t z⟩)
    · exact .inr (.inr ⟨l, t⟩)
  · exact .inl (.inl l)
theorem btr.anti (h1 : btr A c d) (h2 : btr A d c) : e6 c d := by
  have l1 := h1.le
  have l2 := h2.le
  rcases h1 with h1 | ⟨_, a⟩
  · omega
  · rcases h2 with h2 | ⟨_, b⟩
    · omega
    · rcases lx_tri (c := c) (d := d) with t | t | t
      · exact t
      · exact absurd t b
      · exact absurd t a
theorem e6.btr (h : e6 c d) : btr A c d := .inr ⟨h.symm.am, fun l => lx_no (h.symm.lxl l)⟩
theorem cLe_tk (h : ∀ j, j < 6 → c j = 0 ∨ c j = d j) : cTk D r c ≤ cTk D r d := nsum_mo fun j hj => by
  unfold cDg
  rcases h j hj with e | e
  · rw [if_pos e]
    exact Nat.zero_le _
  · rw [e]
    exact Nat.le_refl _
theorem cLe_tg (h : ∀ j, j < 6 → c j = 0 ∨ c j = d j) : cTg D gr g r c ≤ cTg D gr g r d := nsum_mo fun j hj => by
  unfold cGd cDg
  rcases h j hj with e | e
  · rw [if_pos e]
    split <;> exact Nat.zero_le _
  · rw [e]
    exact Nat.le_refl _
theorem cLe_fe (h : ∀ j, j < 6 → c j = 0 ∨ c j = d j) (f : cFe D gr q cap R d) : cFe D gr q cap R c := fun r hr => ⟨Nat.le_trans (cLe_tk h) (f r hr).1, fun g hg => Nat.le_trans (cLe_tg h) ((f r hr).2 g hg)⟩
/-- one more package is let, when it fits with what is taken -/
theorem cFe_up (hi : i < 6) (h0 : c i = 0) (f : cFe D gr q cap R c) : cFe D gr q cap R (cUp c i (k + 1)) ↔ ∀ r, r < R → cTk D r c + D i k r ≤ q r ∧ (gr i ≠ 0 → cTg D gr (gr i) r c + D i k r ≤ cap) := by
  refine ⟨fun h r hr => ?_, fun h r hr => ?_⟩
  · have a := h r hr
    rw [cTk_up hi h0] at a
    refine ⟨a.1, fun hg => ?_⟩
    have b := a.2 (gr i) (by omega)
    rw [cTg_up hi h0, if_pos rfl] at b
    exact b
  · rw [cTk_up hi h0]
    refine ⟨(h r hr).1, fun g hg => ?_⟩
    rw [cTg_up hi h0]
    by_cases e : gr i = g
    · rw [if_pos e, ← e]
      exact (h r hr).2 (by omega)
    · rw [if_neg e, Nat.add_zero]
      exact (f r hr).2 g hg
/-! rows of numbers of packages -/
theorem rwc_eq {a b : Nat} (ha : a ≤ 6) (hb : b ≤ 6) : (rwc a = rwc b ↔ a = b) ∧ (rwc b ≤ rwc a ↔ b ≤ a) := by
  have : ∀ a : Fin 7, ∀ b : Fin 7, (rwc a.1 = rwc b.1 ↔ a.1 = b.1) ∧ (rwc b.1 ≤ rwc a.1 ↔ b.1 ≤ a.1) := by decide +kernel
  exact this ⟨a, by omega⟩ ⟨b, by omega⟩
theorem ahead_go {f g : Nat → Int32} (hc : ∀ j, j < 6 → f j = rwc (c j) ∧ c j ≤ 6) (hd : ∀ j, j < 6 → g j = rwc (d j) ∧ d j ≤ 6) : ∀ (n i : Nat), i + n = 6 → (∀ j, j < i → c j = d j) → ((match xitR (fun i2 (_ : Unit) => (if (f i2) = (g i2) then (.inl () : Unit ⊕ Int32) else (if (g i2) ≤ (f i2) then .inr 0 else .inr 1))) n i () with | .inl _ => (0 : Int32) | .inr r2 => r2) = 0 ↔ ¬ lx c d)
  | 0, i, e, h => by
    refine ⟨fun _ l => ?_, fun _ => rfl⟩
    obtain ⟨k, h1, h2, h3⟩ := l
    have := h k (by omega)
    omega
  | n + 1, i, e, h => by
    have hi : i < 6 := by omega
    obtain ⟨c1, c2⟩ := hc i hi
    obtain ⟨d1, d2⟩ := hd i hi
    obtain ⟨q1, q2⟩ := rwc_eq c2 d2
    unfold xitR
    (try dsimp only)
    rw [c1, d1]
    by_cases e1 : c i = d i
    · rw [if_pos (q1.mpr e1)]
      exact ahead_go hc hd n (i + 1) (by omega) (fun j hj => by
        by_cases e2 : j = i
        · rw [e2]
          exact e1
        · exact h j (by omega))
    · rw [if_neg (fun z => e1 (q1.mp z))]
      by_cases e2 : d i ≤ c i
      · rw [if_pos (q2.mpr e2)]
        refine ⟨fun _ l => ?_, fun _ => rfl⟩
        obtain ⟨k, h1, h2, h3⟩ := l
        rcases Nat.lt_trichotomy k i with l | l | l
        · have := h k l
          omega
        · subst l
          omega
        · exact e1 (h2 i l)
      · rw [if_neg (fun z => e2 (q2.mp z))]
        exact ⟨fun z => absurd (show (1 : Int32) = 0 from z) (by decide), fun z => absurd ⟨i, hi, h, by omega⟩ z⟩
theorem ahead_eq {f g : Nat → Int32} (hc : ∀ j, j < 6 → f j = rwc (c j) ∧ c j ≤ 6) (hd : ∀ j, j < 6 → g j = rwc (d j) ∧ d j ≤ 6) : f_isAhead f g = 0 ↔ ¬ lx c d := ahead_go hc hd 6 0 rfl (fun j hj => absurd hj (by omega))
end
