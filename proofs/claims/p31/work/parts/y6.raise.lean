/-! ===== raising payments by turns of one more ===== -/
def rmS (a : Nat → Nat) (S : Nat) (p : Nat → Nat) (k : Nat) : Nat := if S.testBit k = true then 0 else a k - p k
def stS (a : Nat → Nat) (S k : Nat) (u : (Nat → Nat) × Nat) : (Nat → Nat) × Nat := if u.2 = 0 ∨ rmS a S u.1 k = 0 then u else (cUp u.1 k (u.1 k + 1), u.2 - 1)
def psS (a : Nat → Nat) (S : Nat) (u : (Nat → Nat) × Nat) : (Nat → Nat) × Nat := xit (stS a S) 6 0 u
def itS (a : Nat → Nat) (S : Nat) : Nat → (Nat → Nat) × Nat → (Nat → Nat) × Nat
  | 0, u => u
  | n + 1, u => itS a S n (psS a S u)
def fiS (a : Nat → Nat) (S : Nat) (u : (Nat → Nat) × Nat) : Prop := u.2 = 0 ∨ ∀ k, k < 6 → rmS a S u.1 k = 0
def bmS (a : Nat → Nat) (S t : Nat) (p : Nat → Nat) : Nat → Nat := fun k => if k < 6 ∧ rmS a S p k ≠ 0 then p k + t else p k
def pyS (a : Nat → Nat) (S : Nat) (p : Nat → Nat) (k : Nat) : Nat := if rmS a S p k = 0 then 0 else 1
def pcS (a : Nat → Nat) (S : Nat) (p : Nat → Nat) : Nat := nsum (pyS a S p) 6
/-- what raising keeps -/
def inS (a : Nat → Nat) (S : Nat) (p0 : Nat → Nat) (L0 : Nat) (u : (Nat → Nat) × Nat) : Prop := (∀ j, p0 j ≤ u.1 j) ∧ (∀ j, j < 6 → u.1 j ≤ a j) ∧ (∀ j, S.testBit j = true → u.1 j = p0 j) ∧ nsum u.1 6 + u.2 = nsum p0 6 + L0
section
variable {a p p0 : Nat → Nat} {S L L0 t n m k : Nat} {u : (Nat → Nat) × Nat}
theorem psS_fin (h : fiS a S u) : psS a S u = u := by
  unfold psS
  refine xit_inv (fun v => v = u) (N := 6) (fun i v hi hP => ?_) 6 0 u rfl rfl
  rw [hP]
  refine if_pos ?_
  rcases h with h | h
  · exact .inl h
  · exact .inr (h i hi)
theorem itS_fin (h : fiS a S u) : ∀ n, itS a S n u = u
  | 0 => rfl
  | n + 1 => by
    show itS a S n (psS a S u) = u
    rw [psS_fin h]
    exact itS_fin h n
theorem itS_add : ∀ (m : Nat) (u : (Nat → Nat) × Nat), itS a S (m + n) u = itS a S n (itS a S m u)
  | 0, u => by rw [Nat.zero_add]; rfl
  | m + 1, u => by
    rw [show m + 1 + n = (m + n) + 1 by omega]
    show itS a S (m + n) (psS a S u) = itS a S n (itS a S m (psS a S u))
    exact itS_add m _
theorem itS_uniq (h1 : fiS a S (itS a S m u)) (h2 : fiS a S (itS a S n u)) : itS a S m u = itS a S n u := by
  rcases Nat.le_total m n with l | l
  · obtain ⟨k, rfl⟩ : ∃ k, n = m + k := ⟨n - m, by omega⟩
    rw [itS_add, itS_fin h1]
  · obtain ⟨k, rfl⟩ : ∃ k, m = n + k := ⟨m - n, by omega⟩
    rw [itS_add, itS_fin h2]
theorem inS.st (h : inS a S p0 L0 u) (hk : k < 6) : inS a S p0 L0 (stS a S k u) := by
  unfold stS
  split
  · exact h
  · rename_i hn
    obtain ⟨h1, h2, h3, h4⟩ := h
    have n1 : u.2 ≠ 0 := fun z => hn (.inl z)
    have n2 : rmS a S u.1 k ≠ 0 := fun z => hn (.inr z)
    have n3 : ¬ S.testBit k = true := fun z => n2 (if_pos z)
    have n4 : rmS a S u.1 k = a k - u.1 k := if_neg n3
    refine ⟨fun j => ?_, fun j hj => ?_, fun j hj => ?_, ?_⟩
    · have := h1 j
      by_cases e : j = k
      · show _ ≤ cUp _ _ _ j
        rw [e, cUp_at, ← e]
        omega
      · show _ ≤ cUp _ _ _ j
        rw [cUp_ne e]
        exact this
    · by_cases e : j = k
      · show cUp _ _ _ j ≤ _
        rw [e, cUp_at]
        omega
      · show cUp _ _ _ j ≤ _
        rw [cUp_ne e]
        exact h2 j hj
    · show cUp _ _ _ j = _
      rw [cUp_ne (fun z => n3 (by rw [← z]; exact hj))]
      exact h3 j hj
    · have := nsum_set (d := u.1) (d2 := cUp u.1 k (u.1 k + 1)) hk (fun j _ e => cUp_ne e)
      rw [cUp_at] at this
      show nsum (cUp u.1 k (u.1 k + 1)) 6 + (u.2 - 1) = _
      omega
theorem inS.ps (h : inS a S p0 L0 u) : inS a S p0 L0 (psS a S u) := by
  unfold psS
  exact xit_inv (inS a S p0 L0) (N := 6) (fun i v hi hP => hP.st hi) 6 0 u rfl h
theorem inS.it : ∀ (n : Nat) {u : (Nat → Nat) × Nat}, inS a S p0 L0 u → inS a S p0 L0 (itS a S n u)
  | 0, _, h => h
  | n + 1, _, h => inS.it n h.ps
theorem inS.start (h : ∀ j, j < 6 → p0 j ≤ a j) : inS a S p0 L0 (p0, L0) := ⟨fun _ => Nat.le_refl _, h, fun _ _ => rfl, rfl⟩
theorem nsum_lej {d : Nat → Nat} {k N : Nat} (h : k ≤ N) : nsum d k ≤ nsum d N := by
  induction N with
  | zero =>
    obtain rfl : k = 0 := by omega
    exact Nat.le_refl _
  | succ n ih =>
    by_cases e : k = n + 1
    · rw [e]
      exact Nat.le_refl _
    · have := ih (by omega)
      show nsum d k ≤ nsum d n + d n
      omega
/-- a whole turn -/
theorem psS_full (h : pcS a S p ≤ L) : psS a S (p, L) = (bmS a S 1 p, L - pcS a S p) := by
  have H := xit_ind (step := stS a S) (fun k u => (∀ j, u.1 j = if j < k ∧ rmS a S p j ≠ 0 then p j + 1 else p j) ∧ u.2 = L - nsum (pyS a S p) k) (N := 6) (fun k u hk hP => ?_) 6 0 (p, L) rfl ⟨fun j => (if_neg (by omega)).symm, rfl⟩
  · show xit (stS a S) 6 0 (p, L) = _
    obtain ⟨h1, h2⟩ := H
    exact Prod.ext (funext h1) h2
  · obtain ⟨h1, h2⟩ := hP
    have l : nsum (pyS a S p) (k + 1) ≤ pcS a S p := nsum_lej (by omega)
    have s : nsum (pyS a S p) (k + 1) = nsum (pyS a S p) k + pyS a S p k := rfl
    have e0 : u.1 k = p k := by
      rw [h1 k]
      exact if_neg (by omega)
    have er : rmS a S u.1 k = rmS a S p k := by
      unfold rmS
      rw [e0]
    unfold stS
    rw [er]
    by_cases c : rmS a S p k = 0
    · rw [if_pos (.inr c)]
      have z : pyS a S p k = 0 := if_pos c
      refine ⟨fun j => ?_, by omega⟩
      rw [h1 j]
      by_cases e : j = k
      · rw [if_neg (by omega), if_neg (by rw [e]; exact fun q => q.2 c)]
      · by_cases e2 : j < k ∧ rmS a S p j ≠ 0
        · rw [if_pos e2, if_pos ⟨by omega, e2.2⟩]
        · rw [if_neg e2, if_neg (fun q => e2 ⟨by omega, q.2⟩)]
    · have z : pyS a S p k = 1 := if_neg c
      rw [if_neg (fun q => q.elim (fun q => by omega) c)]
      refine ⟨fun j => ?_, by show u.2 - 1 = _; omega⟩
      show cUp u.1 k (u.1 k + 1) j = _
      by_cases e : j = k
      · rw [e, cUp_at, if_pos ⟨by omega, c⟩, h1 k, if_neg (by omega)]
      · rw [cUp_ne e, h1 j]
        by_cases e2 : j < k ∧ rmS a S p j ≠ 0
        · rw [if_pos e2, if_pos ⟨by omega, e2.2⟩]
        · rw [if_neg e2, if_neg (fun q => e2 ⟨by omega, q.2⟩)]
theorem bm_room (h : ∀ k, k < 6 → rmS a S p k ≠ 0 → t + 1 ≤ rmS a S p k) (hk : k < 6) : (rmS a S (bmS a S t p) k = 0 ↔ rmS a S p k = 0) := by
  by_cases c : rmS a S p k = 0
  · have e : bmS a S t p k = p k := if_neg (fun q => q.2 c)
    unfold rmS at c ⊢
    rw [e]
  · have l := h k hk c
    have e : bmS a S t p k = p k + t := if_pos ⟨hk, c⟩
    unfold rmS at c l ⊢
    rw [e]
    split at l
    · omega
    · rename_i z
      rw [if_neg z] at c
      rw [if_neg z, if_neg z]
      omega
theorem bm_pc (h : ∀ k, k < 6 → rmS a S p k ≠ 0 → t + 1 ≤ rmS a S p k) : pcS a S (bmS a S t p) = pcS a S p := nsum_cg fun k hk => by
  have := bm_room h hk
  unfold pyS
  by_cases c : rmS a S p k = 0
  · rw [if_pos c, if_pos (this.mpr c)]
  · rw [if_neg c, if_neg (fun q => c (this.mp q))]
/-- many turns at once -/
theorem bulk : ∀ (t : Nat), (∀ k, k < 6 → rmS a S p k ≠ 0 → t ≤ rmS a S p k) → t * pcS a S p ≤ L → itS a S t (p, L) = (bmS a S t p, L - t * pcS a S p)
  | 0, _, _ => by
    rw [Nat.zero_mul]
    refine Prod.ext (funext fun k => ?_) rfl
    show p k = bmS a S 0 p k
    unfold bmS
    split <;> rfl
  | t + 1, h, hL => by
    have h1 : ∀ k, k < 6 → rmS a S p k ≠ 0 → t ≤ rmS a S p k := fun k hk q => by have := h k hk q; omega
    rw [Nat.succ_mul] at hL
    have ih := bulk t h1 (by omega)
    rw [itS_add (n := 1) t, ih]
    show psS a S (bmS a S t p, L - t * pcS a S p) = _
    have e := bm_pc h
    rw [psS_full (by rw [e]; omega), e, Nat.succ_mul]
    refine Prod.ext (funext fun k => ?_) (by show L - t * pcS a S p - pcS a S p = L - (t * pcS a S p + pcS a S p); omega)
    show bmS a S 1 (bmS a S t p) k = bmS a S (t + 1) p k
    by_cases hk : k < 6
    · have r := bm_room h hk
      by_cases c : rmS a S p k = 0
      · have e1 : bmS a S t p k = p k := if_neg (fun q => q.2 c)
        rw [show bmS a S 1 (bmS a S t p) k = bmS a S t p k from if_neg (fun q => q.2 (r.mpr c)), e1, show bmS a S (t + 1) p k = p k from if_neg (fun q => q.2 c)]
      · have e1 : bmS a S t p k = p k + t := if_pos ⟨hk, c⟩
        rw [show bmS a S 1 (bmS a S t p) k = bmS a S t p k + 1 from if_pos ⟨hk, fun q => c (r.mp q)⟩, e1, show bmS a S (t + 1) p k = p k + (t + 1) from if_pos ⟨hk, c⟩]
        omega
    · rw [show bmS a S 1 (bmS a S t p) k = bmS a S t p k from if_neg (fun q => hk q.1), show bmS a S t p k = p k from if_neg (fun q => hk q.1), show bmS a S (t + 1) p k = p k from if_neg (fun q => hk q.1)]
/-- a turn for which too little is left -/
theorem psS_low (h : L < pcS a S p) : (psS a S (p, L)).2 = 0 := by
  have H := xit_ind (step := stS a S) (fun k u => u.2 = 0 ∨ (u.2 + nsum (pyS a S p) k = L ∧ ∀ j, k ≤ j → u.1 j = p j)) (N := 6) (fun k u hk hP => ?_) 6 0 (p, L) rfl (.inr ⟨rfl, fun _ _ => rfl⟩)
  · rcases H with H | H
    · exact H
    · have := H.1
      have e : nsum (pyS a S p) 6 = pcS a S p := rfl
      show (xit (stS a S) 6 0 (p, L)).2 = 0
      omega
  · rcases hP with hP | ⟨h1, h2⟩
    · refine .inl ?_
      unfold stS
      rw [if_pos (.inl hP)]
      exact hP
    · have s : nsum (pyS a S p) (k + 1) = nsum (pyS a S p) k + pyS a S p k := rfl
      have er : rmS a S u.1 k = rmS a S p k := by
        unfold rmS
        rw [h2 k (Nat.le_refl _)]
      unfold stS
      rw [er]
      by_cases c : rmS a S p k = 0
      · have z : pyS a S p k = 0 := if_pos c
        rw [if_pos (.inr c)]
        exact .inr ⟨by omega, fun j hj => h2 j (by omega)⟩
      · have z : pyS a S p k = 1 := if_neg c
        by_cases c0 : u.2 = 0
        · rw [if_pos (.inl c0)]
          exact .inl c0
        · rw [if_neg (fun q => q.elim c0 c)]
          refine .inr ⟨by show u.2 - 1 + _ = L; omega, fun j hj => ?_⟩
          show cUp u.1 k _ j = p j
          rw [cUp_ne (by omega)]
          exact h2 j (by omega)
theorem pc_0 (h : pcS a S p = 0) (hk : k < 6) : rmS a S p k = 0 := by
  have := nsum_ge (d := pyS a S p) hk
  have e : nsum (pyS a S p) 6 = pcS a S p := rfl
  by_cases c : rmS a S p k = 0
  · exact c
  · have z : pyS a S p k = 1 := if_neg c
    omega
theorem pc_6 : pcS a S p ≤ 6 := by
  have := nsum_le (d := pyS a S p) (k := 1) (N := 6) fun i _ => by
    unfold pyS
    split <;> decide
  unfold pcS
  omega
theorem rm_a : rmS a S p k ≤ a k := by
  unfold rmS
  split <;> omega
end
/-! the program's turns -/
section
variable {σ s : XS9} {a p : Nat → Nat} {S L t : Nat}
def PY (a p : Nat → Nat) (s : XS9) : Prop := ∀ j, j < 6 → s 1131 j = nI (a j) ∧ s 1133 j = nI (p j)
theorem room_c (h : PY a p s) (hS : S < 64) (hp : ∀ j, j < 6 → p j ≤ a j) {j : Nat} (hj : j < 6) : f_roomOutside s (nI S) j = nI (rmS a S p j) := by
  unfold f_roomOutside rmS
  cases hb : S.testBit j with
  | false =>
    rw [if_pos ((tst_c hS hj).mpr hb), if_neg (by decide), (show s (1131 + 0) j = nI (a j) from (h j hj).1), (show s (1131 + 2) j = nI (p j) from (h j hj).2), nI_minus (hp j hj)]
  | true =>
    rw [if_neg (fun z => by rw [(tst_c hS hj).mp z] at hb; cases hb), if_pos rfl]
    rfl
theorem each_t (h : PY a p s) (hS : S < 64) (hp : ∀ j, j < 6 → p j ≤ a j) (ha : ∀ j, j < 6 → a j ≤ 300000) (ht : 1 ≤ t) (h1 : ∀ k, k < 6 → rmS a S p k ≠ 0 → t ≤ rmS a S p k) (hL : t * pcS a S p ≤ L) (hL2 : L ≤ 2000000) (ht2 : t ≤ 2000000) : (∀ j, j < 6 → g_raiseEach s (nI S) (nI t) (nI L) 1133 j = nI (bmS a S t p j)) ∧ f_raiseEach s (nI S) (nI t) (nI L) = nI (t * pcS a S p) ∧ ∀ q, q ≠ 1133 → g_raiseEach s (nI S) (nI t) (nI L) q = s q := by
  have H := xit_ind (step := fun i6 (s6 : XS9 × Int32) => (if nI L < (s6.2 + nI t) then (s6.1, s6.2) else (if (f_roomOutside s6.1 (nI S) i6) < nI t then (s6.1, s6.2) else (u2 s6.1 (1131 + 2) i6 ((s6.1 (1131 + 2) i6) + nI t), s6.2 + nI t)))) (fun k v => (∀ j, j < 6 → v.1 1133 j = nI (if j < k ∧ rmS a S p j ≠ 0 then p j + t else p j)) ∧ v.2 = nI (t * nsum (pyS a S p) k) ∧ ∀ q, q ≠ 1133 → v.1 q = s q) (N := 6) (fun k v hk hP => ?_) 6 0 (s, 0) rfl ⟨fun j hj => by rw [if_neg (by omega)]; exact (h j hj).2, by rfl, fun _ _ => rfl⟩
  · exact ⟨fun j hj => H.1 j hj, H.2.1, H.2.2⟩
  · obtain ⟨v1, v2, v3⟩ := hP
    have l : nsum (pyS a S p) (k + 1) ≤ pcS a S p := nsum_lej (by omega)
    have sm : nsum (pyS a S p) (k + 1) = nsum (pyS a S p) k + pyS a S p k := rfl
    have lm : t * nsum (pyS a S p) (k + 1) ≤ t * pcS a S p := Nat.mul_le_mul_left _ l
    rw [sm, Nat.mul_add] at lm
    have er : f_roomOutside v.1 (nI S) k = nI (rmS a S p k) := by
      rw [← room_c h hS hp hk]
      unfold f_roomOutside
      rw [show v.1 (1131 + 0) = s (1131 + 0) from v3 1131 (by decide), show v.1 (1131 + 2) k = s (1131 + 2) k from by
        rw [show (1131 + 2 : Nat) = 1133 from rfl, v1 k hk, if_neg (by omega), (h k hk).2]]
    have rb := rm_a (a := a) (S := S) (p := p) (k := k)
    have ak := ha k hk
    (try dsimp only)
    rw [er, v2, nI_plus]
    by_cases c : rmS a S p k = 0
    · have z : pyS a S p k = 0 := if_pos c
      have stay : (∀ j, j < 6 → v.1 1133 j = nI (if j < k + 1 ∧ rmS a S p j ≠ 0 then p j + t else p j)) ∧ v.2 = nI (t * nsum (pyS a S p) (k + 1)) ∧ ∀ q, q ≠ 1133 → v.1 q = s q := by
        refine ⟨fun j hj => ?_, by rw [v2, sm, z, Nat.add_zero], v3⟩
        rw [v1 j hj]
        congr 1
        by_cases e : j = k
        · rw [if_neg (by omega), if_neg (by rw [e]; exact fun q => q.2 c)]
        · by_cases e2 : j < k ∧ rmS a S p j ≠ 0
          · rw [if_pos e2, if_pos ⟨by omega, e2.2⟩]
          · rw [if_neg e2, if_neg (fun q => e2 ⟨by omega, q.2⟩)]
      rw [v2] at stay
      split
      · exact stay
      · rw [if_pos ((nlt (by omega) (by omega)).mpr (by omega))]
        exact stay
    · have z : pyS a S p k = 1 := if_neg c
      have tk := h1 k hk c
      rw [z, Nat.mul_one] at lm
      rw [if_neg (fun q => by have := (nlt (by omega) (by omega)).mp q; omega), if_neg (fun q => by have := (nlt (by omega) (by omega)).mp q; omega)]
      refine ⟨fun j hj => ?_, by show nI (t * nsum (pyS a S p) k + t) = _; rw [sm, z, Nat.mul_add, Nat.mul_one], fun q hq => ?_⟩
      · show u2 v.1 1133 k (v.1 1133 k + nI t) 1133 j = _
        by_cases e : j = k
        · rw [e, u2_at, v1 k hk, if_neg (by omega), if_pos ⟨by omega, c⟩, nI_plus]
        · rw [u2_oi e, v1 j hj]
          congr 1
          by_cases e2 : j < k ∧ rmS a S p j ≠ 0
          · rw [if_pos e2, if_pos ⟨by omega, e2.2⟩]
          · rw [if_neg e2, if_neg (fun q => e2 ⟨by omega, q.2⟩)]
      · show u2 v.1 1133 k _ q = s q
        rw [u2_ne hq]
        exact v3 q hq
theorem each_1 (h : PY a p s) (hS : S < 64) (hp : ∀ j, j < 6 → p j ≤ a j) (ha : ∀ j, j < 6 → a j ≤ 300000) (hL2 : L ≤ 2000000) : (∀ j, j < 6 → g_raiseEach s (nI S) 1 (nI L) 1133 j = nI ((psS a S (p, L)).1 j)) ∧ ∀ q, q ≠ 1133 → g_raiseEach s (nI S) 1 (nI L) q = s q := by
  unfold psS g_raiseEach x_raiseEach_6
  have H := xit_two (f := fun i6 (s6 : XS9 × Int32) => (if nI L < (s6.2 + 1) then (s6.1, s6.2) else (if (f_roomOutside s6.1 (nI S) i6) < 1 then (s6.1, s6.2) else (u2 s6.1 (1131 + 2) i6 ((s6.1 (1131 + 2) i6) + 1), s6.2 + 1)))) (g := stS a S) (fun _ v u => (∀ j, j < 6 → v.1 1133 j = nI (u.1 j)) ∧ (∀ j, j < 6 → u.1 j ≤ a j) ∧ u.2 ≤ L ∧ v.2 = nI (L - u.2) ∧ ∀ q, q ≠ 1133 → v.1 q = s q) (N := 6) (fun k v u hk hP => ?_) 6 0 (s, 0) (p, L) rfl ⟨fun j hj => (h j hj).2, hp, Nat.le_refl _, by show (0 : Int32) = nI (L - L); rw [Nat.sub_self]; rfl, fun _ _ => rfl⟩
  · exact ⟨H.1, H.2.2.2.2⟩
  · obtain ⟨v1, v5, v2, v4, v3⟩ := hP
    have er : f_roomOutside v.1 (nI S) k = nI (rmS a S u.1 k) := room_c (a := a) (p := u.1) (fun j hj => ⟨by rw [v3 1131 (by decide)]; exact (h j hj).1, v1 j hj⟩) hS v5 hk
    have rb := rm_a (a := a) (S := S) (p := u.1) (k := k)
    have ak := ha k hk
    (try dsimp only)
    rw [er, v4, show nI (L - u.2) + 1 = nI (L - u.2 + 1) from nI_plus _ 1]
    unfold stS
    by_cases c0 : u.2 = 0
    · rw [if_pos ((nlt (by omega) (by omega)).mpr (by omega)), if_pos (.inl c0)]
      exact ⟨v1, v5, v2, rfl, v3⟩
    · rw [if_neg (fun q => by have := (nlt (by omega) (by omega)).mp q; omega)]
      by_cases c : rmS a S u.1 k = 0
      · rw [if_pos (show nI (rmS a S u.1 k) < (1 : Int32) from (nlt (a := rmS a S u.1 k) (b := 1) (by omega) (by omega)).mpr (by omega)), if_pos (.inr c)]
        exact ⟨v1, v5, v2, rfl, v3⟩
      · rw [if_neg (show ¬ nI (rmS a S u.1 k) < (1 : Int32) from fun q => by have := (nlt (a := rmS a S u.1 k) (b := 1) (by omega) (by omega)).mp q; omega), if_neg (fun q => q.elim c0 c)]
        have n3 : ¬ S.testBit k = true := fun z => c (if_pos z)
        have n4 : rmS a S u.1 k = a k - u.1 k := if_neg n3
        refine ⟨fun j hj => ?_, fun j hj => ?_, by show u.2 - 1 ≤ L; omega, ?_, fun q hq => ?_⟩
        · show u2 v.1 1133 k (v.1 1133 k + 1) 1133 j = nI (cUp u.1 k (u.1 k + 1) j)
          by_cases e : j = k
          · rw [e, u2_at, cUp_at, v1 k hk]
            exact nI_plus _ 1
          · rw [u2_oi e, cUp_ne e]
            exact v1 j hj
        · show cUp u.1 k (u.1 k + 1) j ≤ a j
          by_cases e : j = k
          · rw [e, cUp_at]
            omega
          · rw [cUp_ne e]
            exact v5 j hj
        · show nI (L - u.2 + 1) = nI (L - (u.2 - 1))
          congr 1
          omega
        · show u2 v.1 1133 k _ q = s q
          rw [u2_ne hq]
          exact v3 q hq
/-- how many pay, and how many turns none is left out -/
theorem turns_c (h : PY a p s) (hS : S < 64) (hp : ∀ j, j < 6 → p j ≤ a j) (ha : ∀ j, j < 6 → a j ≤ 300000) (hL2 : L ≤ 2000000) {y l9 : Int32} : (x_raiseOutside_21 σ (nI S) y (s, l9) (0, nI L)).1 = nI (pcS a S p) ∧ ∃ m, (x_raiseOutside_21 σ (nI S) y (s, l9) (0, nI L)).2 = nI m ∧ m ≤ L ∧ (∀ j, j < 6 → rmS a S p j ≠ 0 → m ≤ rmS a S p j) ∧ (m = L ∨ ∃ j, j < 6 ∧ rmS a S p j ≠ 0 ∧ m = rmS a S p j) := by
  have H := xit_ind (step := fun i21 (s21 : Int32 × Int32) => (if (f_roomOutside s (nI S) i21) ≤ 0 then (s21.1, s21.2) else (s21.1 + 1, if (f_roomOutside s (nI S) i21) < s21.2 then (f_roomOutside s (nI S) i21) else s21.2))) (fun k v => v.1 = nI (nsum (pyS a S p) k) ∧ ∃ m, v.2 = nI m ∧ m ≤ L ∧ (∀ j, j < k → rmS a S p j ≠ 0 → m ≤ rmS a S p j) ∧ (m = L ∨ ∃ j, j < 6 ∧ rmS a S p j ≠ 0 ∧ m = rmS a S p j)) (N := 6) (fun k v hk hP => ?_) 6 0 (0, nI L) rfl ⟨rfl, L, rfl, Nat.le_refl _, fun j hj => absurd hj (by omega), .inl rfl⟩
  · exact H
  · obtain ⟨v1, m, v2, v3, v4, v5⟩ := hP
    have sm : nsum (pyS a S p) (k + 1) = nsum (pyS a S p) k + pyS a S p k := rfl
    have rb := rm_a (a := a) (S := S) (p := p) (k := k)
    have ak := ha k hk
    (try dsimp only)
    rw [room_c h hS hp hk, v1, v2]
    by_cases c : rmS a S p k = 0
    · have z : pyS a S p k = 0 := if_pos c
      rw [if_pos ((nI_le0 (by omega)).mpr c)]
      refine ⟨by rw [sm, z, Nat.add_zero], m, rfl, v3, fun j hj hn => ?_, v5⟩
      by_cases e : j = k
      · exact absurd (by rw [e]; exact c) hn
      · exact v4 j (by omega) hn
    · have z : pyS a S p k = 1 := if_neg c
      rw [if_neg (fun q => c ((nI_le0 (by omega)).mp q))]
      refine ⟨by show nI (nsum (pyS a S p) k) + 1 = _; rw [sm, z]; exact nI_plus _ 1, ?_⟩
      by_cases l : rmS a S p k < m
      · refine ⟨rmS a S p k, if_pos ((nlt (by omega) (by omega)).mpr l), by omega, fun j hj hn => ?_, .inr ⟨k, hk, c, rfl⟩⟩
        by_cases e : j = k
        · rw [e]
          exact Nat.le_refl _
        · have := v4 j (by omega) hn
          omega
      · refine ⟨m, if_neg (fun q => l ((nlt (by omega) (by omega)).mp q)), v3, fun j hj hn => ?_, v5⟩
        by_cases e : j = k
        · rw [e]
          omega
        · exact v4 j (by omega) hn
/-- all of the program's turns -/
theorem ro_sim (h : PY a p s) (hS : S < 64) (hp : ∀ j, j < 6 → p j ≤ a j) (ha : ∀ j, j < 6 → a j ≤ 300000) (hL2 : L ≤ 2000000) : ∃ n, fiS a S (itS a S n (p, L)) ∧ (∀ j, j < 6 → g_raiseOutside s (nI S) (nI L) 1133 j = nI ((itS a S n (p, L)).1 j)) ∧ ∀ q, q ≠ 1133 → g_raiseOutside s (nI S) (nI L) q = s q := by
  have H : ∃ n, (pcS a S (itS a S n (p, L)).1 = 0 ∨ (itS a S n (p, L)).2 < pcS a S (itS a S n (p, L)).1) ∧ (x_raiseOutside_5 s (nI S) (nI L) (s, nI L)).2 = nI (itS a S n (p, L)).2 ∧ (∀ j, j < 6 → (x_raiseOutside_5 s (nI S) (nI L) (s, nI L)).1 1133 j = nI ((itS a S n (p, L)).1 j)) ∧ ∀ q, q ≠ 1133 → (x_raiseOutside_5 s (nI S) (nI L) (s, nI L)).1 q = s q := by
    unfold x_raiseOutside_5
    refine xitB_fin (fun i (v : XS9 × Int32) => ∃ n, (pcS a S (itS a S n (p, L)).1 + i ≤ 6 ∨ (itS a S n (p, L)).2 < pcS a S (itS a S n (p, L)).1) ∧ v.2 = nI (itS a S n (p, L)).2 ∧ (∀ j, j < 6 → v.1 1133 j = nI ((itS a S n (p, L)).1 j)) ∧ ∀ q, q ≠ 1133 → v.1 q = s q) (fun v => ∃ n, (pcS a S (itS a S n (p, L)).1 = 0 ∨ (itS a S n (p, L)).2 < pcS a S (itS a S n (p, L)).1) ∧ v.2 = nI (itS a S n (p, L)).2 ∧ (∀ j, j < 6 → v.1 1133 j = nI ((itS a S n (p, L)).1 j)) ∧ ∀ q, q ≠ 1133 → v.1 q = s q) (N := 7) (fun i v hi hP => ?_) (fun v hP => ?_) 7 0 (s, nI L) rfl ⟨0, .inl pc_6, rfl, fun j hj => (h j hj).2, fun _ _ => rfl⟩
    · obtain ⟨n, v0, v1, v2, v3⟩ := hP
      have I : inS a S p L (itS a S n (p, L)) := inS.it n (inS.start hp)
      obtain ⟨v9, l9⟩ := v
      have v1 : l9 = nI (itS a S n (p, L)).2 := v1
      subst v1
      have an := itS_add (a := a) (S := S) (n := 0) n (p, L)
      have an : ∀ k, itS a S (n + k) (p, L) = itS a S k (itS a S n (p, L)) := fun k => itS_add n (p, L)
      generalize itS a S n (p, L) = u at v0 v2 I an
      obtain ⟨p1, L1⟩ := u
      have I1 : ∀ j, j < 6 → p1 j ≤ a j := I.2.1
      have hL1 : L1 ≤ L := by
        have a1 := I.2.2.2
        have a2 := nsum_mo (d := p) (d2 := p1) (N := 6) (fun j _ => I.1 j)
        have a1 : nsum p1 6 + L1 = nsum p 6 + L := a1
        omega
      have v3 : ∀ q, q ≠ 1133 → v9 q = s q := v3
      have v2 : ∀ j, j < 6 → v9 1133 j = nI (p1 j) := v2
      have P1 : PY a p1 v9 := fun j hj => ⟨by rw [v3 1131 (by decide)]; exact (h j hj).1, v2 j hj⟩
      obtain ⟨t1, m, t2, t3, t4, t5⟩ := turns_c (σ := s) (s := v9) (L := L1) (y := nI L) (l9 := nI L1) P1 hS I1 ha (by omega)
      have c6 := pc_6 (a := a) (S := S) (p := p1)
      (try dsimp only)
      rw [t1, t2]
      have v0 : pcS a S p1 + i ≤ 6 ∨ L1 < pcS a S p1 := v0
      by_cases c0 : pcS a S p1 = 0
      · rw [if_pos (show nI (pcS a S p1) = 0 by rw [c0]; rfl)]
        refine ⟨fun s' e => (by cases e), fun s' e => ?_⟩
        rw [← Sum.inr.inj e]
        refine ⟨n, ?_⟩
        rw [show itS a S n (p, L) = (p1, L1) from an 0]
        exact ⟨.inl c0, rfl, v2, v3⟩
      · rw [if_neg (show ¬ nI (pcS a S p1) = 0 from fun z => c0 (nI_j (a := pcS a S p1) (b := 0) (by omega) (by decide) z))]
        by_cases c1 : pcS a S p1 ≤ L1
        · rw [if_pos ((nle (by omega) (by omega)).mpr c1), nI_div (by omega) (by omega) (by omega)]
          refine ⟨fun s' e => ?_, fun s' e => (by cases e)⟩
          rw [← Sum.inl.inj e]
          have d1 : L1 / pcS a S p1 * pcS a S p1 ≤ L1 := Nat.div_mul_le_self _ _
          have d2 : 1 ≤ L1 / pcS a S p1 := (Nat.one_le_div_iff (by omega)).mpr c1
          have d3 : L1 / pcS a S p1 ≤ L1 := Nat.div_le_self _ _
          have d4 := Nat.div_add_mod L1 (pcS a S p1)
          have d5 := Nat.mod_lt L1 (show 0 < pcS a S p1 by omega)
          have tm : ∀ t9, (1 ≤ t9 ∧ t9 ≤ L1 / pcS a S p1 ∧ t9 ≤ m ∧ ((t9 = L1 / pcS a S p1 ∧ t9 < m) ∨ t9 = m)) → ∃ n, (pcS a S (itS a S n (p, L)).1 + (i + 1) ≤ 6 ∨ (itS a S n (p, L)).2 < pcS a S (itS a S n (p, L)).1) ∧ (nI L1 - f_raiseEach v9 (nI S) (nI t9) (nI L1)) = nI (itS a S n (p, L)).2 ∧ (∀ j, j < 6 → g_raiseEach v9 (nI S) (nI t9) (nI L1) 1133 j = nI ((itS a S n (p, L)).1 j)) ∧ ∀ q, q ≠ 1133 → g_raiseEach v9 (nI S) (nI t9) (nI L1) q = s q := fun t9 ⟨q1, q2, q3, q4⟩ => by
            have k1 : ∀ k, k < 6 → rmS a S p1 k ≠ 0 → t9 ≤ rmS a S p1 k := fun k hk hn => Nat.le_trans q3 (t4 k hk hn)
            have k2 : t9 * pcS a S p1 ≤ L1 := Nat.le_trans (Nat.mul_le_mul_right _ q2) d1
            obtain ⟨e1, e2, e3⟩ := each_t P1 hS I1 ha q1 k1 k2 (by omega) (by omega)
            have eb := bulk (L := L1) t9 k1 k2
            refine ⟨n + t9, ?_⟩
            rw [an t9, eb, e2, nI_minus k2]
            refine ⟨?_, rfl, e1, fun q hq => (e3 q hq).trans (v3 q hq)⟩
            show pcS a S (bmS a S t9 p1) + (i + 1) ≤ 6 ∨ L1 - t9 * pcS a S p1 < pcS a S (bmS a S t9 p1)
            have fill : (∃ j, j < 6 ∧ rmS a S p1 j ≠ 0 ∧ t9 = rmS a S p1 j) → pcS a S (bmS a S t9 p1) + 1 ≤ pcS a S p1 := fun ⟨j, j1, j2, j3⟩ => by
              have z : ∀ k, k < 6 → pyS a S (bmS a S t9 p1) k ≤ pyS a S p1 k := fun k hk => by
                by_cases c : rmS a S p1 k = 0
                · have e : bmS a S t9 p1 k = p1 k := if_neg (fun q => q.2 c)
                  have e2 : rmS a S (bmS a S t9 p1) k = 0 := by
                    rw [← c]
                    unfold rmS
                    rw [e]
                  rw [show pyS a S (bmS a S t9 p1) k = 0 from if_pos e2]
                  exact Nat.zero_le _
                · rw [show pyS a S p1 k = 1 from if_neg c]
                  unfold pyS
                  split <;> decide
              have zj : pyS a S (bmS a S t9 p1) j + 1 ≤ pyS a S p1 j := by
                rw [show pyS a S p1 j = 1 from if_neg j2]
                have e : bmS a S t9 p1 j = p1 j + t9 := if_pos ⟨j1, j2⟩
                have e2 : rmS a S (bmS a S t9 p1) j = 0 := by
                  unfold rmS at j2 j3 ⊢
                  rw [e]
                  split
                  · rfl
                  · rename_i w
                    rw [if_neg w] at j3
                    omega
                rw [show pyS a S (bmS a S t9 p1) j = 0 from if_pos e2]
                exact Nat.le_refl _
              have w : ∀ N, N ≤ 6 → nsum (pyS a S (bmS a S t9 p1)) N + (if j < N then 1 else 0) ≤ nsum (pyS a S p1) N := by
                intro N
                induction N with
                | zero => exact fun _ => Nat.le_refl _
                | succ N ih =>
                  intro hN
                  have ih := ih (by omega)
                  have zN := z N (by omega)
                  show nsum (pyS a S (bmS a S t9 p1)) N + pyS a S (bmS a S t9 p1) N + _ ≤ nsum (pyS a S p1) N + pyS a S p1 N
                  by_cases e : j = N
                  · rw [if_neg (by omega)] at ih
                    rw [if_pos (by omega)]
                    rw [e] at zj
                    omega
                  · by_cases e2 : j < N
                    · rw [if_pos e2] at ih
                      rw [if_pos (by omega)]
                      omega
                    · rw [if_neg e2] at ih
                      rw [if_neg (by omega)]
                      omega
              have := w 6 (Nat.le_refl _)
              rw [if_pos j1] at this
              exact this
            rcases q4 with ⟨q4, q5⟩ | q4
            · right
              rw [bm_pc (fun k hk hn => Nat.le_trans q5 (t4 k hk hn)), q4]
              rw [Nat.mul_comm] at d4
              omega
            · rcases t5 with t5 | ⟨j, j1, j2, j3⟩
              · have b1 : pcS a S (bmS a S t9 p1) ≤ pcS a S p1 := nsum_mo fun k hk => by
                  by_cases c : rmS a S p1 k = 0
                  · have e : bmS a S t9 p1 k = p1 k := if_neg (fun q => q.2 c)
                    have e2 : rmS a S (bmS a S t9 p1) k = 0 := by
                      rw [← c]
                      unfold rmS
                      rw [e]
                    rw [show pyS a S (bmS a S t9 p1) k = 0 from if_pos e2]
                    exact Nat.zero_le _
                  · rw [show pyS a S p1 k = 1 from if_neg c]
                    unfold pyS
                    split <;> decide
                have e1 : t9 = L1 := q4.trans t5
                have p1' : pcS a S p1 = 1 := by
                  rw [e1] at k2
                  by_cases c9 : 2 ≤ pcS a S p1
                  · have := Nat.mul_le_mul_left L1 c9
                    omega
                  · omega
                rw [p1'] at b1 ⊢
                rw [p1'] at v0 c1
                by_cases c9 : pcS a S (bmS a S t9 p1) = 0
                · left
                  omega
                · right
                  omega
              · have := fill ⟨j, j1, j2, q4.trans j3⟩
                left
                omega
          have mp : 1 ≤ m := by
            rcases t5 with t5 | ⟨j, j1, j2, j3⟩
            · omega
            · omega
          by_cases l : L1 / pcS a S p1 < m
          · rw [if_pos ((nlt (by omega) (by omega)).mpr l)]
            exact tm _ ⟨d2, Nat.le_refl _, by omega, .inl ⟨rfl, l⟩⟩
          · rw [if_neg (fun z => l ((nlt (by omega) (by omega)).mp z))]
            exact tm _ ⟨mp, by omega, Nat.le_refl _, .inr rfl⟩
        · rw [if_neg (fun z => c1 ((nle (by omega) (by omega)).mp z))]
          refine ⟨fun s' e => (by cases e), fun s' e => ?_⟩
          rw [← Sum.inr.inj e]
          refine ⟨n, ?_⟩
          rw [show itS a S n (p, L) = (p1, L1) from an 0]
          exact ⟨.inr (by show L1 < pcS a S p1; omega), rfl, v2, v3⟩
    · obtain ⟨n, v0, v1, v2, v3⟩ := hP
      exact ⟨n, .inr (v0.resolve_left (by omega)), v1, v2, v3⟩
  obtain ⟨n, h0, h1, h2, h3⟩ := H
  have I : inS a S p L (itS a S n (p, L)) := inS.it n (inS.start hp)
  have hL1 : (itS a S n (p, L)).2 ≤ L := by
    have a1 := I.2.2.2
    have a2 := nsum_mo (d := p) (d2 := (itS a S n (p, L)).1) (N := 6) (fun j _ => I.1 j)
    omega
  have E := each_1 (s := (x_raiseOutside_5 s (nI S) (nI L) (s, nI L)).1) (a := a) (p := (itS a S n (p, L)).1) (L := (itS a S n (p, L)).2) (fun j hj => ⟨by rw [h3 1131 (by decide)]; exact (h j hj).1, h2 j hj⟩) hS I.2.1 ha (by omega)
  have ea : itS a S (n + 1) (p, L) = psS a S (itS a S n (p, L)) := itS_add n (p, L)
  refine ⟨n + 1, ?_, fun j hj => ?_, fun q hq => ?_⟩
  · rw [ea]
    rcases h0 with z | z
    · have f : fiS a S (itS a S n (p, L)) := .inr fun k hk => pc_0 z hk
      rw [psS_fin f]
      exact f
    · exact .inl (psS_low (p := (itS a S n (p, L)).1) (L := (itS a S n (p, L)).2) z)
  · rw [ea]
    unfold g_raiseOutside
    rw [h1]
    exact E.1 j hj
  · unfold g_raiseOutside
    rw [h1]
    exact (E.2 q hq).trans (h3 q hq)
end
