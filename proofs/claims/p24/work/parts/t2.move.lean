/-! ===== moving what is held, alike on both sides ===== -/
theorem u2_id {s : XS9} {q i : Nat} {x : Int32} (e : x = s q i) : u2 s q i x = s := by
  funext r j
  by_cases e1 : r = q
  · by_cases e2 : j = i
    · rw [e1, e2, u2_at]
      exact e
    · rw [e1, u2_oi e2]
  · rw [u2_ne e1]
theorem u2_two {s : XS9} {q i : Nat} {x y : Int32} : u2 (u2 s q i x) q i y = u2 s q i y := by
  funext r j
  by_cases e1 : r = q
  · by_cases e2 : j = i
    · rw [e1, e2, u2_at, u2_at]
    · rw [e1, u2_oi e2, u2_oi e2, u2_oi e2]
  · rw [u2_ne e1, u2_ne e1, u2_ne e1]
theorem nle {a b : Nat} (ha : a < 2147483648) (hb : b < 2147483648) : nI a ≤ nI b ↔ a ≤ b := by
  rw [i_le, toI_nI ha, toI_nI hb]
  omega
theorem nlt {a b : Nat} (ha : a < 2147483648) (hb : b < 2147483648) : nI a < nI b ↔ a < b := by
  rw [i_lt, toI_nI ha, toI_nI hb]
  omega
theorem over_le {S q : Nat} (hS : S ≤ 30) (hq : q ≤ 5) : nI S - nI q ≤ 0 ↔ S ≤ q := by
  have : ∀ S : Fin 31, ∀ q : Fin 6, nI S.1 - nI q.1 ≤ 0 ↔ S.1 ≤ q.1 := by decide +kernel
  exact this ⟨S, by omega⟩ ⟨q, by omega⟩
/-- the row of a state -/
abbrev hsum (s : XS9) (a r B : Nat) : Nat := nsum (fun j => dgt (s a j) r) B
section
variable {σ : XS9} {b b' R B g w n r q v i : Nat}
theorem hsum_30 {s : XS9} {a : Nat} (hB6 : B ≤ 6) : hsum s a r B ≤ 30 := by
  have : hsum s a r B ≤ 5 * B := nsum_le fun _ _ => dgt_le
  omega
theorem hsum_u2 {s : XS9} {a : Nat} {x : Int32} (hi : i < B) : hsum (u2 s a i x) a r B + dgt (s a i) r = hsum s a r B + dgt x r := by
  have := nsum_set (d := fun j => dgt (s a j) r) (d2 := fun j => dgt (u2 s a i x a j) r) hi (fun j _ e => by
    show dgt (u2 s a i x a j) r = dgt (s a j) r
    rw [u2_oi e])
  (try dsimp only at this)
  rw [show dgt (u2 s a i x a i) r = dgt x r from by rw [u2_at]] at this
  exact this
theorem inner (hr : r < 5) (hi : i < B) (hB6 : B ≤ 6) (hv : v ≤ 5) (hq : q ≤ 5) : ∀ (f k : Nat) (s : XS9), (∀ j, j < B → bd 7775 (s (b + 2) j)) → min (dgt (s (b + 2) i) r - v) (hsum s (b + 2) r B - q) ≤ f → xitB (fun (_ : Nat) (s : XS9) => if f_of (s (b + 2) i) r ≤ nI v then .inr s else (if f_KheldIn s b r B g ≤ nI q then .inr s else .inl (u2 s (b + 2) i (s (b + 2) i - f_power r)))) f k s = u2 s (b + 2) i (f_with (s (b + 2) i) r (nI (dgt (s (b + 2) i) r - min (dgt (s (b + 2) i) r - v) (hsum s (b + 2) r B - q))))
  | 0, k, s, h, ht => by
    rw [show min (dgt (s (b + 2) i) r - v) (hsum s (b + 2) r B - q) = 0 by omega, Nat.sub_zero, with_dgt (h i hi) hr, u2_id rfl]
    rfl
  | f + 1, k, s, h, ht => by
    have hc := h i hi
    have hd := dgt_le (c := s (b + 2) i) (r := r)
    have hS := hsum_30 (s := s) (a := b + 2) (r := r) hB6
    have stay : min (dgt (s (b + 2) i) r - v) (hsum s (b + 2) r B - q) = 0 → s = u2 s (b + 2) i (f_with (s (b + 2) i) r (nI (dgt (s (b + 2) i) r - min (dgt (s (b + 2) i) r - v) (hsum s (b + 2) r B - q)))) := fun e => by
      rw [e, Nat.sub_zero, with_dgt hc hr, u2_id rfl]
    unfold xitB
    (try dsimp only)
    by_cases c1 : dgt (s (b + 2) i) r ≤ v
    · rw [if_pos (show f_of (s (b + 2) i) r ≤ nI v by rw [of_d hc hr]; exact (nle (by omega) (by omega)).mpr c1)]
      exact stay (by omega)
    · rw [if_neg (show ¬ f_of (s (b + 2) i) r ≤ nI v by rw [of_d hc hr]; exact fun z => c1 ((nle (by omega) (by omega)).mp z))]
      by_cases c2 : hsum s (b + 2) r B ≤ q
      · rw [if_pos (show f_KheldIn s b r B g ≤ nI q by rw [held_n hr h]; exact (nle (a := hsum s (b + 2) r B) (by omega) (by omega)).mpr c2)]
        exact stay (by omega)
      · rw [if_neg (show ¬ f_KheldIn s b r B g ≤ nI q by rw [held_n hr h]; exact fun z => c2 ((nle (a := hsum s (b + 2) r B) (by omega) (by omega)).mp z))]
        have b1 : bd 5 (nI (dgt (s (b + 2) i) r - 1)) := bd.nat (by omega) (by decide)
        have ev := sub_power hc hr (by omega)
        have e3 := hsum_u2 (s := s) (a := b + 2) (r := r) (x := s (b + 2) i - f_power r) hi
        have ed : dgt (s (b + 2) i - f_power r) r = dgt (s (b + 2) i) r - 1 := by rw [ev, with_at hc hr b1, cn_nI (by omega)]
        have h' : ∀ j, j < B → bd 7775 (u2 s (b + 2) i (s (b + 2) i - f_power r) (b + 2) j) := fun j hj => by
          by_cases e : j = i
          · rw [e, u2_at, ev]
            exact hc.withd hr b1
          · rw [u2_oi e]
            exact h j hj
        have IH := inner hr hi hB6 hv hq f (k + 1) (u2 s (b + 2) i (s (b + 2) i - f_power r)) h' (by
          rw [u2_at, ed]
          rw [ed] at e3
          omega)
        refine IH.trans ?_
        rw [ed] at e3
        rw [u2_at, ed, u2_two, ev, with_with hc hr b1 (bd.nat (by omega) (by decide))]
        rw [ev] at e3
        have e4 : dgt (s (b + 2) i) r - 1 - min (dgt (s (b + 2) i) r - 1 - v) (hsum (u2 s (b + 2) i (f_with (s (b + 2) i) r (nI (dgt (s (b + 2) i) r - 1)))) (b + 2) r B - q) = dgt (s (b + 2) i) r - min (dgt (s (b + 2) i) r - v) (hsum s (b + 2) r B - q) := by omega
        rw [e4]
/-- one bidder's return of what is too much -/
theorem c274_eq {s : XS9} (hr : r < 5) (hi : i < B) (hB6 : B ≤ 6) (eq : σ (5010 + r) 0 = nI q) (hq : q ≤ 5) (hW : bd 7775 (x_Kclose_2 σ b R B g w n σ (b + 500 + g) i)) (h : ∀ j, j < B → bd 7775 (s (b + 2) j)) : x_Kclose_274 σ b R B g w n r i s s = u2 s (b + 2) i (f_with (s (b + 2) i) r (nI (dgt (s (b + 2) i) r - min (dgt (s (b + 2) i) r - dgt (x_Kclose_2 σ b R B g w n σ (b + 500 + g) i) r) (hsum s (b + 2) r B - q)))) := by
  unfold x_Kclose_274
  rw [of_d hW hr, eq]
  exact inner hr hi hB6 dgt_le hq 5 0 s h (by have := dgt_le (c := s (b + 2) i) (r := r); omega)
theorem c259_stay {s : XS9} (hr : r < 5) (hB6 : B ≤ 6) (eq : σ (5010 + r) 0 = nI q) (hq : q ≤ 5) (hW : ∀ j, j < B → bd 7775 (x_Kclose_2 σ b R B g w n σ (b + 500 + g) j)) (h : ∀ j, j < B → bd 7775 (s (b + 2) j)) (hS : hsum s (b + 2) r B ≤ q) (f k : Nat) (e : k + f = B) : xit (fun i259 s259 => (x_Kclose_274 σ b R B g w n r i259 s259 s259)) f k s = s := by
  refine xit_inv (fun s9 : XS9 => s9 = s) (N := B) (fun i s9 hi hP => ?_) f k s e rfl
  show x_Kclose_274 σ b R B g w n r i s9 s9 = s
  rw [show s9 = s from hP]
  rw [c274_eq hr hi hB6 eq hq (hW i hi) h, show hsum s (b + 2) r B - q = 0 by omega, Nat.min_zero, Nat.sub_zero, with_dgt (h i hi) hr, u2_id rfl]
/-- alike: what is held -/
def HE (b b' B : Nat) (s s' : XS9) : Prop := ∀ j, j < B → s (b + 2) j = s' (b' + 2) j ∧ bd 7775 (s' (b' + 2) j)
theorem HE.put {s s' : XS9} {x y : Int32} (h : HE b b' B s s') (e : x = y) (hy : bd 7775 y) : HE b b' B (u2 s (b + 2) i x) (u2 s' (b' + 2) i y) := fun j hj => by
  by_cases q : j = i
  · rw [q, u2_at, u2_at]
    exact ⟨e, hy⟩
  · rw [u2_oi q, u2_oi q]
    exact h j hj
/-- what a walk over the bidders keeps: other regions' digits, and beyond the bidders -/
def KP (b' r B : Nat) (s s2 : XS9) : Prop := ∀ j, j < B → ∀ k, k < 5 → k ≠ r → dgt (s2 (b' + 2) j) k = dgt (s (b' + 2) j) k
theorem KP.put {s s2 : XS9} {x m : Int32} (h : KP b' r B s s2) (hr : r < 5) (hc : bd 7775 (s2 (b' + 2) i)) (hm : bd 5 m) (e : x = f_with (s2 (b' + 2) i) r m) : KP b' r B s (u2 s2 (b' + 2) i x) := fun j hj k hk hn => by
  by_cases q : j = i
  · rw [q, u2_at, e, with_ne hc hr hm hk hn, ← q]
    exact h j hj k hk hn
  · rw [u2_oi q]
    exact h j hj k hk hn
theorem KP.trans {s s2 s3 : XS9} (h : KP b' r B s s2) (h2 : KP b' r B s2 s3) : KP b' r B s s3 := fun j hj k hk hn => (h2 j hj k hk hn).trans (h j hj k hk hn)
/-- the class's two steps, the reference's two steps -/
def st2 (b r i : Nat) (s : XS9) : XS9 := (if f_many (s (b + 3) i) r < f_many (s (b + 2) i) r then s else u2 s (b + 2) i (f_replaced (s (b + 2) i) r (f_many (s (b + 3) i) r)))
def st80 (b r i : Nat) (p : XS9 × Int32) : (XS9 × Int32) ⊕ (XS9 × Int32) := (if p.2 ≤ 0 then .inr (p.1, p.2) else .inl (u2 p.1 (b + 2) i (f_replaced (p.1 (b + 2) i) r ((f_many (p.1 (b + 2) i) r) - (if ((f_many (p.1 (b + 2) i) r) - (f_many (p.1 (b + 3) i) r)) < p.2 then ((f_many (p.1 (b + 2) i) r) - (f_many (p.1 (b + 3) i) r)) else p.2))), p.2 - (if ((f_many (p.1 (b + 2) i) r) - (f_many (p.1 (b + 3) i) r)) < p.2 then ((f_many (p.1 (b + 2) i) r) - (f_many (p.1 (b + 3) i) r)) else p.2)))
def st181 (σ : XS9) (b R B g w n r i : Nat) (s : XS9) : XS9 := (if (f_of ((x_Kclose_2 σ b R B g w n σ) (b + 500 + g) i) r) ≤ (f_of (s (b + 2) i) r) then s else u2 s (b + 2) i (f_with (s (b + 2) i) r (f_of ((x_Kclose_2 σ b R B g w n σ) (b + 500 + g) i) r)))
def st259 (σ : XS9) (b R B g w n r i : Nat) (s : XS9) : XS9 := x_Kclose_274 σ b R B g w n r i s s
theorem xitB_l {S : Type} {step : Nat → S → S ⊕ S} {f i : Nat} {s s' : S} (e : step i s = .inl s') : xitB step (f + 1) i s = xitB step f (i + 1) s' := by
  show (match step i s with | .inl s' => xitB step f (i + 1) s' | .inr s' => s') = _
  rw [e]
theorem xitB_r {S : Type} {step : Nat → S → S ⊕ S} {f i : Nat} {s s' : S} (e : step i s = .inr s') : xitB step (f + 1) i s = s' := by
  show (match step i s with | .inl s' => xitB step f (i + 1) s' | .inr s' => s') = _
  rw [e]
/-- the wish that counts, alike -/
def WE (σ : XS9) (b' R B g w n : Nat) (W : Nat → Int32) : Prop := ∀ j, j < B → bd 7775 (W j) ∧ x_Kclose_2 σ b' R B g w n σ (b' + 500 + g) j = W j
theorem st80_pos {s : XS9} {E c V T : Int32} (h0 : ¬ E ≤ 0) (h1 : s (b + 2) i = c) (h2 : s (b + 3) i = V) (h3 : (if f_many c r - f_many V r < E then f_many c r - f_many V r else E) = T) : st80 b r i (s, E) = .inl (u2 s (b + 2) i (f_replaced c r (f_many c r - T)), E - T) := by
  subst h1
  subst h2
  subst h3
  exact if_neg h0
theorem mv80 {W : Nat → Int32} (hr : r < 5) (hB6 : B ≤ 6) (eq : σ (5010 + r) 0 = nI q) (hq : q ≤ 5) (hW : WE σ b' R B g w n W) : ∀ (f i : Nat) (s s' : XS9), i + f = B → s (b + 3) = W → HE b b' B s s' → (∀ j, j < B → dgt (W j) r ≤ dgt (s' (b' + 2) j) r) → HE b b' B (xitB (st80 b r) f i (s, nI (hsum s' (b' + 2) r B) - nI q)).1 (xit (st259 σ b' R B g w n r) f i s') ∧ KP b' r B s' (xit (st259 σ b' R B g w n r) f i s') ∧ ∀ j, B ≤ j → (xitB (st80 b r) f i (s, nI (hsum s' (b' + 2) r B) - nI q)).1 (b + 2) j = s (b + 2) j
  | 0, i, s, s', e, e3, hE, hw => ⟨hE, fun _ _ _ _ _ => rfl, fun _ _ => rfl⟩
  | f + 1, i, s, s', e, e3, hE, hw => by
    have hS := hsum_30 (s := s') (a := b' + 2) (r := r) hB6
    have hWb : ∀ j, j < B → bd 7775 (x_Kclose_2 σ b' R B g w n σ (b' + 500 + g) j) := fun j hj => by
      rw [(hW j hj).2]
      exact (hW j hj).1
    have hEb : ∀ j, j < B → bd 7775 (s' (b' + 2) j) := fun j hj => (hE j hj).2
    by_cases c1 : hsum s' (b' + 2) r B ≤ q
    · rw [show xit (st259 σ b' R B g w n r) (f + 1) i s' = s' from c259_stay hr hB6 eq hq hWb hEb c1 (f + 1) i e, xitB_r (step := st80 b r) (f := f) (i := i) (s := (s, nI (hsum s' (b' + 2) r B) - nI q)) (s' := (s, nI (hsum s' (b' + 2) r B) - nI q)) (if_pos ((over_le hS hq).mpr c1))]
      exact ⟨hE, fun _ _ _ _ _ => rfl, fun _ _ => rfl⟩
    · have hi : i < B := by omega
      have hc := hEb i hi
      have hd := dgt_le (c := s' (b' + 2) i) (r := r)
      have hwi := hw i hi
      obtain ⟨t, et⟩ : ∃ t, t = min (dgt (s' (b' + 2) i) r - dgt (W i) r) (hsum s' (b' + 2) r B - q) := ⟨_, rfl⟩
      have b5 : bd 5 (nI (dgt (s' (b' + 2) i) r - t)) := bd.nat (by omega) (by decide)
      have em : st259 σ b' R B g w n r i s' = u2 s' (b' + 2) i (f_with (s' (b' + 2) i) r (nI (dgt (s' (b' + 2) i) r - t))) := by
        rw [et, ← (hW i hi).2]
        exact c274_eq hr hi hB6 eq hq (hWb i hi) hEb
      have eS := hsum_u2 (s := s') (a := b' + 2) (r := r) (x := f_with (s' (b' + 2) i) r (nI (dgt (s' (b' + 2) i) r - t))) hi
      rw [with_at hc hr b5, cn_nI (by omega)] at eS
      have eT : (if nI (dgt (s' (b' + 2) i) r) - nI (dgt (W i) r) < nI (hsum s' (b' + 2) r B) - nI q then nI (dgt (s' (b' + 2) i) r) - nI (dgt (W i) r) else nI (hsum s' (b' + 2) r B) - nI q) = nI t := by
        rw [nI_minus hwi, nI_minus (show q ≤ hsum s' (b' + 2) r B by omega), et]
        split
        · rename_i z
          rw [Nat.min_eq_left (Nat.le_of_lt ((nlt (by omega) (by omega)).mp z))]
        · rename_i z
          rw [Nat.min_eq_right (Nat.le_of_not_lt fun y => z ((nlt (by omega) (by omega)).mpr y))]
      have ee : nI (hsum s' (b' + 2) r B) - nI q - nI t = nI (hsum (u2 s' (b' + 2) i (f_with (s' (b' + 2) i) r (nI (dgt (s' (b' + 2) i) r - t)))) (b' + 2) r B) - nI q := by
        rw [nI_minus (show q ≤ hsum s' (b' + 2) r B by omega), nI_minus (by omega), nI_minus (by omega)]
        congr 1
        omega
      have ec : st80 b r i (s, nI (hsum s' (b' + 2) r B) - nI q) = .inl (u2 s (b + 2) i (f_with (s' (b' + 2) i) r (nI (dgt (s' (b' + 2) i) r - t))), nI (hsum (u2 s' (b' + 2) i (f_with (s' (b' + 2) i) r (nI (dgt (s' (b' + 2) i) r - t)))) (b' + 2) r B) - nI q) := by
        have a1 : f_replaced (s' (b' + 2) i) r (f_many (s' (b' + 2) i) r - nI t) = f_with (s' (b' + 2) i) r (nI (dgt (s' (b' + 2) i) r - t)) := by
          rw [many_d hc hr, nI_minus (show t ≤ dgt (s' (b' + 2) i) r by omega), rep_with hc hr]
        refine (st80_pos (T := nI t) (fun z => c1 ((over_le hS hq).mp z)) (hE i hi).1 (congrFun e3 i) ?_).trans ?_
        · rw [many_d hc hr, many_d (hW i hi).1 hr]
          exact eT
        · rewrite [a1, ee]
          exact Eq.refl _
      rw [xitB_l ec]
      show HE b b' B _ (xit (st259 σ b' R B g w n r) f (i + 1) (st259 σ b' R B g w n r i s')) ∧ KP b' r B s' (xit (st259 σ b' R B g w n r) f (i + 1) (st259 σ b' R B g w n r i s')) ∧ _
      rw [em]
      have hE2 := hE.put (i := i) (x := f_with (s' (b' + 2) i) r (nI (dgt (s' (b' + 2) i) r - t))) rfl (hc.withd hr b5)
      have IH := mv80 hr hB6 eq hq hW f (i + 1) _ _ (by omega) (by rw [u2_ne (by omega)]; exact e3) hE2 (fun j hj => by
        by_cases z : j = i
        · rw [z, u2_at, with_at hc hr b5, cn_nI (by omega)]
          omega
        · rw [u2_oi z]
          exact hw j hj)
      refine ⟨IH.1, KP.trans (KP.put (fun _ _ _ _ _ => rfl) hr hc b5 rfl) IH.2.1, fun j hj => ?_⟩
      rw [IH.2.2 j hj, u2_oi (by omega)]
theorem mv2 {W : Nat → Int32} (hr : r < 5) (hW : WE σ b' R B g w n W) : ∀ (f i : Nat) (s s' : XS9), i + f = B → s (b + 3) = W → HE b b' B s s' → (∀ j, j < i → dgt (W j) r ≤ dgt (s' (b' + 2) j) r) → HE b b' B (xit (st2 b r) f i s) (xit (st181 σ b' R B g w n r) f i s') ∧ KP b' r B s' (xit (st181 σ b' R B g w n r) f i s') ∧ (∀ j, j < B → dgt (W j) r ≤ dgt (xit (st181 σ b' R B g w n r) f i s' (b' + 2) j) r) ∧ (xit (st2 b r) f i s (b + 3) = W) ∧ ∀ j, B ≤ j → xit (st2 b r) f i s (b + 2) j = s (b + 2) j
  | 0, i, s, s', e, e3, hE, hw => ⟨hE, fun _ _ _ _ _ => rfl, fun j hj => hw j (by omega), e3, fun _ _ => rfl⟩
  | f + 1, i, s, s', e, e3, hE, hw => by
    have hi : i < B := by omega
    have hc := (hE i hi).2
    have hwb := (hW i hi).1
    have b5 : bd 5 (nI (dgt (W i) r)) := dgt_bd
    have dW := dgt_le (c := W i) (r := r)
    have dH := dgt_le (c := s' (b' + 2) i) (r := r)
    have ec : st2 b r i s = u2 s (b + 2) i (if dgt (W i) r < dgt (s' (b' + 2) i) r then s' (b' + 2) i else f_with (s' (b' + 2) i) r (nI (dgt (W i) r))) := by
      unfold st2
      rw [(hE i hi).1, e3, many_d hc hr, many_d hwb hr, rep_with hc hr]
      by_cases z : dgt (W i) r < dgt (s' (b' + 2) i) r
      · rw [if_pos ((nlt (by omega) (by omega)).mpr z), if_pos z, u2_id (hE i hi).1.symm]
      · rw [if_neg (fun y => z ((nlt (by omega) (by omega)).mp y)), if_neg z]
    have em : st181 σ b' R B g w n r i s' = u2 s' (b' + 2) i (if dgt (W i) r < dgt (s' (b' + 2) i) r then s' (b' + 2) i else f_with (s' (b' + 2) i) r (nI (dgt (W i) r))) := by
      unfold st181
      rw [(hW i hi).2, of_d hc hr, of_d hwb hr]
      by_cases z : dgt (W i) r < dgt (s' (b' + 2) i) r
      · rw [if_pos ((nle (by omega) (by omega)).mpr (Nat.le_of_lt z)), if_pos z, u2_id rfl]
      · rw [if_neg z]
        by_cases y : dgt (W i) r = dgt (s' (b' + 2) i) r
        · rw [if_pos ((nle (by omega) (by omega)).mpr (Nat.le_of_eq y)), y, with_dgt hc hr, u2_id rfl]
        · rw [if_neg (fun x => y (by have := (nle (by omega) (by omega)).mp x; omega))]
    obtain ⟨x, ex⟩ : ∃ x, x = (if dgt (W i) r < dgt (s' (b' + 2) i) r then s' (b' + 2) i else f_with (s' (b' + 2) i) r (nI (dgt (W i) r))) := ⟨_, rfl⟩
    have hx : bd 7775 x ∧ dgt (W i) r ≤ dgt x r ∧ ∃ m, bd 5 m ∧ x = f_with (s' (b' + 2) i) r m := by
      rw [ex]
      split
      · rename_i z
        exact ⟨hc, Nat.le_of_lt z, _, dgt_bd, (with_dgt hc hr).symm⟩
      · refine ⟨hc.withd hr b5, ?_, _, b5, rfl⟩
        rw [with_at hc hr b5, cn_nI (by omega)]
        exact Nat.le_refl _
    rw [← ex] at ec em
    obtain ⟨h1, h2, m, h3, h4⟩ := hx
    have IH := mv2 hr hW f (i + 1) (u2 s (b + 2) i x) (u2 s' (b' + 2) i x) (by omega) (by rw [u2_ne (by omega)]; exact e3) (hE.put rfl h1) (fun j hj => by
      by_cases z : j = i
      · rw [z, u2_at]
        exact h2
      · rw [u2_oi z]
        exact hw j (by omega))
    show HE b b' B (xit (st2 b r) f (i + 1) (st2 b r i s)) (xit (st181 σ b' R B g w n r) f (i + 1) (st181 σ b' R B g w n r i s')) ∧ KP b' r B s' (xit (st181 σ b' R B g w n r) f (i + 1) (st181 σ b' R B g w n r i s')) ∧ (∀ j, j < B → dgt (W j) r ≤ dgt (xit (st181 σ b' R B g w n r) f (i + 1) (st181 σ b' R B g w n r i s') (b' + 2) j) r) ∧ (xit (st2 b r) f (i + 1) (st2 b r i s) (b + 3) = W) ∧ ∀ j, B ≤ j → xit (st2 b r) f (i + 1) (st2 b r i s) (b + 2) j = s (b + 2) j
    rw [ec, em]
    refine ⟨IH.1, KP.trans (KP.put (fun _ _ _ _ _ => rfl) hr hc h3 h4) IH.2.1, IH.2.2.1, IH.2.2.2.1, fun j hj => ?_⟩
    rw [IH.2.2.2.2 j hj, u2_oi (by omega)]
/-- one region -/
theorem move_sim {W : Nat → Int32} {s s' : XS9} (hr : r < 5) (hB6 : B ≤ 6) (eq : σ (5010 + r) 0 = nI q) (eqc : s 1010 r = nI q) (hb : 2000 ≤ b) (hq : q ≤ 5) (hW : WE σ b' R B g w n W) (e3 : s (b + 3) = W) (hE : HE b b' B s s') (hz : ∀ j, B ≤ j → j < 6 → s (b + 2) j = 0) : HE b b' B (g_moveHeld s b r B) (x_Kclose_259 σ b' R B g w n r (x_Kclose_181 σ b' R B g w n r s')) ∧ KP b' r B s' (x_Kclose_259 σ b' R B g w n r (x_Kclose_181 σ b' R B g w n r s')) ∧ ∀ j, B ≤ j → g_moveHeld s b r B (b + 2) j = s (b + 2) j := by
  have A := mv2 (b := b) hr hW B 0 s s' (Nat.zero_add _) e3 hE (fun j hj => absurd hj (by omega))
  obtain ⟨a1, a2, a3, a4, a5⟩ := A
  have f1010 : xit (st2 b r) B 0 s 1010 = s 1010 := xit_keep (fun s : XS9 => s 1010) (fun i s => by
    show st2 b r i s 1010 = s 1010
    unfold st2
    split
    · rfl
    · rw [u2_ne (by omega)]) _ _ _
  have et : f_together 6 (xit (st2 b r) B 0 s (b + 2)) r = nI (hsum (xit (st181 σ b' R B g w n r) B 0 s') (b' + 2) r B) := by
    rw [together_n hr hB6 (fun i hi => by rw [(a1 i hi).1]; exact (a1 i hi).2) (fun i h1 h2 => by rw [a5 i h1]; exact hz i h1 h2)]
    congr 1
    exact nsum_cg fun i hi => by rw [(a1 i hi).1]
  have C := mv80 (b := b) hr hB6 eq hq hW B 0 (xit (st2 b r) B 0 s) (xit (st181 σ b' R B g w n r) B 0 s') (Nat.zero_add _) a4 a1 a3
  have eg : g_moveHeld s b r B = (xitB (st80 b r) B 0 (xit (st2 b r) B 0 s, nI (hsum (xit (st181 σ b' R B g w n r) B 0 s') (b' + 2) r B) - nI q)).1 := by
    show (xitB (st80 b r) B 0 (xit (st2 b r) B 0 s, f_together 6 (xit (st2 b r) B 0 s (b + 2)) r - xit (st2 b r) B 0 s 1010 r)).1 = _
    rw [et, f1010, eqc]
  show HE b b' B (g_moveHeld s b r B) (xit (st259 σ b' R B g w n r) B 0 (xit (st181 σ b' R B g w n r) B 0 s')) ∧ KP b' r B s' (xit (st259 σ b' R B g w n r) B 0 (xit (st181 σ b' R B g w n r) B 0 s')) ∧ _
  rw [eg]
  exact ⟨C.1, a2.trans C.2.1, fun j hj => by rw [C.2.2 j hj, a5 j hj]⟩
end
