/-! ===== payments are found alike ===== -/
def posO (W a p : Nat → Nat) (S : Nat) : Nat := if 0 < oO W a p S then 1 else 0
section
variable {s t σ : XS9} {W a p : Nat → Nat} {S B qa w m L : Nat}
theorem xitR_l {S R : Type} {step : Nat → S → S ⊕ R} {f i : Nat} {s s' : S} (e : step i s = .inl s') : xitR step (f + 1) i s = xitR step f (i + 1) s' := by
  show (match step i s with | .inl s' => xitR step f (i + 1) s' | .inr r => .inr r) = _
  rw [e]
theorem xitR_r {S R : Type} {step : Nat → S → S ⊕ R} {f i : Nat} {s : S} {r : R} (e : step i s = .inr r) : xitR step (f + 1) i s = .inr r := by
  show (match step i s with | .inl s' => xitR step f (i + 1) s' | .inr r => .inr r) = _
  rw [e]
theorem cam_row {t2 : XS9} {j : Nat} (e1 : t2 9001 = t 9001) (e2 : t2 (5030 + j) = t (5030 + j)) : f_Camount t2 j = f_Camount t j := by
  unfold f_Camount f_Bamount
  rw [e1, e2]
theorem ps_cut {u : (Nat → Nat) × Nat} {n : Nat} (hn : n ≤ 6) (h : ∀ k, n ≤ k → k < 6 → rmS a S (xit (stS a S) n 0 u).1 k = 0 ∨ (xit (stS a S) n 0 u).2 = 0) : psS a S u = xit (stS a S) n 0 u := by
  unfold psS
  rw [show (6 : Nat) = n + (6 - n) by omega, xit_app, Nat.zero_add]
  exact ps_rest h (6 - n) n (by omega) (Nat.le_refl _)
theorem pass_m (hq : 20000 ≤ qa) (hB6 : B ≤ 6) (hS : S < 64) {x : Nat} {s6 : XS9 × Nat × Int32} (hL : L < 2147483648) (e9 : ∀ j, j < B → σ 9001 j = -1 → a j = 0) (ha : ∀ j, j < B → f_Camount t j = nI (a j)) (hz : ∀ j, B ≤ j → j < 6 → a j = 0) (ha3 : ∀ j, j < 6 → a j ≤ 300000) (hp : ∀ j, j < 6 → t qa j = nI (p j)) (hpa : ∀ j, j < 6 → p j ≤ a j) : (∀ j, j < 6 → (x_Craise_22 σ S x qa B s6 (t, L, 0)).1 qa j = nI ((psS a S (p, L)).1 j)) ∧ (x_Craise_22 σ S x qa B s6 (t, L, 0)).2.1 = (psS a S (p, L)).2 ∧ (∀ q, q ≠ qa → (x_Craise_22 σ S x qa B s6 (t, L, 0)).1 q = t q) ∧ (((x_Craise_22 σ S x qa B s6 (t, L, 0)).2.2 = 0 ∧ psS a S (p, L) = (p, L) ∧ fiS a S (p, L)) ∨ ((x_Craise_22 σ S x qa B s6 (t, L, 0)).2.2 = 1 ∧ (psS a S (p, L)).2 + 1 ≤ L)) := by
  have I : ∀ i, i ≤ 6 → inS a S p L (xit (stS a S) i 0 (p, L)) := fun i hi => xit_inv (inS a S p L) (N := i) (fun k v hk hP => hP.st (by omega)) i 0 (p, L) (Nat.zero_add _) (inS.start hpa)
  have I2 : ∀ i, i ≤ 6 → (xit (stS a S) i 0 (p, L)).2 ≤ L := fun i hi => by
    have a1 := (I i hi).2.2.2
    have a2 := nsum_mo (d := p) (d2 := (xit (stS a S) i 0 (p, L)).1) (N := 6) (fun j _ => (I i hi).1 j)
    omega
  unfold x_Craise_22
  refine xitB_fin (fun i (v : XS9 × Nat × Int32) => (∀ j, j < 6 → v.1 qa j = nI ((xit (stS a S) i 0 (p, L)).1 j)) ∧ v.2.1 = (xit (stS a S) i 0 (p, L)).2 ∧ (∀ q, q ≠ qa → v.1 q = t q) ∧ ((v.2.2 = 0 ∧ xit (stS a S) i 0 (p, L) = (p, L) ∧ ∀ k, k < i → rmS a S p k = 0) ∨ (v.2.2 = 1 ∧ (xit (stS a S) i 0 (p, L)).2 + 1 ≤ L))) (fun (v : XS9 × Nat × Int32) => (∀ j, j < 6 → v.1 qa j = nI ((psS a S (p, L)).1 j)) ∧ v.2.1 = (psS a S (p, L)).2 ∧ (∀ q, q ≠ qa → v.1 q = t q) ∧ ((v.2.2 = 0 ∧ psS a S (p, L) = (p, L) ∧ fiS a S (p, L)) ∨ (v.2.2 = 1 ∧ (psS a S (p, L)).2 + 1 ≤ L))) (N := B) (fun i v hi hP => ?_) (fun v hP => ?_) B 0 (t, L, 0) (Nat.zero_add _) ⟨hp, rfl, fun _ _ => rfl, .inl ⟨rfl, rfl, fun k hk => absurd hk (by omega)⟩⟩
  · obtain ⟨v1, v2, v3, v4⟩ := hP
    have J := I i (by omega)
    have J2 := I2 i (by omega)
    have cut := fun h => ps_cut (a := a) (S := S) (u := (p, L)) (n := i) (by omega) h
    have nx : xit (stS a S) (i + 1) 0 (p, L) = stS a S i (xit (stS a S) i 0 (p, L)) := xit_last
    rw [nx]
    have w3 : f_Camount v.1 i = nI (a i) := by rw [cam_row (v3 9001 (by omega)) (v3 (5030 + i) (by omega))]; exact ha i hi
    have w4 := v1 i (by omega)
    have w5 := hpa i (by omega)
    have w6 := ha3 i (by omega)
    generalize xit (stS a S) i 0 (p, L) = u at v1 v2 v4 J J2 cut w4 ⊢
    obtain ⟨v0, l0, f0⟩ := v
    have v2 : l0 = u.2 := v2
    subst v2
    have same : rmS a S u.1 i = 0 → (∀ j, j < 6 → v0 qa j = nI ((stS a S i u).1 j)) ∧ u.2 = (stS a S i u).2 ∧ (∀ q, q ≠ qa → v0 q = t q) ∧ ((f0 = 0 ∧ stS a S i u = (p, L) ∧ ∀ k, k < i + 1 → rmS a S p k = 0) ∨ (f0 = 1 ∧ (stS a S i u).2 + 1 ≤ L)) := fun hr => by
      have e : stS a S i u = u := if_pos (.inr hr)
      rw [e]
      refine ⟨v1, rfl, v3, v4.elim (fun ⟨k1, k2, k3⟩ => .inl ⟨k1, k2, fun k hk => ?_⟩) .inr⟩
      by_cases ek : k = i
      · rw [ek]
        rw [k2] at hr
        exact hr
      · exact k3 k (by omega)
    (try dsimp only)
    by_cases c0 : u.2 = 0
    · rw [if_pos ((nI_le0 (by omega)).mpr c0)]
      refine ⟨fun s' e => (by cases e), fun s' e => ?_⟩
      rw [← Sum.inr.inj e]
      have eu := cut fun k _ _ => .inr c0
      rw [eu]
      refine ⟨v1, rfl, v3, v4.elim (fun ⟨k1, k2, k3⟩ => .inl ⟨k1, k2, .inl ?_⟩) .inr⟩
      rw [← k2]
      exact c0
    · rw [if_neg (fun z => c0 ((nI_le0 (by omega)).mp z))]
      by_cases c1 : S.testBit i = true
      · rw [if_pos ((tst_m hS (by omega)).mpr c1)]
        refine ⟨fun s' e => ?_, fun s' e => (by cases e)⟩
        rw [← Sum.inl.inj e]
        exact same (if_pos c1)
      · rw [if_neg (fun z => c1 ((tst_m hS (by omega)).mp z))]
        have ur : rmS a S u.1 i = a i - u.1 i := if_neg c1
        have ub := J.2.1 i (by omega)
        by_cases c2 : σ 9001 i = -1
        · rw [if_pos c2]
          refine ⟨fun s' e => ?_, fun s' e => (by cases e)⟩
          rw [← Sum.inl.inj e]
          have := e9 i hi c2
          exact same (by omega)
        · have cnd : (v0 qa i < f_Camount v0 i) ↔ u.1 i < a i := by
            have w3 : f_Camount v0 i = nI (a i) := w3
            have w4 : v0 qa i = nI (u.1 i) := w4
            rw [w3, w4]
            exact nlt (by omega) (by omega)
          rw [if_neg c2]
          by_cases c3 : u.1 i < a i
          · rw [if_pos (cnd.mpr c3)]
            refine ⟨fun s' e => ?_, fun s' e => (by cases e)⟩
            rw [← Sum.inl.inj e]
            have e : stS a S i u = (cUp u.1 i (u.1 i + 1), u.2 - 1) := if_neg (fun z => z.elim c0 (fun z => by omega))
            rw [e]
            refine ⟨fun j hj => ?_, rfl, fun q hq9 => ?_, .inr ⟨rfl, by show u.2 - 1 + 1 ≤ L; omega⟩⟩
            · show u2 v0 qa i (v0 qa i + 1) qa j = nI (cUp u.1 i (u.1 i + 1) j)
              by_cases ej : j = i
              · rw [ej, u2_at, cUp_at, (show v0 qa i = nI (u.1 i) from w4)]
                exact nI_plus _ 1
              · rw [u2_oi ej, cUp_ne ej]
                exact v1 j hj
            · show u2 v0 qa i _ q = t q
              rw [u2_ne hq9]
              exact v3 q hq9
          · rw [if_neg (fun z => c3 (cnd.mp z))]
            refine ⟨fun s' e => ?_, fun s' e => (by cases e)⟩
            rw [← Sum.inl.inj e]
            exact same (by omega)
  · obtain ⟨v1, v2, v3, v4⟩ := hP
    have rz : ∀ (q : Nat → Nat) (k : Nat), B ≤ k → k < 6 → rmS a S q k = 0 := fun q k h1 h2 => by
      have := hz k h1 h2
      unfold rmS
      split <;> omega
    have eu := ps_cut (a := a) (S := S) (u := (p, L)) (n := B) hB6 fun k h1 h2 => .inl (rz _ k h1 h2)
    rw [eu]
    refine ⟨v1, v2, v3, v4.elim (fun ⟨k1, k2, k3⟩ => .inl ⟨k1, k2, .inr fun k hk => ?_⟩) .inr⟩
    rcases Nat.lt_or_ge k B with l | l
    · exact k3 k l
    · exact rz p k l hk
theorem raise_m (hq : 20000 ≤ qa) (hB6 : B ≤ 6) (hS : S < 64) (hL : L < 2147483648) (P : PYm a p B qa t) (hz : ∀ j, B ≤ j → j < 6 → a j = 0) (ha3 : ∀ j, j < 6 → a j ≤ 300000) (hpa : ∀ j, j < 6 → p j ≤ a j) : ∃ n, fiS a S (itS a S n (p, L)) ∧ (∀ j, j < 6 → g_Craise t S L qa B qa j = nI ((itS a S n (p, L)).1 j)) ∧ ∀ q, q ≠ qa → g_Craise t S L qa B q = t q := by
  unfold g_Craise x_Craise_6
  refine xitB_fin (fun i (v : XS9 × Nat × Int32) => ∃ n, (∀ j, j < 6 → v.1 qa j = nI ((itS a S n (p, L)).1 j)) ∧ v.2.1 = (itS a S n (p, L)).2 ∧ (∀ q, q ≠ qa → v.1 q = t q) ∧ ((v.2.2 = 1 ∧ (itS a S n (p, L)).2 + i ≤ L) ∨ (v.2.2 = 0 ∧ fiS a S (itS a S n (p, L))))) (fun (v : XS9 × Nat × Int32) => ∃ n, fiS a S (itS a S n (p, L)) ∧ (∀ j, j < 6 → v.1 qa j = nI ((itS a S n (p, L)).1 j)) ∧ ∀ q, q ≠ qa → v.1 q = t q) (N := L + 1) (fun i v hi hP => ?_) (fun v hP => ?_) (L + 1) 0 (t, L, 1) (Nat.zero_add _) ⟨0, fun j hj => P.1 j hj, rfl, fun _ _ => rfl, .inl ⟨rfl, Nat.le_refl _⟩⟩
  · obtain ⟨n, v1, v2, v3, v4⟩ := hP
    have I : inS a S p L (itS a S n (p, L)) := inS.it n (inS.start hpa)
    have hL1 : (itS a S n (p, L)).2 ≤ L := by
      have a1 := I.2.2.2
      have a2 := nsum_mo (d := p) (d2 := (itS a S n (p, L)).1) (N := 6) (fun j _ => I.1 j)
      omega
    have ea : itS a S (n + 1) (p, L) = psS a S (itS a S n (p, L)) := itS_add n (p, L)
    obtain ⟨v0, l0, f0⟩ := v
    have v2 : l0 = (itS a S n (p, L)).2 := v2
    subst v2
    (try dsimp only)
    by_cases c0 : (itS a S n (p, L)).2 = 0
    · rw [if_pos ((nI_le0 (by omega)).mpr c0)]
      refine ⟨fun s' e => (by cases e), fun s' e => ?_⟩
      rw [← Sum.inr.inj e]
      exact ⟨n, .inl c0, v1, v3⟩
    · rw [if_neg (fun z => c0 ((nI_le0 (by omega)).mp z))]
      by_cases c1 : f0 = 0
      · rw [if_pos c1]
        refine ⟨fun s' e => (by cases e), fun s' e => ?_⟩
        rw [← Sum.inr.inj e]
        refine ⟨n, v4.elim (fun z => ?_) (fun z => z.2), v1, v3⟩
        have z1 : f0 = 1 := z.1
        rw [c1] at z1
        exact absurd z1 (by decide)
      · rw [if_neg c1]
        refine ⟨fun s' e => ?_, fun s' e => (by cases e)⟩
        rw [← Sum.inl.inj e]
        have z2 := (v4.resolve_right fun z => c1 z.1).2
        obtain ⟨p1, p2, p3, p4⟩ := pass_m (σ := t) (t := v0) (a := a) (p := (itS a S n (p, L)).1) (L := (itS a S n (p, L)).2) (S := S) (x := L) (s6 := (v0, (itS a S n (p, L)).2, f0)) hq hB6 hS (by omega) (fun j hj => (P.2 j hj).2) (fun j hj => by rw [cam_row (v3 9001 (by omega)) (v3 (5030 + j) (by omega))]; exact (P.2 j hj).1) hz ha3 v1 I.2.1
        refine ⟨n + 1, ?_⟩
        rw [ea]
        refine ⟨p1, p2, fun q hq9 => (p3 q hq9).trans (v3 q hq9), ?_⟩
        rcases p4 with ⟨k1, k2, k3⟩ | ⟨k1, k2⟩
        · refine .inr ⟨k1, ?_⟩
          have k2 : psS a S (itS a S n (p, L)) = itS a S n (p, L) := k2
          rw [k2]
          exact k3
        · refine .inl ⟨k1, ?_⟩
          have k2 : (psS a S (itS a S n (p, L))).2 + 1 ≤ (itS a S n (p, L)).2 := k2
          omega
  · obtain ⟨n, v1, v2, v3, v4⟩ := hP
    exact ⟨n, (v4.resolve_left fun z => by have := z.2; omega).2, v1, v3⟩
/-- step by step, the same payments -/
theorem find_go (hF : FWs W a B) (hB6 : B ≤ 6) (hq : 20000 ≤ qa) : ∀ (f : Nat) (s t : XS9) (p : Nat → Nat) (i F i' : Nat), PY a p s → PYm a p B qa t → (∀ j, j < 6 → p j ≤ a j) → (∀ S, S < 64 → s 1041 S = nI (W S)) → (∀ S, S < 64 → t 9003 S = nI (W S)) → nsum (posO W a p) 64 ≤ f → f < F → ∃ p', (∀ j, j < 6 → p' j ≤ a j) ∧ PY a p' (vE (xitR stF f i s)) ∧ PYm a p' B qa (vE (xitR (p2_step qa B) F i' t)) ∧ (∀ q, q ≠ 1133 → vE (xitR stF f i s) q = s q) ∧ (∀ q, q ≠ qa → vE (xitR (p2_step qa B) F i' t) q = t q) ∧ ∀ S, S < 64 → oO W a p' S ≤ 0 := by
  intro f
  induction f with
  | zero =>
    intro s t p i F i' P Q hpa hWc hWm hc hFl
    obtain ⟨F', rfl⟩ : ∃ F', F = F' + 1 := ⟨F - 1, by omega⟩
    have np : ∀ S, S < 64 → oO W a p S ≤ 0 := fun S hS => by
      have := nsum_ge (d := posO W a p) hS
      by_cases c : 0 < oO W a p S
      · have e : posO W a p S = 1 := if_pos c
        omega
      · omega
    rcases strong_eq hF hB6 P Q hpa hWc hWm with ⟨h1, h2, h3⟩ | ⟨m, h1, h2, h3, h4, h5⟩
    · have eM : xitR (p2_step qa B) (F' + 1) i' t = .inr t := xitR_r (if_neg h3)
      rw [eM]
      exact ⟨p, hpa, P, Q, fun _ _ => rfl, fun _ _ => rfl, np⟩
    · have := np m (by have := pow_le6 hB6; omega)
      omega
  | succ f ih =>
    intro s t p i F i' P Q hpa hWc hWm hc hFl
    obtain ⟨F', rfl⟩ : ∃ F', F = F' + 1 := ⟨F - 1, by omega⟩
    rcases strong_eq hF hB6 P Q hpa hWc hWm with ⟨h1, h2, h3⟩ | ⟨m, h1, h2, h3, h4, h5⟩
    · have eC : xitR stF (f + 1) i s = .inr s := xitR_r (if_pos h1)
      have eM : xitR (p2_step qa B) (F' + 1) i' t = .inr t := xitR_r (if_neg h3)
      rw [eC, eM]
      exact ⟨p, hpa, P, Q, fun _ _ => rfl, fun _ _ => rfl, h2⟩
    · have p6 := pow_le6 hB6
      have m64 : m < 64 := by omega
      have ha3 : ∀ j, j < 6 → a j ≤ 300000 := fun j hj => (hF.2.1 j hj).1
      have so := sO_le (S := m) ha3 hpa
      have wm := (hF.1 m m64).1
      have sw : sOs a p m < W m := by unfold oO at h4; omega
      have oc : f_objection s m 2 = nI (W m - sOs a p m) := by rw [obj_cw (p := p) m64 (fun j hj => (P j hj).1) (fun j hj => (P j hj).2) (hWc m m64), nI_minus (by omega)]
      have om : f_Cobjection t m qa B = nI (W m - sOs a p m) := by rw [obj_m m64 hB6 Q hpa hF.2.2.2 (hWm m m64), nI_minus (by omega)]
      have eC : xitR stF (f + 1) i s = xitR stF f (i + 1) (g_raiseOutside s (nI m) (nI (W m - sOs a p m))) := xitR_l (by
        unfold stF
        rw [h2, if_neg (fun z => m1_ne (a := m) (by omega) z.symm), cn_nI (by omega), oc])
      have eM : xitR (p2_step qa B) (F' + 1) i' t = xitR (p2_step qa B) F' (i' + 1) (g_Craise t m (W m - sOs a p m) qa B) := xitR_l (by
        unfold p2_step
        rw [h3, if_pos h5, om, cn_nI (by omega)])
      obtain ⟨n1, a1, a2, a3⟩ := ro_sim (L := W m - sOs a p m) P m64 hpa ha3 (by omega)
      obtain ⟨n2, b1, b2, b3⟩ := raise_m (L := W m - sOs a p m) hq hB6 m64 (by omega) Q hF.2.2.2 ha3 hpa
      have eu := itS_uniq a1 b1
      have I : inS a m p (W m - sOs a p m) (itS a m n1 (p, W m - sOs a p m)) := inS.it n1 (inS.start hpa)
      rw [← eu] at b2
      generalize itS a m n1 (p, W m - sOs a p m) = u at a1 a2 b2 I
      obtain ⟨i1, i2, i3, i4⟩ := I
      have mono : ∀ S, oO W a u.1 S ≤ oO W a p S := fun S => by
        have : sOs a p S ≤ sOs a u.1 S := nsum_mo fun j hj => by
          unfold sOj
          split
          · exact Nat.le_refl _
          · exact i1 j
        unfold oO
        omega
      have done : oO W a u.1 m ≤ 0 := by
        rcases a1 with z | z
        · have e : sOs a u.1 m + nsum p 6 = sOs a p m + nsum u.1 6 := by
            unfold sOs
            rw [← nsum_plus, ← nsum_plus]
            refine nsum_cg fun j hj => ?_
            (try dsimp only)
            unfold sOj
            by_cases c : m.testBit j = true
            · rw [if_pos c, if_pos c, i3 j c]
            · rw [if_neg c, if_neg c]
              omega
          unfold oO
          omega
        · have e : sOs a u.1 m = nsum a 6 := nsum_cg fun j hj => by
            have zj := z j hj
            have uj := i2 j hj
            unfold rmS at zj
            unfold sOj
            by_cases c : m.testBit j = true
            · rw [if_pos c]
            · rw [if_neg c] at zj ⊢
              omega
          have w63 := (hF.1 m m64).2.1
          have h9 := hF.2.2.1
          unfold oO
          omega
      have cnt : nsum (posO W a u.1) 64 < nsum (posO W a p) 64 := nsum_lt (i := m) (fun S hS => by
        have := mono S
        unfold posO
        by_cases c : 0 < oO W a p S
        · rw [if_pos c]
          split <;> omega
        · rw [if_neg c, if_neg (by omega)]
          exact Nat.le_refl _) m64 (by
        unfold posO
        rw [if_pos h4, if_neg (by omega)]
        decide)
      obtain ⟨p', q1, q2, q3, q4, q5, q6⟩ := ih (g_raiseOutside s (nI m) (nI (W m - sOs a p m))) (g_Craise t m (W m - sOs a p m) qa B) u.1 (i + 1) F' (i' + 1) (fun j hj => ⟨by rw [a3 1131 (by decide)]; exact (P j hj).1, a2 j hj⟩) ⟨b2, fun j hj => ⟨by rw [cam_row (b3 9001 (by omega)) (b3 (5030 + j) (by omega))]; exact (Q.2 j hj).1, by rw [b3 9001 (by omega)]; exact (Q.2 j hj).2⟩⟩ i2 (fun S hS => by rw [a3 1041 (by decide)]; exact hWc S hS) (fun S hS => by rw [b3 9003 (by omega)]; exact hWm S hS) (by omega) (by omega)
      rw [eC, eM]
      exact ⟨p', q1, q2, q3, fun q hq9 => (q4 q hq9).trans (a3 q hq9), fun q hq9 => (q5 q hq9).trans (b3 q hq9), q6⟩
/-! where both begin -/
theorem am_row {s2 : XS9} {j : Nat} (e1 : s2 1040 = s 1040) (e2 : s2 (1031 + j) = s (1031 + j)) : f_amountWon s2 j = f_amountWon s j := by
  unfold f_amountWon
  rw [e1, e2]
theorem harm_row {s2 : XS9} {j : Nat} (e1 : s2 1040 = s 1040) (e2 : s2 (1031 + j) = s (1031 + j)) (e3 : s2 1041 = s 1041) : f_harmOf s2 j = f_harmOf s j := by
  unfold f_harmOf
  rw [e1, e3, am_row e1 e2]
def hm0 (W a : Nat → Nat) (row : Nat → Int32) (j : Nat) : Nat := if row j = -1 then 0 else W (bclr 63 j) - (W 63 - a j)
theorem find_2 (h : ∀ j, j < 6 → f_amountWon s j = nI (a j)) {h0 : Nat → Nat} (hh : ∀ j, j < 6 → f_harmOf s j = nI (h0 j)) : (∀ j, j < 6 → x_find_2 s s 1131 j = nI (a j) ∧ x_find_2 s s 1132 j = nI (h0 j) ∧ x_find_2 s s 1133 j = nI (h0 j)) ∧ ∀ q, q ≠ 1131 → q ≠ 1132 → q ≠ 1133 → x_find_2 s s q = s q := by
  have H := xit_ind (step := fun i2 (s2 : XS9) => u2 (u2 (u2 s2 (1131 + 0) i2 (f_amountWon s2 i2)) (1131 + 1) i2 (f_harmOf s2 i2)) (1131 + 2) i2 (f_harmOf s2 i2)) (fun k v => (∀ j, j < 6 → j < k → v 1131 j = nI (a j) ∧ v 1132 j = nI (h0 j) ∧ v 1133 j = nI (h0 j)) ∧ ∀ q, q ≠ 1131 → q ≠ 1132 → q ≠ 1133 → v q = s q) (N := 6) (fun k v hk hP => ?_) 6 0 s rfl ⟨fun j _ hj => absurd hj (by omega), fun _ _ _ _ => rfl⟩
  · exact ⟨fun j hj => H.1 j hj hj, H.2⟩
  · obtain ⟨v1, v2⟩ := hP
    (try dsimp only)
    rw [am_row (v2 1040 (by decide) (by decide) (by decide)) (v2 (1031 + k) (by omega) (by omega) (by omega)), harm_row (v2 1040 (by decide) (by decide) (by decide)) (v2 (1031 + k) (by omega) (by omega) (by omega)) (v2 1041 (by decide) (by decide) (by decide)), h k hk, hh k hk]
    show (∀ j, j < 6 → j < k + 1 → u2 (u2 (u2 v 1131 k (nI (a k))) 1132 k (nI (h0 k))) 1133 k (nI (h0 k)) 1131 j = nI (a j) ∧ u2 (u2 (u2 v 1131 k (nI (a k))) 1132 k (nI (h0 k))) 1133 k (nI (h0 k)) 1132 j = nI (h0 j) ∧ u2 (u2 (u2 v 1131 k (nI (a k))) 1132 k (nI (h0 k))) 1133 k (nI (h0 k)) 1133 j = nI (h0 j)) ∧ ∀ q, q ≠ 1131 → q ≠ 1132 → q ≠ 1133 → u2 (u2 (u2 v 1131 k (nI (a k))) 1132 k (nI (h0 k))) 1133 k (nI (h0 k)) q = s q
    refine ⟨fun j hj hl => ?_, fun q q1 q2 q3 => ?_⟩
    · by_cases e : j = k
      · subst e
        rw [u2_ne (show (1131 : Nat) ≠ 1133 by decide), u2_ne (show (1131 : Nat) ≠ 1132 by decide), u2_at, u2_ne (show (1132 : Nat) ≠ 1133 by decide), u2_at, u2_at]
        exact ⟨rfl, rfl, rfl⟩
      · rw [u2_ne (show (1131 : Nat) ≠ 1133 by decide), u2_ne (show (1131 : Nat) ≠ 1132 by decide), u2_oi e, u2_ne (show (1132 : Nat) ≠ 1133 by decide), u2_oi e, u2_ne (show (1132 : Nat) ≠ 1131 by decide), u2_oi e, u2_ne (show (1133 : Nat) ≠ 1132 by decide), u2_ne (show (1133 : Nat) ≠ 1131 by decide)]
        exact v1 j hj (by omega)
    · rw [u2_ne q3, u2_ne q2, u2_ne q1]
      exact v2 q q1 q2 q3
theorem bits63 {i : Nat} (hB6 : B ≤ 6) (hi : i < B) : (bclr 63 i) &&& (2 ^ B - 1) = bclr (2 ^ B - 1) i ∧ 63 &&& (2 ^ B - 1) = 2 ^ B - 1 ∧ bclr 63 i < 64 ∧ bclr (2 ^ B - 1) i < 64 ∧ 2 ^ B - 1 < 64 := by
  have : ∀ B, B < 7 → ∀ i, i < B → (bclr 63 i) &&& (2 ^ B - 1) = bclr (2 ^ B - 1) i ∧ 63 &&& (2 ^ B - 1) = 2 ^ B - 1 ∧ bclr 63 i < 64 ∧ bclr (2 ^ B - 1) i < 64 ∧ 2 ^ B - 1 < 64 := by decide +kernel
  exact this B (by omega) i hi
theorem harm_c (hF : FWs W a B) (hW : ∀ S, S < 64 → s 1041 S = nI (W S)) (ha : ∀ j, j < 6 → f_amountWon s j = nI (a j)) {j : Nat} (hj : j < 6) : f_harmOf s j = nI (hm0 W a (s 1040) j) := by
  have b := bclr_bits (S := 63) (k := j) (by decide) hj
  have e2 : bsub 63 j = bclr 63 j := (b.2.2 (by
    have : ∀ j, j < 6 → (63 : Nat).testBit j = true := by decide
    exact this j hj)).2
  obtain ⟨f1, f2, f3⟩ := hF.2.1 j hj
  unfold f_harmOf hm0
  by_cases c : s 1040 j = -1
  · rw [if_pos c, if_pos c]
    rfl
  · rw [if_neg c, if_neg c, e2, hW _ b.2.1, hW 63 (by decide), ha j hj, nI_minus f2, nI_minus (by omega)]
theorem harm_m (hF : FWs W a B) (hB6 : B ≤ 6) {v : XS9} (hW : ∀ S, S < 64 → v 9003 S = nI (W S)) {j : Nat} (hj : j < B) (ha : f_Camount v j = nI (a j)) : (f_Cworth v (bclr (2 ^ B - 1) j)) - ((f_Cworth v (2 ^ B - 1)) - (f_Camount v j)) = nI (W (bclr 63 j) - (W 63 - a j)) := by
  obtain ⟨b1, b2, b3, b4, b5⟩ := bits63 hB6 hj
  obtain ⟨f1, f2, f3⟩ := hF.2.1 j (by omega)
  have w1 := (hF.1 (bclr 63 j) b3).2.2
  have w2 := (hF.1 63 (by decide)).2.2
  rw [b1] at w1
  rw [b2] at w2
  unfold f_Cworth
  rw [hW _ b4, hW _ b5, ha, w1, w2, nI_minus f2, nI_minus (by omega)]
theorem hm0_le (hF : FWs W a B) {row : Nat → Int32} {j : Nat} (hj : j < 6) (hn : row j = -1 → a j = 0) : hm0 W a row j ≤ a j := by
  have b := bclr_bits (S := 63) (k := j) (by decide) hj
  obtain ⟨f1, f2, f3⟩ := hF.2.1 j hj
  have := (hF.1 (bclr 63 j) b.2.1).2.1
  unfold hm0
  split <;> omega
/-- the reference's payments by the other ways, and where the third begins -/
theorem pay_1 (hF : FWs W a B) (hB6 : B ≤ 6) (hq : 20000 ≤ qa) (hW : ∀ S, S < 64 → t 9003 S = nI (W S)) (ha : ∀ j, j < B → f_Camount t j = nI (a j)) (hn : ∀ j, j < 6 → t 9001 j = -1 → a j = 0) (f : XS9 → Nat → Int32) (v0 : Nat → Nat) (hv : ∀ v : XS9, (∀ q, q ≠ qa → v q = t q) → ∀ j, j < B → t 9001 j ≠ -1 → f v j = nI (v0 j)) (hz : ∀ j, j < 6 → (t 9001 j = -1 ∨ B ≤ j) → v0 j = 0) : (∀ j, j < 6 → xit (fun i7 (s7 : XS9) => (if (t 9001 i7) = (-1) then s7 else u2 s7 qa i7 (f s7 i7))) B 0 (uR t qa (rowN 6)) qa j = nI (v0 j)) ∧ ∀ q, q ≠ qa → xit (fun i7 (s7 : XS9) => (if (t 9001 i7) = (-1) then s7 else u2 s7 qa i7 (f s7 i7))) B 0 (uR t qa (rowN 6)) q = t q := by
  have H := xit_ind (step := fun i7 (s7 : XS9) => (if (t 9001 i7) = (-1) then s7 else u2 s7 qa i7 (f s7 i7))) (fun k v => (∀ j, j < 6 → v qa j = nI (if j < k then v0 j else 0)) ∧ ∀ q, q ≠ qa → v q = t q) (N := B) (fun k v hk hP => ?_) B 0 (uR t qa (rowN 6)) (Nat.zero_add _) ⟨fun j hj => ?_, fun q hq9 => uR_ne hq9⟩
  · refine ⟨fun j hj => ?_, H.2⟩
    refine (H.1 j hj).trans ?_
    by_cases c : j < B
    · rw [if_pos c]
    · rw [if_neg c, hz j hj (.inr (by omega))]
  · obtain ⟨v1, v2⟩ := hP
    (try dsimp only)
    by_cases c : t 9001 k = -1
    · rw [if_pos c]
      refine ⟨fun j hj => ?_, v2⟩
      rw [v1 j hj]
      congr 1
      by_cases e : j = k
      · rw [if_neg (by omega), if_pos (by omega), e, hz k (by omega) (.inl c)]
      · by_cases l : j < k
        · rw [if_pos l, if_pos (by omega)]
        · rw [if_neg l, if_neg (by omega)]
    · rw [if_neg c, hv v v2 k hk c]
      refine ⟨fun j hj => ?_, fun q hq9 => by rw [u2_ne hq9]; exact v2 q hq9⟩
      by_cases e : j = k
      · rw [e, u2_at, if_pos (by omega)]
      · rw [u2_oi e, v1 j hj]
        congr 1
        by_cases l : j < k
        · rw [if_pos l, if_pos (by omega)]
        · rw [if_neg l, if_neg (by omega)]
  · rw [uR_eq, if_neg (by omega)]
    unfold rowN
    rw [if_neg (by omega), if_neg (by omega)]
    rfl
theorem pay_all (hF : FWs W a B) (hB6 : B ≤ 6) (hq : 20000 ≤ qa) (hw : ∀ j, j < 6 → σ 1040 j = t 9001 j) (hn : ∀ j, j < 6 → t 9001 j = -1 → a j = 0) (hnB : ∀ j, B ≤ j → j < 6 → t 9001 j = -1) (hac : ∀ j, j < 6 → f_amountWon σ j = nI (a j)) (ham : ∀ j, j < B → f_Camount t j = nI (a j)) (hWc : ∀ S, S < 64 → σ 1041 S = nI (W S)) (hWm : ∀ S, S < 64 → t 9003 S = nI (W S)) : ∃ p1 p2 : Nat → Nat, (∀ j, j < 6 → (g_find σ 1131 j = nI (a j) ∧ g_find σ 1132 j = nI (p1 j) ∧ g_find σ 1133 j = nI (p2 j)) ∧ p1 j ≤ a j ∧ p2 j ≤ a j) ∧ ∀ j, j < 6 → g_Cpay t 0 qa B qa j = nI (a j) ∧ g_Cpay t 1 qa B qa j = nI (p1 j) ∧ g_Cpay t 2 qa B qa j = nI (p2 j) := by
  have hh : ∀ j, j < 6 → f_harmOf σ j = nI (hm0 W a (t 9001) j) := fun j hj => by
    rw [harm_c hF hWc hac hj]
    unfold hm0
    rw [hw j hj]
  obtain ⟨c1, c2⟩ := find_2 hac hh
  have hle : ∀ j, j < 6 → hm0 W a (t 9001) j ≤ a j := fun j hj => hm0_le hF hj (hn j hj)
  have m20 : (∀ j, j < 6 → g_Cpay20 t qa B qa j = nI (hm0 W a (t 9001) j)) ∧ ∀ q, q ≠ qa → g_Cpay20 t qa B q = t q :=
    pay_1 hF hB6 hq hWm ham hn (fun v i => (f_Cworth v (bclr (2 ^ B - 1) i)) - ((f_Cworth v (2 ^ B - 1)) - (f_Camount v i))) (hm0 W a (t 9001)) (fun v hv j hj hne => by
      have e1 : f_Camount v j = nI (a j) := by rw [cam_row (hv 9001 (by omega)) (hv (5030 + j) (by omega))]; exact ham j hj
      rw [show hm0 W a (t 9001) j = W (bclr 63 j) - (W 63 - a j) from if_neg hne]
      exact harm_m hF hB6 (fun S hS => by rw [hv 9003 (by omega)]; exact hWm S hS) hj e1) (fun j hj hz => if_pos (hz.elim id (fun l => hnB j l hj)))
  have m1 : ∀ j, j < 6 → g_Cpay1 t 1 qa B qa j = nI (hm0 W a (t 9001) j) := fun j hj => by
    have e : g_Cpay1 t 1 qa B = g_Cpay20 t qa B := by
      unfold g_Cpay1 g_Cpay20 x_Cpay1_7 x_Cpay2_7
      refine xit_cg (N := B) (fun i s hi => ?_) B 0 _ (Nat.zero_add _)
      (try dsimp only)
      rw [if_neg (show ¬ nI 1 = 0 by decide)]
    rw [e]
    exact m20.1 j hj
  have m0 : ∀ j, j < 6 → g_Cpay1 t 0 qa B qa j = nI (a j) := fun j hj => by
    have e : g_Cpay1 t 0 qa B = xit (fun i7 (s7 : XS9) => (if (t 9001 i7) = (-1) then s7 else u2 s7 qa i7 ((fun v i => f_Camount v i) s7 i7))) B 0 (uR t qa (rowN 6)) := by
      unfold g_Cpay1 x_Cpay1_7
      refine xit_cg (N := B) (fun i s hi => ?_) B 0 _ (Nat.zero_add _)
      (try dsimp only)
      rw [if_pos (show nI 0 = 0 by decide)]
    rw [e]
    exact (pay_1 hF hB6 hq hWm ham hn (fun v i => f_Camount v i) a (fun v hv j hj hne => by
      show f_Camount v j = nI (a j)
      rw [cam_row (hv 9001 (by omega)) (hv (5030 + j) (by omega))]
      exact ham j hj) (fun j hj hz => hn j hj (hz.elim id (fun l => hnB j l hj)))).1 j hj
  have P0 : PY a (hm0 W a (t 9001)) (x_find_2 σ σ) := fun j hj => ⟨(c1 j hj).1, (c1 j hj).2.2⟩
  have Q0 : PYm a (hm0 W a (t 9001)) B qa (g_Cpay20 t qa B) := ⟨m20.1, fun j hj => ⟨by rw [cam_row (m20.2 9001 (by omega)) (m20.2 (5030 + j) (by omega))]; exact ham j hj, by rw [m20.2 9001 (by omega)]; exact hn j (by omega)⟩⟩
  have c64 : nsum (posO W a (hm0 W a (t 9001))) 64 ≤ 64 := nsum_le (k := 1) fun i _ => by
    unfold posO
    split <;> decide
  obtain ⟨p2, r1, r2, r3, r4, r5, r6⟩ := find_go hF hB6 hq 64 (x_find_2 σ σ) (g_Cpay20 t qa B) (hm0 W a (t 9001)) 0 20000000 0 P0 Q0 hle (fun S hS => by rw [c2 1041 (by decide) (by decide) (by decide)]; exact hWc S hS) (fun S hS => by rw [m20.2 9003 (by omega)]; exact hWm S hS) c64 (by decide)
  have ef : g_find σ = vE (xitR stF 64 0 (x_find_2 σ σ)) := by
    have e1 : g_find σ = vE (x_find_53 σ (x_find_2 σ σ)) := by
      unfold g_find
      generalize x_find_53 σ (x_find_2 σ σ) = w9
      cases w9 <;> rfl
    rw [e1]
    refine congrArg vE ?_
    unfold x_find_53
    exact xitR_cg (N := 64) (fun i s _ => rfl) 64 0 _ rfl
  have em : g_Cpay2 t qa B = vE (xitR (p2_step qa B) 20000000 0 (g_Cpay20 t qa B)) := by
    unfold g_Cpay2
    generalize xitR (p2_step qa B) 20000000 0 (g_Cpay20 t qa B) = w9
    cases w9 <;> rfl
  refine ⟨hm0 W a (t 9001), p2, fun j hj => ⟨⟨?_, ?_, ?_⟩, hle j hj, r1 j hj⟩, fun j hj => ⟨?_, ?_, ?_⟩⟩
  · rw [ef]
    exact (r2 j hj).1
  · rw [ef, r4 1132 (by decide)]
    exact (c1 j hj).2.1
  · rw [ef]
    exact (r2 j hj).2
  · unfold g_Cpay
    rw [if_neg (by decide)]
    exact m0 j hj
  · unfold g_Cpay
    rw [if_neg (by decide)]
    exact m1 j hj
  · unfold g_Cpay
    rw [if_pos rfl, em]
    exact r3.1 j hj
/-- worths and amounts, from the winners -/
theorem FWs.of {A : Nat → Nat → Nat} {X : (Nat → Nat) → Prop} {row : Nat → Int32} {c : Nat → Nat} (hB6 : B ≤ 6) (hc : X c) (hbest : ∀ d, X d → btr A c d) (hw : WW A X row) (hX : ∀ d, X d → (∀ j, B ≤ j → j < 6 → d j = 0) ∧ (∀ j, j < 6 → cAd A d j ≤ 300000) ∧ ∀ i, i < 6 → X (cUp d i 0)) : FWs (fun S => cn (row S)) (cAd A c) B ∧ ∀ S, S < 64 → row S = nI (cn (row S)) := by
  obtain ⟨b, hb, hr⟩ := hw
  have val : ∀ S, S < 64 → row S = nI (cn (row S)) ∧ cn (row S) ≤ 1800000 ∧ IsW b S (cn (row S)) := fun S hS => by
    obtain ⟨w, w1, w2, w3⟩ := hr S hS
    have e : cn (row S) = w := by rw [w1, cn_nI (by omega)]
    rw [e]
    exact ⟨w1, w2, w3⟩
  have b63 : ∀ j, j < 6 → (63 : Nat).testBit j = true := by decide
  have am : ∀ T, T < 64 → b T ≤ cAm A c := fun T hT => by
    rcases (hb T hT).2 with z | ⟨d, d1, d2, d3⟩
    · omega
    · rw [← d3]
      exact (hbest d d1).le
  have w63 : cn (row 63) = cAm A c := by
    obtain ⟨v1, v2, v3, T, t1, t2, t3⟩ := val 63 (by decide)
    have l1 := am T t1
    have l2 := v3 (cSp c) cSp_lt (fun j hj _ => b63 j hj)
    have l3 := (hb (cSp c) cSp_lt).1 c hc rfl
    omega
  refine ⟨⟨fun S hS => ⟨(val S hS).2.1, ?_, ?_⟩, fun j hj => ⟨(hX c hc).2.1 j hj, ?_, ?_⟩, w63, fun j h1 h2 => ?_⟩, fun S hS => (val S hS).1⟩
  · obtain ⟨_, _, _, T, t1, t2, t3⟩ := val S hS
    have := (val 63 (by decide)).2.2.1 T t1 (fun j hj _ => b63 j hj)
    show cn (row S) ≤ cn (row 63)
    omega
  · obtain ⟨l1, l2, l3, _⟩ := and_lo (B := B) hS hB6
    obtain ⟨_, _, v3, T, t1, t2, t3⟩ := val S hS
    obtain ⟨_, _, v4, T2, t4, t5, t6⟩ := val (S &&& (2 ^ B - 1)) (by omega)
    show cn (row (S &&& (2 ^ B - 1))) = cn (row S)
    have k1 : cn (row (S &&& (2 ^ B - 1))) ≤ cn (row S) := by
      rw [← t6]
      refine v3 T2 t4 fun j hj ht => ?_
      have := t5 j hj ht
      rw [l3 j hj] at this
      exact (Bool.and_eq_true_iff.mp this).1
    have k2 : cn (row S) ≤ cn (row (S &&& (2 ^ B - 1))) := by
      rw [← t3]
      rcases (hb T t1).2 with z | ⟨d, d1, d2, d3⟩
      · omega
      · refine v4 T t1 fun j hj ht => ?_
        rw [l3 j hj, t2 j hj ht, Bool.true_and]
        refine decide_eq_true (Classical.byContradiction fun n => ?_)
        rw [← d2, cSp_bit hj, (hX d d1).1 j (by omega) hj] at ht
        simp at ht
    omega
  · show _ ≤ cn (row 63)
    rw [w63]
    exact nsum_ge hj
  · show cn (row 63) ≤ cn (row (bclr 63 j)) + _
    obtain ⟨b1, b2, _⟩ := bclr_bits (S := 63) (k := j) (by decide) hj
    have xd := (hX c hc).2.2 j hj
    have l2 := (val (bclr 63 j) b2).2.2.1 (cSp (cUp c j 0)) cSp_lt (fun i hi ht => by
      rw [b1 i hi, b63 i hi, Bool.true_and]
      refine decide_eq_true fun e => ?_
      rw [cSp_bit hi, e, cUp_at] at ht
      simp at ht)
    have l3 := (hb (cSp (cUp c j 0)) cSp_lt).1 _ xd rfl
    have l4 := nsum_set (d := cAd A c) (d2 := cAd A (cUp c j 0)) hj (fun i _ e => by
      unfold cAd
      rw [cUp_ne e])
    rw [show cAd A (cUp c j 0) j = 0 from if_pos cUp_at] at l4
    rw [w63]
    have l4 : cAm A (cUp c j 0) + cAd A c j = cAm A c + 0 := l4
    omega
  · unfold cAd
    rw [if_pos ((hX c hc).1 j h1 h2)]
end
