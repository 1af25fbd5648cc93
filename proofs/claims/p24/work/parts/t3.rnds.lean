/-! ===== the regions of a round, alike on both sides ===== -/
def rz (x p : Int32) : Int32 := (if (p + (if 1 < ((p * x) / 100) then ((p * x) / 100) else 1)) < 9999 then (p + (if 1 < ((p * x) / 100) then ((p * x) / 100) else 1)) else 9999)
def mvM (σ : XS9) (b R B g w n i : Nat) (s : XS9) : XS9 := x_Kclose_259 σ b R B g w n i (x_Kclose_181 σ b R B g w n i s)
def st169 (σ : XS9) (x : Int32) (b R B g w n i : Nat) (p : XS9 × Int32) : XS9 × Int32 := (if (σ (5010 + i) 0) < (f_KheldIn (mvM σ b R B g w n i p.1) b i B g) then (u2 (mvM σ b R B g w n i p.1) (b + 1) i (rz x (p.1 (b + 1) i)), 1) else (mvM σ b R B g w n i p.1, p.2))
def st5 (b : Nat) (x : Int32) (i : Nat) (p : XS9 × Int32) : XS9 × Int32 := (if (f_together 6 (p.1 (b + 2)) i) ≤ (p.1 1010 i) then (p.1, p.2) else (u2 p.1 (b + 1) i (rz x (p.1 (b + 1) i)), 1))
section
variable {σ : XS9} {x : Int32} {b b' R B g w n : Nat} {q : Nat → Nat} {W : Nat → Int32}
theorem KP.sum {s s2 : XS9} {r k : Nat} (h : KP b' r B s s2) (hk : k < 5) (hn : k ≠ r) : hsum s2 (b' + 2) k B = hsum s (b' + 2) k B := nsum_cg fun j hj => h j hj k hk hn
theorem mvM_row {s : XS9} {i a : Nat} (h : a ≠ b + 2) : mvM σ b R B g w n i s a = s a := by
  unfold mvM
  rw [fx_Kclose_259 h, fx_Kclose_181 h]
/-- after the first i regions -/
def RI (b b' B : Nat) (x : Int32) (q : Nat → Nat) (W : Nat → Int32) (s0 k0 : XS9) (i : Nat) (s : XS9) (p : XS9 × Int32) : Prop := (HE b b' B s p.1) ∧ (∀ j, B ≤ j → j < 6 → s (b + 2) j = 0) ∧ (∀ a, a ≠ b + 2 → s a = s0 a) ∧ (∀ a, a ≠ b' + 2 → a ≠ b' + 1 → p.1 a = k0 a) ∧ (∀ r, r < i → p.1 (b' + 1) r = if q r < hsum p.1 (b' + 2) r B then rz x (k0 (b' + 1) r) else k0 (b' + 1) r) ∧ (∀ r, i ≤ r → p.1 (b' + 1) r = k0 (b' + 1) r) ∧ (p.2 = 0 ↔ ∀ r, r < i → hsum p.1 (b' + 2) r B ≤ q r)
theorem RI.he {b b' B : Nat} {x : Int32} {q : Nat → Nat} {W : Nat → Int32} {s0 k0 : XS9} {i : Nat} {s : XS9} {p : XS9 × Int32} (h : RI b b' B x q W s0 k0 i s p) : HE b b' B s p.1 := h.1
theorem RI.z {b b' B : Nat} {x : Int32} {q : Nat → Nat} {W : Nat → Int32} {s0 k0 : XS9} {i : Nat} {s : XS9} {p : XS9 × Int32} (h : RI b b' B x q W s0 k0 i s p) : ∀ j, B ≤ j → j < 6 → s (b + 2) j = 0 := h.2.1
theorem RI.rows {b b' B : Nat} {x : Int32} {q : Nat → Nat} {W : Nat → Int32} {s0 k0 : XS9} {i : Nat} {s : XS9} {p : XS9 × Int32} (h : RI b b' B x q W s0 k0 i s p) : ∀ a, a ≠ b + 2 → s a = s0 a := h.2.2.1
theorem RI.rowsM {b b' B : Nat} {x : Int32} {q : Nat → Nat} {W : Nat → Int32} {s0 k0 : XS9} {i : Nat} {s : XS9} {p : XS9 × Int32} (h : RI b b' B x q W s0 k0 i s p) : ∀ a, a ≠ b' + 2 → a ≠ b' + 1 → p.1 a = k0 a := h.2.2.2.1
theorem RI.pr {b b' B : Nat} {x : Int32} {q : Nat → Nat} {W : Nat → Int32} {s0 k0 : XS9} {i : Nat} {s : XS9} {p : XS9 × Int32} (h : RI b b' B x q W s0 k0 i s p) : ∀ r, r < i → p.1 (b' + 1) r = if q r < hsum p.1 (b' + 2) r B then rz x (k0 (b' + 1) r) else k0 (b' + 1) r := h.2.2.2.2.1
theorem RI.pz {b b' B : Nat} {x : Int32} {q : Nat → Nat} {W : Nat → Int32} {s0 k0 : XS9} {i : Nat} {s : XS9} {p : XS9 × Int32} (h : RI b b' B x q W s0 k0 i s p) : ∀ r, i ≤ r → p.1 (b' + 1) r = k0 (b' + 1) r := h.2.2.2.2.2.1
theorem RI.fl {b b' B : Nat} {x : Int32} {q : Nat → Nat} {W : Nat → Int32} {s0 k0 : XS9} {i : Nat} {s : XS9} {p : XS9 × Int32} (h : RI b b' B x q W s0 k0 i s p) : p.2 = 0 ↔ ∀ r, r < i → hsum p.1 (b' + 2) r B ≤ q r := h.2.2.2.2.2.2
theorem rounds (hR5 : R ≤ 5) (hB6 : B ≤ 6) (hb : 2000 ≤ b) (hq : ∀ r, r < R → σ (5010 + r) 0 = nI (q r) ∧ q r ≤ 5) (hW : WE σ b' R B g w n W) {s0 k0 : XS9} (hqc : ∀ r, r < R → s0 1010 r = nI (q r)) (e3 : s0 (b + 3) = W) (hE : HE b b' B s0 k0) (hz : ∀ j, B ≤ j → j < 6 → s0 (b + 2) j = 0) : ∀ i, i ≤ R → RI b b' B x q W s0 k0 i (xit (fun i s => g_moveHeld s b i B) i 0 s0) (xit (st169 σ x b' R B g w n) i 0 (k0, 0)) := by
  intro i
  induction i with
  | zero =>
    intro _
    exact ⟨hE, hz, fun _ _ => rfl, fun _ _ _ => rfl, fun r hr => absurd hr (by omega), fun _ _ => rfl, ⟨fun _ r hr => absurd hr (by omega), fun _ => rfl⟩⟩
  | succ i ih =>
    intro hi
    have I := ih (by omega)
    rw [xit_last, xit_last]
    generalize xit (fun i s => g_moveHeld s b i B) i 0 s0 = s at I ⊢
    generalize xit (st169 σ x b' R B g w n) i 0 (k0, 0) = p at I ⊢
    have hr : i < 5 := by omega
    obtain ⟨q1, q2⟩ := hq i (by omega)
    have M := move_sim (b := b) (s := s) (s' := p.1) hr hB6 q1 (by rw [I.rows _ (by omega)]; exact hqc i (by omega)) hb q2 hW (by rw [I.rows _ (by omega)]; exact e3) I.he I.z
    obtain ⟨m1, m2, m3⟩ := M
    have m1 : HE b b' B (g_moveHeld s b i B) (mvM σ b' R B g w n i p.1) := m1
    have m2 : KP b' i B p.1 (mvM σ b' R B g w n i p.1) := m2
    have mb : ∀ j, j < B → bd 7775 (mvM σ b' R B g w n i p.1 (b' + 2) j) := fun j hj => (m1 j hj).2
    have hS := hsum_30 (s := mvM σ b' R B g w n i p.1) (a := b' + 2) (r := i) hB6
    have cz : ∀ j, B ≤ j → j < 6 → g_moveHeld s b i B (b + 2) j = 0 := fun j h1 h2 => by
      rw [m3 j h1]
      exact I.z j h1 h2
    have cr : ∀ a, a ≠ b + 2 → g_moveHeld s b i B a = s0 a := fun a ha => by
      rw [fr_moveHeld ha]
      exact I.rows a ha
    have es : ∀ r, r < i → hsum (mvM σ b' R B g w n i p.1) (b' + 2) r B = hsum p.1 (b' + 2) r B := fun r h => m2.sum (by omega) (by omega)
    have ec : st169 σ x b' R B g w n i p = if q i < hsum (mvM σ b' R B g w n i p.1) (b' + 2) i B then (u2 (mvM σ b' R B g w n i p.1) (b' + 1) i (rz x (p.1 (b' + 1) i)), 1) else (mvM σ b' R B g w n i p.1, p.2) := by
      unfold st169
      rw [held_n hr mb, q1]
      by_cases c : q i < hsum (mvM σ b' R B g w n i p.1) (b' + 2) i B
      · rw [if_pos ((nlt (by omega) (by omega)).mpr c), if_pos c]
      · rw [if_neg (fun y => c ((nlt (by omega) (by omega)).mp y)), if_neg c]
    rw [ec]
    by_cases c : q i < hsum (mvM σ b' R B g w n i p.1) (b' + 2) i B
    · rw [if_pos c]
      have u : ∀ y, u2 (mvM σ b' R B g w n i p.1) (b' + 1) i y (b' + 2) = mvM σ b' R B g w n i p.1 (b' + 2) := fun y => u2_ne (by omega)
      have su : ∀ y r, hsum (u2 (mvM σ b' R B g w n i p.1) (b' + 1) i y) (b' + 2) r B = hsum (mvM σ b' R B g w n i p.1) (b' + 2) r B := fun y r => nsum_cg fun j hj => by rw [u]
      refine ⟨fun j hj => ?_, cz, cr, fun a h1 h2 => ?_, fun r hr2 => ?_, fun r hr2 => ?_, ⟨fun e => ?_, fun e => ?_⟩⟩
      · show _ = u2 _ _ _ _ (b' + 2) j ∧ bd 7775 (u2 _ _ _ _ (b' + 2) j)
        rw [u]
        exact m1 j hj
      · show u2 _ _ _ _ a = k0 a
        rw [u2_ne h2, mvM_row h1]
        exact I.rowsM a h1 h2
      · show u2 _ _ _ _ (b' + 1) r = if q r < hsum (u2 _ _ _ _) (b' + 2) r B then _ else _
        rw [su]
        by_cases e : r = i
        · rw [e, u2_at, if_pos c, I.pz i (Nat.le_refl _)]
        · rw [u2_oi e, mvM_row (by omega), es r (by omega)]
          exact I.pr r (by omega)
      · show u2 _ _ _ _ (b' + 1) r = _
        rw [u2_oi (by omega), mvM_row (by omega)]
        exact I.pz r (by omega)
      · exact absurd (show (1 : Int32) = 0 from e) (by decide)
      · have this : hsum (u2 (mvM σ b' R B g w n i p.1) (b' + 1) i (rz x (p.1 (b' + 1) i))) (b' + 2) i B ≤ q i := e i (by omega)
        rw [su] at this
        omega
    · rw [if_neg c]
      refine ⟨m1, cz, cr, fun a h1 h2 => ?_, fun r hr2 => ?_, fun r hr2 => ?_, ⟨fun e r hr2 => ?_, fun e => ?_⟩⟩
      · show mvM _ _ _ _ _ _ _ _ _ a = k0 a
        rw [mvM_row h1]
        exact I.rowsM a h1 h2
      · show mvM _ _ _ _ _ _ _ _ _ (b' + 1) r = _
        rw [mvM_row (by omega)]
        by_cases e : r = i
        · rw [e]
          show p.1 (b' + 1) i = if q i < hsum (mvM σ b' R B g w n i p.1) (b' + 2) i B then _ else _
          rw [if_neg c]
          exact I.pz i (Nat.le_refl _)
        · show _ = if q r < hsum (mvM σ b' R B g w n i p.1) (b' + 2) r B then _ else _
          rw [es r (by omega)]
          exact I.pr r (by omega)
      · show mvM _ _ _ _ _ _ _ _ _ (b' + 1) r = _
        rw [mvM_row (by omega)]
        exact I.pz r (by omega)
      · show hsum (mvM σ b' R B g w n i p.1) (b' + 2) r B ≤ q r
        by_cases e2 : r = i
        · rw [e2]
          omega
        · rw [es r (by omega)]
          exact I.fl.mp e r (by omega)
      · refine I.fl.mpr fun r hr2 => ?_
        have := e r (by omega)
        have this : hsum (mvM σ b' R B g w n i p.1) (b' + 2) r B ≤ q r := this
        rw [es r hr2] at this
        exact this
/-- the class's prices -/
def RJ (b : Nat) (x : Int32) (c : Nat → Prop) (s : XS9) (i : Nat) (p : XS9 × Int32) : Prop := (∀ a, a ≠ b + 1 → p.1 a = s a) ∧ (∀ r, r < i → (c r → p.1 (b + 1) r = rz x (s (b + 1) r)) ∧ (¬ c r → p.1 (b + 1) r = s (b + 1) r)) ∧ (∀ r, i ≤ r → p.1 (b + 1) r = s (b + 1) r) ∧ (p.2 = 0 ↔ ∀ r, r < i → ¬ c r)
theorem RJ.rows {b : Nat} {x : Int32} {c : Nat → Prop} {s : XS9} {i : Nat} {p : XS9 × Int32} (h : RJ b x c s i p) : ∀ a, a ≠ b + 1 → p.1 a = s a := h.1
theorem RJ.pr {b : Nat} {x : Int32} {c : Nat → Prop} {s : XS9} {i : Nat} {p : XS9 × Int32} (h : RJ b x c s i p) : ∀ r, r < i → (c r → p.1 (b + 1) r = rz x (s (b + 1) r)) ∧ (¬ c r → p.1 (b + 1) r = s (b + 1) r) := h.2.1
theorem RJ.pz {b : Nat} {x : Int32} {c : Nat → Prop} {s : XS9} {i : Nat} {p : XS9 × Int32} (h : RJ b x c s i p) : ∀ r, i ≤ r → p.1 (b + 1) r = s (b + 1) r := h.2.2.1
theorem RJ.fl {b : Nat} {x : Int32} {c : Nat → Prop} {s : XS9} {i : Nat} {p : XS9 × Int32} (h : RJ b x c s i p) : p.2 = 0 ↔ ∀ r, r < i → ¬ c r := h.2.2.2
theorem raised (hb : 2000 ≤ b) {c : Nat → Prop} {s : XS9} (hc : ∀ r, r < R → (f_together 6 (s (b + 2)) r ≤ s 1010 r ↔ ¬ c r)) : ∀ i, i ≤ R → RJ b x c s i (xit (st5 b x) i 0 (s, 0)) := by
  intro i
  induction i with
  | zero =>
    intro _
    exact ⟨fun _ _ => rfl, fun r hr => absurd hr (by omega), fun _ _ => rfl, ⟨fun _ r hr => absurd hr (by omega), fun _ => rfl⟩⟩
  | succ i ih =>
    intro hi
    have I := ih (by omega)
    rw [xit_last]
    generalize xit (st5 b x) i 0 (s, 0) = p at I ⊢
    have ec : (f_together 6 (p.1 (b + 2)) i ≤ p.1 1010 i) ↔ ¬ c i := by
      rw [I.rows _ (by omega), I.rows _ (by omega)]
      exact hc i (by omega)
    unfold st5
    by_cases k : c i
    · rw [if_neg (fun y => ec.mp y k)]
      refine ⟨fun a ha => ?_, fun r hr => ?_, fun r hr => ?_, ⟨fun e => ?_, fun e => absurd k (e i (by omega))⟩⟩
      · show u2 _ _ _ _ a = s a
        rw [u2_ne ha]
        exact I.rows a ha
      · show (c r → u2 _ _ _ _ (b + 1) r = _) ∧ (¬ c r → u2 _ _ _ _ (b + 1) r = _)
        by_cases e : r = i
        · rw [e, u2_at, I.pz i (Nat.le_refl _)]
          exact ⟨fun _ => rfl, fun y => absurd k y⟩
        · rw [u2_oi e]
          exact I.pr r (by omega)
      · show u2 _ _ _ _ (b + 1) r = _
        rw [u2_oi (by omega)]
        exact I.pz r (by omega)
      · exact absurd (show (1 : Int32) = 0 from e) (by decide)
    · rw [if_pos (ec.mpr k)]
      refine ⟨I.rows, fun r hr => ?_, fun r hr => I.pz r (by omega), ⟨fun e r hr => ?_, fun e => I.fl.mpr fun r hr => e r (by omega)⟩⟩
      · by_cases e : r = i
        · rw [e]
          exact ⟨fun y => absurd y k, fun _ => I.pz i (Nat.le_refl _)⟩
        · exact I.pr r (by omega)
      · by_cases e2 : r = i
        · rw [e2]
          exact k
        · exact I.fl.mp e r (by omega)
end
