/-! ===== a round's close, alike on both sides ===== -/
def stU (b K i : Nat) (s : XS9) : XS9 := (if (f_contradictedRound s b i K) = (-1) then s else u2 (u2 s (b + 6) i ((s (b + 6) i) + 1)) (b + 3) i (s (b + 2) i))
def stL (b i : Nat) (s : XS9) : XS9 := (if (8 * (s (b + 4) i)) ≤ (10 * (f_total (s (b + 3) i) 5 (s 1011))) then s else (if (f_hasWaived s b i) = 0 then u2 s (b + 4) i ((10 * (f_total (s (b + 3) i) 5 (s 1011))) / 8) else s))
def stM2 (σ : XS9) (b R g n i : Nat) (s : XS9) : XS9 := (if (σ 5000 3) = 0 then s else (if (f_Kcontradicts s b i R g n) = (-1) then s else u2 (u2 s (b + 500 + g) i (σ (b + 2) i)) (b + 5) i ((s (b + 5) i) + 1)))
def stM65 (σ : XS9) (b R w : Nat) (W : Nat → Int32) (i : Nat) (s : XS9) : XS9 := (if (σ (b + 700 + w) i) = 0 then (if (8 * (s (b + 3) i)) ≤ (10 * (f_Mpoints s (W i) R)) then s else u2 s (b + 3) i ((10 * (f_Mpoints s (W i) R)) / 8)) else s)
theorem xitR_cg {S Q : Type} {f g : Nat → S → S ⊕ Q} {N : Nat} (h : ∀ i s, i < N → f i s = g i s) : ∀ (k i : Nat) (s : S), i + k = N → xitR f k i s = xitR g k i s
  | 0, _, _, _ => rfl
  | k + 1, i, s, e => by
    show (match f i s with | .inl s' => xitR f k (i + 1) s' | .inr r => .inr r) = (match g i s with | .inl s' => xitR g k (i + 1) s' | .inr r => .inr r)
    rw [h i s (by omega)]
    split
    · exact xitR_cg h k (i + 1) _ (by omega)
    · rfl
/-- the clock's state, alike -/
def KQ (b b' R B g w n : Nat) (s s' : XS9) : Prop := (s b 9 = nI n) ∧ (∀ r, r < R → s (b + 1) r = s' (b' + 1) r) ∧ (∀ r, R ≤ r → r < 5 → s (b + 1) r = 0) ∧ (HE b b' B s s') ∧ (∀ j, B ≤ j → j < 6 → s (b + 2) j = 0) ∧ (∀ j, j < B → s (b + 3) j = s' (b' + 500 + g) j ∧ bd 7775 (s' (b' + 500 + g) j)) ∧ (∀ j, B ≤ j → j < 6 → s (b + 3) j = 0) ∧ (∀ j, j < B → s (b + 4) j = s' (b' + 3) j) ∧ (∀ j, j < B → s (b + 5) j = s' (b' + 4) j ∧ bd 2 (s' (b' + 4) j)) ∧ (∀ j, j < B → s (b + 6) j = s' (b' + 5) j) ∧ (∀ j, j < B → (f_hasWaived s b j = 0 ↔ s' (b' + 700 + w) j = 0)) ∧ (∀ k, k < n → (∀ r, r < R → s (b + 101 + k) r = s' (b' + 100 + k) r) ∧ ∀ r, R ≤ r → r < 5 → s (b + 101 + k) r = 0) ∧ (∀ k, k < n → ∀ j, j < B → s (b + 301 + k) j = s' (b' + 200 + k) j ∧ bd 7775 (s' (b' + 200 + k) j))
theorem KQ.c {b b' R B g w n : Nat} {s s' : XS9} (h : KQ b b' R B g w n s s') : s b 9 = nI n := h.1
theorem KQ.p {b b' R B g w n : Nat} {s s' : XS9} (h : KQ b b' R B g w n s s') : ∀ r, r < R → s (b + 1) r = s' (b' + 1) r := h.2.1
theorem KQ.pz {b b' R B g w n : Nat} {s s' : XS9} (h : KQ b b' R B g w n s s') : ∀ r, R ≤ r → r < 5 → s (b + 1) r = 0 := h.2.2.1
theorem KQ.he {b b' R B g w n : Nat} {s s' : XS9} (h : KQ b b' R B g w n s s') : HE b b' B s s' := h.2.2.2.1
theorem KQ.hz {b b' R B g w n : Nat} {s s' : XS9} (h : KQ b b' R B g w n s s') : ∀ j, B ≤ j → j < 6 → s (b + 2) j = 0 := h.2.2.2.2.1
theorem KQ.wi {b b' R B g w n : Nat} {s s' : XS9} (h : KQ b b' R B g w n s s') : ∀ j, j < B → s (b + 3) j = s' (b' + 500 + g) j ∧ bd 7775 (s' (b' + 500 + g) j) := h.2.2.2.2.2.1
theorem KQ.wz {b b' R B g w n : Nat} {s s' : XS9} (h : KQ b b' R B g w n s s') : ∀ j, B ≤ j → j < 6 → s (b + 3) j = 0 := h.2.2.2.2.2.2.1
theorem KQ.el {b b' R B g w n : Nat} {s s' : XS9} (h : KQ b b' R B g w n s s') : ∀ j, j < B → s (b + 4) j = s' (b' + 3) j := h.2.2.2.2.2.2.2.1
theorem KQ.wv {b b' R B g w n : Nat} {s s' : XS9} (h : KQ b b' R B g w n s s') : ∀ j, j < B → s (b + 5) j = s' (b' + 4) j ∧ bd 2 (s' (b' + 4) j) := h.2.2.2.2.2.2.2.2.1
theorem KQ.co {b b' R B g w n : Nat} {s s' : XS9} (h : KQ b b' R B g w n s s') : ∀ j, j < B → s (b + 6) j = s' (b' + 5) j := h.2.2.2.2.2.2.2.2.2.1
theorem KQ.ma {b b' R B g w n : Nat} {s s' : XS9} (h : KQ b b' R B g w n s s') : ∀ j, j < B → (f_hasWaived s b j = 0 ↔ s' (b' + 700 + w) j = 0) := h.2.2.2.2.2.2.2.2.2.2.1
theorem KQ.lp {b b' R B g w n : Nat} {s s' : XS9} (h : KQ b b' R B g w n s s') : ∀ k, k < n → (∀ r, r < R → s (b + 101 + k) r = s' (b' + 100 + k) r) ∧ ∀ r, R ≤ r → r < 5 → s (b + 101 + k) r = 0 := h.2.2.2.2.2.2.2.2.2.2.2.1
theorem KQ.lh {b b' R B g w n : Nat} {s s' : XS9} (h : KQ b b' R B g w n s s') : ∀ k, k < n → ∀ j, j < B → s (b + 301 + k) j = s' (b' + 200 + k) j ∧ bd 7775 (s' (b' + 200 + k) j) := h.2.2.2.2.2.2.2.2.2.2.2.2
/-- what a clock was told, alike -/
def TQ (R : Nat) (s s' : XS9) : Prop := (s 1001 11 = s' 5000 3) ∧ (∀ r, r < 5 → s 1010 r = s' (5010 + r) 0 ∧ bd 5 (s' (5010 + r) 0)) ∧ (∀ r, r < 5 → s 1011 r = s' (5010 + r) 1) ∧ (∀ r, R ≤ r → r < 5 → s' (5010 + r) 1 = 0)
theorem TQ.rl {R : Nat} {s s' : XS9} (h : TQ R s s') : s 1001 11 = s' 5000 3 := h.1
theorem TQ.rg {R : Nat} {s s' : XS9} (h : TQ R s s') : ∀ r, r < 5 → s 1010 r = s' (5010 + r) 0 ∧ bd 5 (s' (5010 + r) 0) := h.2.1
theorem TQ.pt {R : Nat} {s s' : XS9} (h : TQ R s s') : ∀ r, r < 5 → s 1011 r = s' (5010 + r) 1 := h.2.2.1
theorem TQ.ptz {R : Nat} {s s' : XS9} (h : TQ R s s') : ∀ r, R ≤ r → r < 5 → s' (5010 + r) 1 = 0 := h.2.2.2
section
variable {σ : XS9} {x : Int32} {b b' R B g w n : Nat}
theorem contra_eq {s s' : XS9} {i : Nat} (hR5 : R ≤ 5) (hw : s (b + 3) i = s' (b' + 500 + g) i ∧ bd 7775 (s' (b' + 500 + g) i)) (hp : ∀ r, r < R → s (b + 1) r = s' (b' + 1) r) (hpz : ∀ r, R ≤ r → r < 5 → s (b + 1) r = 0) (hlp : ∀ k, k < n → (∀ r, r < R → s (b + 101 + k) r = s' (b' + 100 + k) r) ∧ ∀ r, R ≤ r → r < 5 → s (b + 101 + k) r = 0) (hlh : ∀ k, k < n → s (b + 301 + k) i = s' (b' + 200 + k) i ∧ bd 7775 (s' (b' + 200 + k) i)) : f_contradictedRound s b i n = f_Kcontradicts s' b' i R g n := by
  have e : x_contradictedRound_2 s b i n () = x_Kcontradicts_2 s' b' i R g n () := by
    unfold x_contradictedRound_2 x_Kcontradicts_2
    refine xitR_cg (fun k u hk => ?_) n 0 () (Nat.zero_add _)
    obtain ⟨l1, l2⟩ := hlp k hk
    obtain ⟨l3, l4⟩ := hlh k hk
    (try dsimp only)
    rw [dearer_eq (σ := s') (b := b') (i := i) (g := g) (n := n) (i2 := k) (R := R) (c := s (b + 3) i) (d := s (b + 301 + k) i) (by rw [hw.1]; exact hw.2) (by rw [l3]; exact l4) hR5 hw.1.symm l3.symm hp l1 (fun j h1 h2 => ⟨hpz j h1 h2, l2 j h1 h2⟩)]
  unfold f_contradictedRound f_Kcontradicts
  generalize x_contradictedRound_2 s b i n () = A at e ⊢
  subst e
  cases x_Kcontradicts_2 s' b' i R g n () <;> rfl
/-- undoing contradictions -/
def UQ (b b' B g : Nat) (s0 σ s s' : XS9) : Prop := (∀ j, j < B → s (b + 3) j = s' (b' + 500 + g) j ∧ bd 7775 (s' (b' + 500 + g) j)) ∧ (∀ j, j < B → s (b + 6) j = s' (b' + 5) j) ∧ (∀ a, a ≠ b + 3 → a ≠ b + 6 → s a = s0 a) ∧ (∀ a, a ≠ b' + 500 + g → a ≠ b' + 5 → s' a = σ a)
theorem UQ.wi {b b' B g : Nat} {s0 σ s s' : XS9} (h : UQ b b' B g s0 σ s s') : ∀ j, j < B → s (b + 3) j = s' (b' + 500 + g) j ∧ bd 7775 (s' (b' + 500 + g) j) := h.1
theorem UQ.co {b b' B g : Nat} {s0 σ s s' : XS9} (h : UQ b b' B g s0 σ s s') : ∀ j, j < B → s (b + 6) j = s' (b' + 5) j := h.2.1
theorem UQ.rc {b b' B g : Nat} {s0 σ s s' : XS9} (h : UQ b b' B g s0 σ s s') : ∀ a, a ≠ b + 3 → a ≠ b + 6 → s a = s0 a := h.2.2.1
theorem UQ.rm {b b' B g : Nat} {s0 σ s s' : XS9} (h : UQ b b' B g s0 σ s s') : ∀ a, a ≠ b' + 500 + g → a ≠ b' + 5 → s' a = σ a := h.2.2.2
theorem undo_sim {s0 : XS9} (hR5 : R ≤ 5) (hn : n < 60) (hg : g < 199) (Q : KQ b b' R B g w n s0 σ) (hr : ¬ σ 5000 3 = 0) : ∀ i, i ≤ B → UQ b b' B g s0 σ (xit (stU b n) i 0 s0) (xit (stM2 σ b' R g n) i 0 σ) := by
  intro i
  induction i with
  | zero => exact fun _ => ⟨Q.wi, Q.co, fun _ _ _ => rfl, fun _ _ _ => rfl⟩
  | succ i ih =>
    intro hi
    have I := ih (by omega)
    rw [xit_last, xit_last]
    generalize xit (stU b n) i 0 s0 = s at I ⊢
    generalize xit (stM2 σ b' R g n) i 0 σ = s' at I ⊢
    have hiB : i < B := by omega
    have ec : f_contradictedRound s b i n = f_Kcontradicts s' b' i R g n := contra_eq hR5 (I.wi i hiB) (fun r h => by rw [I.rc _ (by omega) (by omega), I.rm _ (by omega) (by omega)]; exact Q.p r h) (fun r h1 h2 => by rw [I.rc _ (by omega) (by omega)]; exact Q.pz r h1 h2) (fun k hk => by
      rw [I.rc _ (by omega) (by omega), I.rm _ (by omega) (by omega)]
      exact Q.lp k hk) (fun k hk => by
      rw [I.rc _ (by omega) (by omega), I.rm _ (by omega) (by omega)]
      exact Q.lh k hk i hiB)
    unfold stU stM2
    rw [if_neg hr, ec]
    by_cases c : f_Kcontradicts s' b' i R g n = -1
    · rw [if_pos c, if_pos c]
      exact I
    · rw [if_neg c, if_neg c]
      have eh : s (b + 2) i = σ (b' + 2) i := by
        rw [I.rc _ (by omega) (by omega)]
        exact (Q.he i hiB).1
      refine ⟨fun j hj => ?_, fun j hj => ?_, fun a h1 h2 => ?_, fun a h1 h2 => ?_⟩
      · rw [u2_ne (show b' + 500 + g ≠ b' + 5 by omega)]
        by_cases e : j = i
        · rw [e, u2_at, u2_at]
          exact ⟨eh, (Q.he i hiB).2⟩
        · rw [u2_oi e, u2_oi e, u2_ne (show b + 3 ≠ b + 6 by omega)]
          exact I.wi j hj
      · rw [u2_ne (show b + 6 ≠ b + 3 by omega)]
        by_cases e : j = i
        · rw [e, u2_at, u2_at, I.co i hiB]
        · rw [u2_oi e, u2_oi e, u2_ne (show b' + 5 ≠ b' + 500 + g by omega)]
          exact I.co j hj
      · rw [u2_ne h1, u2_ne h2]
        exact I.rc a h1 h2
      · rw [u2_ne h2, u2_ne h1]
        exact I.rm a h1 h2
theorem keep_rule (hr : σ 5000 3 = 0) : x_Kclose_2 σ b' R B g w n σ = σ := by
  unfold x_Kclose_2
  refine xit_inv (fun s : XS9 => s = σ) (N := B) (fun i s hi hP => ?_) B 0 _ (Nat.zero_add _) rfl
  (try dsimp only)
  rw [if_pos hr]
  exact hP
/-- lowering who may wish -/
theorem lower_sim {s0 k0 : XS9} {W : Nat → Int32} (hR5 : R ≤ 5) (hw : ∀ j, j < B → s0 (b + 3) j = W j ∧ bd 7775 (W j)) (hel : ∀ j, j < B → s0 (b + 4) j = k0 (b' + 3) j) (hma : ∀ j, j < B → (f_hasWaived s0 b j = 0 ↔ σ (b' + 700 + w) j = 0)) (hpt : ∀ r, r < 5 → s0 1011 r = k0 (5010 + r) 1) (hptz : ∀ r, R ≤ r → r < 5 → k0 (5010 + r) 1 = 0) (hb : 2000 ≤ b) (hb' : 7000 ≤ b') : ∀ i, i ≤ B → (∀ j, j < B → xit (stL b) i 0 s0 (b + 4) j = xit (stM65 σ b' R w W) i 0 k0 (b' + 3) j) ∧ (∀ a, a ≠ b + 4 → xit (stL b) i 0 s0 a = s0 a) ∧ ∀ a, a ≠ b' + 3 → xit (stM65 σ b' R w W) i 0 k0 a = k0 a := by
  intro i
  induction i with
  | zero => exact fun _ => ⟨hel, fun _ _ => rfl, fun _ _ => rfl⟩
  | succ i ih =>
    intro hi
    obtain ⟨I1, I2, I3⟩ := ih (by omega)
    rw [xit_last, xit_last]
    generalize xit (stL b) i 0 s0 = s at I1 I2 ⊢
    generalize xit (stM65 σ b' R w W) i 0 k0 = s' at I1 I3 ⊢
    have hiB : i < B := by omega
    have ep : f_total (s (b + 3) i) 5 (s 1011) = f_Mpoints s' (W i) R := by
      rw [I2 _ (by omega), I2 1011 (by omega), (hw i hiB).1]
      exact points_eq (hw i hiB).2 hR5 (fun j hj => by rw [I3 _ (by omega)]; exact hpt j hj) (fun j h1 h2 => by rw [I3 _ (by omega)]; exact hptz j h1 h2)
    have ew : f_hasWaived s b i = 0 ↔ σ (b' + 700 + w) i = 0 := by
      have : f_hasWaived s b i = f_hasWaived s0 b i := by
        unfold f_hasWaived
        rw [I2 b (by omega)]
      rw [this]
      exact hma i hiB
    unfold stL stM65
    rw [ep, I1 i hiB]
    by_cases c1 : 8 * s' (b' + 3) i ≤ 10 * f_Mpoints s' (W i) R
    · rw [if_pos c1, if_pos c1]
      split <;> exact ⟨I1, I2, I3⟩
    · rw [if_neg c1, if_neg c1]
      by_cases c2 : σ (b' + 700 + w) i = 0
      · rw [if_pos c2, if_pos (ew.mpr c2)]
        refine ⟨fun j hj => ?_, fun a ha => ?_, fun a ha => ?_⟩
        · by_cases e : j = i
          · rw [e, u2_at, u2_at]
          · rw [u2_oi e, u2_oi e]
            exact I1 j hj
        · rw [u2_ne ha]
          exact I2 a ha
        · rw [u2_ne ha]
          exact I3 a ha
      · rw [if_neg c2, if_neg (fun y => c2 (ew.mp y))]
        exact ⟨I1, I2, I3⟩
/-! the class's round -/
def crL (σ : XS9) (b : Nat) (x : Int32) (K : Nat) : XS9 := uR (uR (u2 (u2 σ (b + 7) K x) (b + 8) K (σ b 12)) (b + 101 + K) (va_cpy (σ (b + 1)) (σ (b + 101 + K)) 0 0 5)) (b + 201 + K) (va_cpy (σ (b + 3)) (σ (b + 201 + K)) 0 0 6)
def crU (σ : XS9) (b : Nat) (x : Int32) (B K : Nat) : XS9 := if σ 1001 11 = 0 then crL σ b x K else g_undoContradictions (crL σ b x K) b B K
def crM (σ : XS9) (b : Nat) (x : Int32) (B R K : Nat) : XS9 := x_closeRound_92 σ b x B R K (g_lowerEligible (crU σ b x B K) b B)
def crF (s : XS9) (b : Nat) (x : Int32) (R K : Nat) : XS9 := u2 (u2 (uR (uR (g_raisePrices s b x R) (b + 301 + K) (va_cpy (s (b + 2)) (s (b + 301 + K)) 0 0 6)) (b + 3) (va_cpy (s (b + 2)) (s (b + 3)) 0 0 6)) b 12 0) b 9 (nI (K + 1))
theorem closeRound_eq {K : Nat} (h : nI K < 60) : g_closeRound σ b x B R K = crF (crM σ b x B R K) b x R K := by
  unfold g_closeRound
  rw [if_pos h]
  by_cases c : σ 1001 11 = 0
  · rw [if_pos c]
    unfold crF crM
    rw [show crU σ b x B K = crL σ b x K from if_pos c]
    unfold crL
    rfl
  · rw [if_neg c]
    unfold crF crM
    rw [show crU σ b x B K = g_undoContradictions (crL σ b x K) b B K from if_neg c]
    unfold crL
    rfl
theorem closeRound_f {K : Nat} (h : nI K < 60) : f_closeRound σ b x B R K = if f_raisePrices (crM σ b x B R K) b x R = 0 then 1 else (if nI (K + 1) = 60 then 1 else 0) := by
  unfold f_closeRound
  rw [if_pos h]
  by_cases c : σ 1001 11 = 0
  · rw [if_pos c]
    unfold crM
    rw [show crU σ b x B K = crL σ b x K from if_pos c]
    unfold crL
    rfl
  · rw [if_neg c]
    unfold crM
    rw [show crU σ b x B K = g_undoContradictions (crL σ b x K) b B K from if_neg c]
    unfold crL
    rfl
theorem crL_row {K a : Nat} (h : a ≠ b + 7 ∧ a ≠ b + 8 ∧ a ≠ b + 101 + K ∧ a ≠ b + 201 + K) : crL σ b x K a = σ a := by
  unfold crL
  rw [uR_ne h.2.2.2, uR_ne h.2.2.1, u2_ne h.2.1, u2_ne h.1]
theorem crL_p {K r : Nat} (hK : K < 60) (hr : r < 5) : crL σ b x K (b + 101 + K) r = σ (b + 1) r := by
  unfold crL
  rw [uR_ne (by omega), uR_eq, cpy_lo hr]
/-- the state after the round's log -/
theorem KQ.log {s : XS9} (Q : KQ b b' R B g w n s σ) (hn : n < 60) : KQ b b' R B g w n (crL s b x n) σ := by
  have e : ∀ a, a ≠ b + 7 → a ≠ b + 8 → a ≠ b + 101 + n → a ≠ b + 201 + n → crL s b x n a = s a := fun a h1 h2 h3 h4 => crL_row ⟨h1, h2, h3, h4⟩
  refine ⟨?_, fun r hr => ?_, fun r h1 h2 => ?_, fun j hj => ?_, fun j h1 h2 => ?_, fun j hj => ?_, (fun j h1 h2 => by rw [e _ (by omega) (by omega) (by omega) (by omega)]; exact Q.wz j h1 h2), fun j hj => ?_, fun j hj => ?_, fun j hj => ?_, fun j hj => ?_, fun k hk => ?_, fun k hk => ?_⟩
  · rw [e _ (by omega) (by omega) (by omega) (by omega)]; exact Q.c
  · rw [e _ (by omega) (by omega) (by omega) (by omega)]; exact Q.p r hr
  · rw [e _ (by omega) (by omega) (by omega) (by omega)]; exact Q.pz r h1 h2
  · rw [e _ (by omega) (by omega) (by omega) (by omega)]; exact Q.he j hj
  · rw [e _ (by omega) (by omega) (by omega) (by omega)]; exact Q.hz j h1 h2
  · rw [e _ (by omega) (by omega) (by omega) (by omega)]; exact Q.wi j hj
  · rw [e _ (by omega) (by omega) (by omega) (by omega)]; exact Q.el j hj
  · rw [e _ (by omega) (by omega) (by omega) (by omega)]; exact Q.wv j hj
  · rw [e _ (by omega) (by omega) (by omega) (by omega)]; exact Q.co j hj
  · have : f_hasWaived (crL s b x n) b j = f_hasWaived s b j := by
      unfold f_hasWaived
      rw [e _ (by omega) (by omega) (by omega) (by omega)]
    rw [this]
    exact Q.ma j hj
  · rw [e _ (by omega) (by omega) (by omega) (by omega)]; exact Q.lp k hk
  · rw [e _ (by omega) (by omega) (by omega) (by omega)]; exact Q.lh k hk
end
