/-! ===== the market of both sides ===== -/
/-- a state of the reference's with the program's winners, worths and amounts -/
def tC (σ : XS9) : XS9 := fun q i => if q = 9001 then σ 1040 i else if q = 9003 then σ 1041 i else if 5030 ≤ q ∧ q ≤ 5035 then σ (1031 + (q - 5030)) (i / 2) else 0
def PYQ (σ : XS9) : Prop := ∀ w, w < 3 → ∀ j, j < 6 → σ (1131 + w) j = g_Cpay (tC σ) w 20000 6 20000 j
/-- what is kept of winners' blocks -/
def wK (τ : XS9) (r j : Nat) : Nat := if j < mB τ ∧ τ 5005 j ≠ -1 then dgt (τ (5030 + j) (2 * cn (τ 5005 j))) r else 0
def nbK (τ : XS9) (r o : Nat) : Bool := bt (τ (5010 + r) 3) o
def NM3 (τ σ : XS9) : Prop := (∀ r, r < mR τ → ∀ b, b < 5 → σ (1141 + r) b = hro (wK τ r) (msp τ r) (mtn τ r) b) ∧ σ 1005 1 = nI (tot (nbK τ) (wK τ) (msp τ) (mtn τ) (mR τ))
def KE3 (τ σ : XS9) : Prop := ((∀ j, j < 6 → τ 5005 j = σ 1040 j) ∧ (∀ j, j < 6 → τ 5006 j = σ (1131 + mwy τ) j) ∧ σ 1000 9 = τ 5000 7) ∧ NM3 τ σ
def NM0 (σ : XS9) : Prop := (∀ r, r < 5 → ∀ b, b < 5 → σ (1141 + r) b = -1) ∧ σ 1005 1 = 0
/-- before the packages -/
def EMP (τ σ : XS9) : Prop := (SC0 σ ∧ (σ 1042 0 = 0 ∧ ∀ S, 0 < S → S < 64 → σ 1042 S = -1) ∧ ∀ S, S < 64 → ∀ j, j < 6 → σ (1051 + S) j = -1) ∧ ((∀ j, j < 6 → σ 1040 j = -1) ∧ (∀ S, S < 64 → σ 1041 S = 0) ∧ ∀ w, w < 3 → ∀ j, j < 6 → σ (1131 + w) j = 0) ∧ (σ 1003 5 = 0 ∧ ∀ j, j < 6 → τ (5020 + j) 4 = 0) ∧ ∀ j, j < 6 → pkB τ j = 0
def RM (τ σ : XS9) : Prop := (RK τ σ ∧ σ 1000 10 = τ 5000 5) ∧ (τ 5000 1 ≤ 1 → EMP τ σ) ∧ (¬ τ 5000 1 ≤ 1 → MKT τ σ ∧ MKW τ σ ∧ PYQ σ) ∧ (¬ τ 5000 1 = 3 → NM0 σ) ∧ (τ 5000 1 = 3 → KE3 τ σ)
theorem RM.k {τ σ : XS9} (h : RM τ σ) : RK τ σ := h.1.1
theorem RM.d {τ σ : XS9} (h : RM τ σ) : σ 1000 10 = τ 5000 5 := h.1.2
theorem RM.e {τ σ : XS9} (h : RM τ σ) : τ 5000 1 ≤ 1 → EMP τ σ := h.2.1
theorem RM.m {τ σ : XS9} (h : RM τ σ) : ¬ τ 5000 1 ≤ 1 → MKT τ σ ∧ MKW τ σ ∧ PYQ σ := h.2.2.1
theorem RM.n0 {τ σ : XS9} (h : RM τ σ) : ¬ τ 5000 1 = 3 → NM0 σ := h.2.2.2.1
theorem RM.n3 {τ σ : XS9} (h : RM τ σ) : τ 5000 1 = 3 → KE3 τ σ := h.2.2.2.2
/-- the places that it speaks of -/
def kx (q i : Nat) : Prop := (q = 1000 ∧ (i = 9 ∨ i = 10)) ∨ (q = 1003 ∧ i = 5) ∨ (q = 1005 ∧ i = 1) ∨ (1020 ≤ q ∧ q ≤ 1124) ∨ (1131 ≤ q ∧ q ≤ 1145)
def VX (σ σ2 : XS9) : Prop := ∀ q i, kx q i → σ2 q i = σ q i
def kX (q i : Nat) : Prop := (q = 5000 ∧ (i = 1 ∨ i = 2 ∨ i = 5 ∨ i = 7)) ∨ ((q = 5001 ∨ q = 5002) ∧ i = 900) ∨ (5005 ≤ q ∧ q ≤ 5007) ∨ (5010 ≤ q ∧ q ≤ 5014 ∧ (i = 0 ∨ i = 3)) ∨ (5020 ≤ q ∧ q ≤ 5025 ∧ (i = 3 ∨ i = 4)) ∨ (5030 ≤ q ∧ q ≤ 5035)
def MX (τ τ2 : XS9) : Prop := ∀ q i, kX q i → τ2 q i = τ q i
section
variable {τ τ2 τ3 σ σ2 σ3 : XS9} {A A2 : Nat → Nat → Nat} {X Y : (Nat → Nat) → Prop} {d : Nat → Nat}
theorem VX.rfl' : VX σ σ := fun _ _ _ => rfl
theorem VX.trans (a : VX σ σ2) (b : VX σ2 σ3) : VX σ σ3 := fun q i h => (b q i h).trans (a q i h)
theorem VX.set {q i : Nat} {x : Int32} (hq : ¬ kx q i) : VX σ (u2 σ q i x) := fun q9 i9 hk => u2_o (fun a b => hq (by rw [← a, ← b]; exact hk))
theorem VX.rows (h : ∀ q, (q = 1000 ∨ q = 1003 ∨ q = 1005 ∨ (1020 ≤ q ∧ q ≤ 1124) ∨ (1131 ≤ q ∧ q ≤ 1145)) → σ2 q = σ q) : VX σ σ2 := fun q i hk => by rw [h q (by unfold kx at hk; omega)]
theorem MX.rfl' : MX τ τ := fun _ _ _ => rfl
theorem MX.trans (a : MX τ τ2) (b : MX τ2 τ3) : MX τ τ3 := fun q i h => (b q i h).trans (a q i h)
theorem MX.set {q i : Nat} {x : Int32} (hq : ¬ kX q i) : MX τ (u2 τ q i x) := fun q9 i9 hk => u2_o (fun a b => hq (by rw [← a, ← b]; exact hk))
theorem MX.row {q : Nat} {f : Nat → Int32} (hq : ∀ i, ¬ kX q i) : MX τ (uR τ q f) := fun q9 i9 hk => by
  by_cases e : q9 = q
  · rw [e] at hk
    exact absurd hk (hq i9)
  · rw [uR_ne e]
theorem MX.s0 {x : Int32} : MX τ (u2 τ 5000 0 x) := MX.set (fun k => by unfold kX at k; omega)
theorem MX.s00 {x : Int32} : MX τ (u2 (u2 τ 5000 0 0) 5000 0 x) := MX.s0.trans MX.s0
theorem MX.hi (e : ∀ q, q < 6000 → τ2 q = τ q) : MX τ τ2 := fun q i hk => by rw [e q (by unfold kX at hk; omega)]
theorem MX.R (m : MX τ τ2) : mR τ2 = mR τ := congrArg cn (m _ _ (by unfold kX; omega))
theorem MX.B (m : MX τ τ2) : mB τ2 = mB τ := congrArg cn (m _ _ (by unfold kX; omega))
theorem MX.pk (m : MX τ τ2) {j : Nat} (hj : j < 6) : mpk τ2 j = mpk τ j := by
  show cn (τ2 (5030 + j) 900) / 2 = _
  rw [m _ _ (by unfold kX; omega)]
theorem MX.pkb (m : MX τ τ2) {j : Nat} (hj : j < 6) : pkB τ2 j = pkB τ j := by
  unfold pkB
  rw [m.B, m.pk hj]
/-- the same choices, of the same amounts -/
theorem Xm_same (hB : ∀ j, j < 6 → pkB τ2 j = pkB τ j) (hr : ∀ j, j < 6 → τ2 (5030 + j) = τ (5030 + j)) (hg : ∀ j, j < 6 → mgr τ j = mgr τ2 j) (hs : ∀ r, r < mR τ → msp τ2 r = msp τ r) (hc : cn (τ2 5000 2) = cn (τ 5000 2)) (hR : mR τ2 = mR τ) : (∀ d, Xm τ d ↔ Xm τ2 d) ∧ ∀ d, cAm (Am τ) d = cAm (Am τ2) d := by
  refine ⟨fun d => ?_, fun d => ?_⟩
  · unfold Xm
    rw [hc, hR]
    refine and_congr (forall_congr' fun j => forall_congr' fun hj => by rw [hB j hj]) ((cFe_gr hg).trans ?_)
    refine forall_congr' fun r => forall_congr' fun hr9 => ?_
    rw [hs r hr9, show cTk (Dm τ) r d = cTk (Dm τ2) r d from nsum_cg fun j hj => by
      unfold cDg Dm
      rw [hr j hj]]
    refine and_congr Iff.rfl (forall_congr' fun g => forall_congr' fun _ => ?_)
    rw [show cTg (Dm τ) (mgr τ2) g r d = cTg (Dm τ2) (mgr τ2) g r d from nsum_cg fun j hj => by
      unfold cGd cDg Dm
      rw [hr j hj]]
  · exact nsum_cg fun j hj => by
      unfold cAd Am
      rw [hr j hj]
theorem MX.row5030 (m : MX τ τ2) {j : Nat} (hj : j < 6) : τ2 (5030 + j) = τ (5030 + j) := funext fun i => m _ _ (by unfold kX; omega)
theorem MX.same (m : MX τ τ2) (hR5 : mR τ ≤ 5) : (∀ d, Xm τ d ↔ Xm τ2 d) ∧ ∀ d, cAm (Am τ) d = cAm (Am τ2) d := Xm_same (fun j hj => m.pkb hj) (fun j hj => m.row5030 hj) (fun j hj => by
  show cn (τ (5020 + j) 3) = cn (τ2 (5020 + j) 3)
  rw [m _ _ (by unfold kX; omega)]) (fun r hr => by
  show cn (τ2 (5010 + r) 0) = cn (τ (5010 + r) 0)
  rw [m _ _ (by unfold kX; omega)]) (by rw [m _ _ (by unfold kX; omega)]) m.R
theorem MKT.of (h : MKT τ σ) (X : (∀ d, Xm τ d ↔ Xm τ2 d) ∧ ∀ d, cAm (Am τ) d = cAm (Am τ2) d) (ho : ∀ j, j < 6 → τ2 (5020 + j) 4 = τ (5020 + j) 4) (c : ∀ q i, (1042 ≤ q ∧ q ≤ 1124) ∨ (q = 1003 ∧ i = 5) → σ2 q i = σ q i) : MKT τ2 σ2 := by
  refine ⟨⟨fun j hj => ?_, fun r hr => ?_, fun g hg r hr => ?_⟩, ((h.2.1.cg fun d _ => X.2 d).iff X.1).of fun q hq => funext fun i => c q i (by omega), fun j hj => ?_⟩
  · rw [c _ _ (by omega)]
    exact h.1.1 j hj
  · rw [c _ _ (by omega)]
    exact h.1.2.1 r hr
  · rw [c _ _ (by omega)]
    exact h.1.2.2 g hg r hr
  · rw [c _ _ (by omega), ho j hj]
    exact h.2.2 j hj
theorem MKW.of (h : MKW τ σ) (X : (∀ d, Xm τ d ↔ Xm τ2 d) ∧ ∀ d, cAm (Am τ) d = cAm (Am τ2) d) (c : ∀ q i, (1040 ≤ q ∧ q ≤ 1041) ∨ (q = 1003 ∧ i = 5) → σ2 q i = σ q i) : MKW τ2 σ2 := by
  have Y : ∀ d, ouX (Xm τ) (σ 1003 5) d ↔ ouX (Xm τ2) (σ2 1003 5) d := fun d => by
    rw [c 1003 5 (by omega)]
    exact and_congr (X.1 d) Iff.rfl
  exact ⟨((h.1.cg fun d _ => X.2 d).iff Y).onto fun j _ => c _ _ (by omega), ((h.2.cg fun d _ => X.2 d).iff Y).onto fun S _ => c _ _ (by omega)⟩
theorem tC_same (c : ∀ q i, (1031 ≤ q ∧ q ≤ 1041) → σ2 q i = σ q i) : tC σ2 = tC σ := by
  funext q i
  unfold tC
  split
  · exact c _ _ (by omega)
  · split
    · exact c _ _ (by omega)
    · split
      · exact c _ _ (by omega)
      · rfl
theorem PYQ.of (h : PYQ σ) (c : ∀ q i, (1031 ≤ q ∧ q ≤ 1041) ∨ (1131 ≤ q ∧ q ≤ 1133) → σ2 q i = σ q i) : PYQ σ2 := fun w hw j hj => by
  rw [c _ _ (by omega), tC_same fun q i hq => c q i (.inl hq)]
  exact h w hw j hj
theorem RM.kept (h : RM τ σ) (r : JR τ) (m : MX τ τ2) (c : VX σ σ2) : RM τ2 σ2 := by
  have hR5 := r.hR.2
  have hB6 := r.hB.2
  have es : τ2 5000 1 = τ 5000 1 := m _ _ (by unfold kX; omega)
  have X := m.same hR5
  have cc : ∀ q i, kx q i → σ2 q i = σ q i := c
  have mm : ∀ q i, kX q i → τ2 q i = τ q i := m
  refine ⟨⟨⟨by rw [mm _ _ (by unfold kX; omega)]; exact h.k.1, fun j hj => by rw [cc _ _ (by unfold kx; omega), m.pkb hj]; exact h.k.n hj, fun j hj k hk => ?_⟩, by rw [cc _ _ (by unfold kx; omega), mm _ _ (by unfold kX; omega)]; exact h.d⟩, fun hs => ?_, fun hs => ?_, fun hs => ?_, fun hs => ?_⟩
  · rw [m.B] at hj
    rw [m.pk (by omega)] at hk
    have k6 := (r.hpk j hj).2
    rw [cc _ _ (by unfold kx; omega), cc _ _ (by unfold kx; omega), m.row5030 (by omega), m.R]
    exact h.k.2.2 j hj k hk
  · rw [es] at hs
    obtain ⟨⟨⟨a1, a2, a3⟩, ⟨b1, b2⟩, b3⟩, ⟨c1, c2, c3⟩, ⟨d1, d2⟩, d3⟩ := h.e hs
    refine ⟨⟨⟨fun j hj => ?_, fun q hq => ?_, fun g hg q hq => ?_⟩, ⟨?_, fun S h1 h2 => ?_⟩, fun S hS j hj => ?_⟩, ⟨fun j hj => ?_, fun S hS => ?_, fun w hw j hj => ?_⟩, ⟨?_, fun j hj => ?_⟩, fun j hj => ?_⟩
    · rw [cc _ _ (by unfold kx; omega)]; exact a1 j hj
    · rw [cc _ _ (by unfold kx; omega)]; exact a2 q hq
    · rw [cc _ _ (by unfold kx; omega)]; exact a3 g hg q hq
    · rw [cc _ _ (by unfold kx; omega)]; exact b1
    · rw [cc _ _ (by unfold kx; omega)]; exact b2 S h1 h2
    · rw [cc _ _ (by unfold kx; omega)]; exact b3 S hS j hj
    · rw [cc _ _ (by unfold kx; omega)]; exact c1 j hj
    · rw [cc _ _ (by unfold kx; omega)]; exact c2 S hS
    · rw [cc _ _ (by unfold kx; omega)]; exact c3 w hw j hj
    · rw [cc _ _ (by unfold kx; omega)]; exact d1
    · rw [mm _ _ (by unfold kX; omega)]; exact d2 j hj
    · rw [m.pkb hj]; exact d3 j hj
  · rw [es] at hs
    obtain ⟨h1, h2, h3⟩ := h.m hs
    exact ⟨h1.of X (fun j hj => mm _ _ (by unfold kX; omega)) fun q i hq => cc _ _ (by unfold kx; omega), h2.of X fun q i hq => cc _ _ (by unfold kx; omega), h3.of fun q i hq => cc _ _ (by unfold kx; omega)⟩
  · rw [es] at hs
    obtain ⟨h1, h2⟩ := h.n0 hs
    exact ⟨fun q hq b hb => by rw [cc _ _ (by unfold kx; omega)]; exact h1 q hq b hb, by rw [cc _ _ (by unfold kx; omega)]; exact h2⟩
  · rw [es] at hs
    obtain ⟨⟨h1, h2, h3⟩, h4, h5⟩ := h.n3 hs
    have ew : mwy τ2 = mwy τ := by
      show cn (τ2 5000 7) = _
      rw [mm _ _ (by unfold kX; omega)]
    have eK : ∀ q, wK τ2 q = wK τ q := fun q => funext fun j => by
      unfold wK
      rw [m.B, mm 5005 j (by unfold kX; omega)]
      by_cases l : j < mB τ
      · rw [m.row5030 (by omega)]
      · rw [if_neg (fun z => l z.1), if_neg (fun z => l z.1)]
    have et : ∀ q, mtn τ2 q = mtn τ q := fun q => by
      show cn (τ2 5007 q) = _
      rw [mm _ _ (by unfold kX; omega)]
    have ep : ∀ q, q < 5 → msp τ2 q = msp τ q := fun q hq => by
      show cn (τ2 (5010 + q) 0) = _
      rw [mm _ _ (by unfold kX; omega)]
    have ew4 := r.hwy.2
    refine ⟨⟨fun j hj => by rw [mm _ _ (by unfold kX; omega), cc _ _ (by unfold kx; omega)]; exact h1 j hj, fun j hj => by rw [ew, mm _ _ (by unfold kX; omega), cc _ _ (by unfold kx; omega)]; exact h2 j hj, by rw [cc _ _ (by unfold kx; omega), mm _ _ (by unfold kX; omega)]; exact h3⟩, fun q hq b hb => ?_, ?_⟩
    · rw [m.R] at hq
      rw [cc _ _ (by unfold kx; omega), eK, et, ep q (by omega)]
      exact h4 q hq b hb
    · rw [cc _ _ (by unfold kx; omega), h5, m.R]
      congr 1
      refine nsum_cg fun o ho => ?_
      (try dsimp only)
      rw [et]
      refine nsum_cg fun o2 ho2 => ?_
      unfold clN nbK
      rw [mm (5010 + o) 3 (by unfold kX; omega), eK, eK, et, ep o (by omega), ep o2 (by omega)]
/-- before the packages, the search has just the choice of nothing -/
theorem EMP.mk (h : EMP τ σ) : MKT τ σ ∧ MKW τ σ := by
  obtain ⟨⟨a, ⟨b1, b2⟩, b3⟩, ⟨c1, c2, c3⟩, ⟨d1, d2⟩, d3⟩ := h
  have X0 : ∀ d, Xm τ d → e6 d (fun _ => 0) := fun d hd j hj => by
    have := hd.1 j hj
    rw [d3 j hj] at this
    exact Nat.le_zero.mp this
  have z0 : Xm τ (fun _ => 0) := ⟨cOk_0, cFe_0⟩
  have o0 : ∀ j, bt (σ 1003 5) j = false := fun j => by rw [d1, b_0]
  have y0 : ouX (Xm τ) (σ 1003 5) (fun _ => 0) := ⟨z0, fun j _ hn => absurd rfl hn⟩
  refine ⟨⟨a, fun S hS => ?_, fun j hj => ⟨fun _ => d2 j hj, fun _ => o0 j⟩⟩, ⟨_, y0, fun d hd => (X0 d hd.1).symm.btr, fun j hj => by rw [c1 j hj]; rfl⟩, fun _ => 0, fun S hS => ⟨fun d hd hs => ?_, .inl rfl⟩, fun S hS => ⟨0, c2 S hS, by omega, fun _ _ _ => Nat.le_refl _, S, hS, fun _ _ h => h, rfl⟩⟩
  · rcases Nat.eq_zero_or_pos S with e | e
    · subst e
      exact .inr ⟨_, z0, cSp_0, by rw [b1, cAm_0]; rfl, fun j hj => by rw [b3 0 (by decide) j hj]; rfl, fun d hd _ => (X0 d hd).symm.btr⟩
    · refine .inl ⟨b2 S e hS, fun d hd => ?_⟩
      rw [(X0 d hd).sp, cSp_0]
      omega
  · rw [(X0 d hd.1).am, cAm_0]
    exact Nat.le_refl _
end
