/-! ===== worths of sets, and who wins ===== -/
def sbt (T S : Nat) : Prop := ∀ j, j < 6 → T.testBit j = true → S.testBit j = true
def IsW (b : Nat → Nat) (S w : Nat) : Prop := (∀ T, T < 64 → sbt T S → b T ≤ w) ∧ ∃ T, T < 64 ∧ sbt T S ∧ b T = w
def IsB (A : Nat → Nat → Nat) (X : (Nat → Nat) → Prop) (b : Nat → Nat) : Prop := ∀ S, S < 64 → (∀ d, X d → cSp d = S → cAm A d ≤ b S) ∧ (b S = 0 ∨ ∃ c, X c ∧ cSp c = S ∧ cAm A c = b S)
def WW (A : Nat → Nat → Nat) (X : (Nat → Nat) → Prop) (row : Nat → Int32) : Prop := ∃ b : Nat → Nat, IsB A X b ∧ ∀ S, S < 64 → ∃ w, row S = nI w ∧ w ≤ 1800000 ∧ IsW b S w
def WN (A : Nat → Nat → Nat) (X : (Nat → Nat) → Prop) (row : Nat → Int32) : Prop := ∃ c, X c ∧ (∀ d, X d → btr A c d) ∧ ∀ j, j < 6 → row j = rwc (c j)
section
variable {σ s s2 t : XS9} {A : Nat → Nat → Nat} {X Y : (Nat → Nat) → Prop} {b b2 : Nat → Nat} {S T w w2 k m : Nat} {row row2 : Nat → Int32}
theorem IsB.uniq (h : IsB A X b) (h2 : IsB A X b2) (hS : S < 64) : b S = b2 S := by
  obtain ⟨a1, a2⟩ := h S hS
  obtain ⟨c1, c2⟩ := h2 S hS
  have l1 : b S ≤ b2 S := by
    rcases a2 with z | ⟨c, x1, x2, x3⟩
    · omega
    · rw [← x3]
      exact c1 c x1 x2
  have l2 : b2 S ≤ b S := by
    rcases c2 with z | ⟨c, x1, x2, x3⟩
    · omega
    · rw [← x3]
      exact a1 c x1 x2
  omega
theorem IsW.uniq (h : IsW b S w) (h2 : IsW b2 S w2) (e : ∀ T, T < 64 → b T = b2 T) : w = w2 := by
  obtain ⟨a1, T1, t1, t2, t3⟩ := h
  obtain ⟨c1, T2, u1, u2', u3⟩ := h2
  have l1 := c1 T1 t1 t2
  have l2 := a1 T2 u1 u2'
  rw [← e T1 t1] at l1
  rw [e T2 u1] at l2
  omega
theorem WW.uniq (h : WW A X row) (h2 : WW A X row2) (hS : S < 64) : row S = row2 S := by
  obtain ⟨b, x1, x2⟩ := h
  obtain ⟨b2, y1, y2⟩ := h2
  obtain ⟨w, p1, _, p2⟩ := x2 S hS
  obtain ⟨w2, r1, _, r2⟩ := y2 S hS
  rw [p1, r1, p2.uniq r2 (fun T hT => x1.uniq y1 hT)]
theorem WN.uniq (h : WN A X row) (h2 : WN A X row2) {j : Nat} (hj : j < 6) : row j = row2 j := by
  obtain ⟨c, x1, x2, x3⟩ := h
  obtain ⟨d, y1, y2, y3⟩ := h2
  rw [x3 j hj, y3 j hj, (x2 d y1).anti (y2 c x1) j hj]
theorem WW.iff (h : WW A X row) (e : ∀ d, X d ↔ Y d) : WW A Y row := by
  rw [← show X = Y from funext fun d => propext (e d)]
  exact h
theorem WN.iff (h : WN A X row) (e : ∀ d, X d ↔ Y d) : WN A Y row := by
  rw [← show X = Y from funext fun d => propext (e d)]
  exact h
theorem WW.onto (h : WW A X row) (e : ∀ S, S < 64 → row2 S = row S) : WW A X row2 := by
  obtain ⟨b, x1, x2⟩ := h
  exact ⟨b, x1, fun S hS => by rw [e S hS]; exact x2 S hS⟩
theorem WN.onto (h : WN A X row) (e : ∀ j, j < 6 → row2 j = row j) : WN A X row2 := by
  obtain ⟨c, x1, x2, x3⟩ := h
  exact ⟨c, x1, x2, fun j hj => by rw [e j hj]; exact x3 j hj⟩
/-! bits of sets below 64 -/
theorem bclr_bits (hS : S < 64) (hk : k < 6) : (∀ j, j < 6 → (bclr S k).testBit j = (S.testBit j && decide (j ≠ k))) ∧ bclr S k < 64 ∧ (S.testBit k = true → bclr S k < S ∧ bsub S k = bclr S k) := by
  have : ∀ S, S < 64 → ∀ k, k < 6 → (∀ j, j < 6 → (bclr S k).testBit j = (S.testBit j && decide (j ≠ k))) ∧ bclr S k < 64 ∧ (S.testBit k = true → bclr S k < S ∧ bsub S k = bclr S k) := by decide +kernel
  exact this S hS k hk
theorem tst_m (hS : S < 64) (hk : k < 6) : (((nI S) >>> ((nI k) &&& 31)) &&& 1) = 1 ↔ S.testBit k = true := by
  have : ∀ S, S < 64 → ∀ k, k < 6 → ((((nI S) >>> ((nI k) &&& 31)) &&& 1) = 1 ↔ S.testBit k = true) := by decide +kernel
  exact this S hS k hk
theorem tst_c (hS : S < 64) (hk : k < 6) : ((nI S) &&& (1 <<< ((nI k) &&& 31))) = 0 ↔ S.testBit k = false := by
  have : ∀ S, S < 64 → ∀ k, k < 6 → (((nI S) &&& (1 <<< ((nI k) &&& 31))) = 0 ↔ S.testBit k = false) := by decide +kernel
  exact this S hS k hk
theorem eq_bits (hS : S < 64) (hT : T < 64) (h : ∀ j, j < 6 → T.testBit j = S.testBit j) : T = S := by
  refine Nat.eq_of_testBit_eq fun j => ?_
  rcases Nat.lt_or_ge j 6 with l | l
  · exact h j l
  · have p : 64 ≤ 2 ^ j := Nat.pow_le_pow_right (n := 2) (by decide) l
    rw [Nat.testBit_lt_two_pow (by omega), Nat.testBit_lt_two_pow (by omega)]
/-- what a set is worth after m of its members were looked at -/
def Wm (b : Nat → Nat) (S m w : Nat) : Prop := (∀ T, T < 64 → sbt T S → (T = S ∨ ∃ k, k < m ∧ S.testBit k = true ∧ T.testBit k = false) → b T ≤ w) ∧ ∃ T, T < 64 ∧ sbt T S ∧ b T = w
theorem Wm.start (hS : S < 64) : Wm b S 0 (b S) := ⟨fun T _ _ h => by
  rcases h with h | ⟨k, hk, _⟩
  · rw [h]
    exact Nat.le_refl _
  · omega, S, hS, fun _ _ h => h, rfl⟩
theorem Wm.skip (h : Wm b S m w) (hb : S.testBit m = false) : Wm b S (m + 1) w := ⟨fun T h1 h2 h3 => h.1 T h1 h2 (h3.elim .inl fun ⟨k, k1, k2, k3⟩ => .inr ⟨k, by
  by_cases e : k = m
  · rw [e, hb] at k2
    cases k2
  · omega, k2, k3⟩), h.2⟩
theorem Wm.more (h : Wm b S m w) (hS : S < 64) (hm : m < 6) (hb : S.testBit m = true) (h2 : IsW b (bclr S m) w2) : Wm b S (m + 1) (if w < w2 then w2 else w) := by
  obtain ⟨b1, b2, b3⟩ := bclr_bits hS hm
  have up : ∀ T, sbt T (bclr S m) → sbt T S := fun T hT j hj ht => by
    have := hT j hj ht
    rw [b1 j hj] at this
    exact (Bool.and_eq_true_iff.mp this).1
  have key : ∀ T, T < 64 → sbt T S → (T = S ∨ ∃ k, k < m + 1 ∧ S.testBit k = true ∧ T.testBit k = false) → b T ≤ w ∨ b T ≤ w2 := fun T t1 t2 t3 => by
    rcases t3 with t3 | ⟨k, k1, k2, k3⟩
    · exact .inl (h.1 T t1 t2 (.inl t3))
    · by_cases e : k = m
      · subst e
        refine .inr (h2.1 T t1 fun j hj ht => ?_)
        rw [b1 j hj, t2 j hj ht]
        have : j ≠ k := fun z => by
          rw [z, k3] at ht
          cases ht
        simp [this]
      · exact .inl (h.1 T t1 t2 (.inr ⟨k, by omega, k2, k3⟩))
  by_cases l : w < w2
  · rw [if_pos l]
    refine ⟨fun T t1 t2 t3 => by have := key T t1 t2 t3; omega, ?_⟩
    obtain ⟨_, T, t1, t2, t3⟩ := h2
    exact ⟨T, t1, up T t2, t3⟩
  · rw [if_neg l]
    exact ⟨fun T t1 t2 t3 => by have := key T t1 t2 t3; omega, h.2⟩
theorem Wm.fin (h : Wm b S 6 w) (hS : S < 64) : IsW b S w := ⟨fun T h1 h2 => by
  refine h.1 T h1 h2 ?_
  by_cases e : T = S
  · exact .inl e
  · refine .inr (Classical.byContradiction fun n => e (eq_bits hS h1 fun j hj => ?_))
    cases hs : S.testBit j with
    | true =>
      cases ht : T.testBit j with
      | true => rfl
      | false => exact absurd ⟨j, hj, hs, ht⟩ n
    | false =>
      cases ht : T.testBit j with
      | true => rw [h2 j hj ht] at hs; cases hs
      | false => rfl, h.2⟩
/-- the reference's sets -/
theorem clo_m (h : ∀ S, S < 64 → s 9003 S = nI (b S) ∧ b S ≤ 1800000) : (∀ S, S < 64 → ∃ w, x_CinitA_138 σ s 9003 S = nI w ∧ w ≤ 1800000 ∧ IsW b S w) ∧ ∀ a, a ≠ 9003 → x_CinitA_138 σ s a = s a := by
  have H := xit_ind (step := fun i138 s138 => (x_CinitA_149 σ i138 s138)) (fun i s2 => (∀ S, S < 64 → S < i → ∃ w, s2 9003 S = nI w ∧ w ≤ 1800000 ∧ IsW b S w) ∧ (∀ S, S < 64 → i ≤ S → s2 9003 S = nI (b S)) ∧ ∀ a, a ≠ 9003 → s2 a = s a) (N := 64) (fun i s2 hi hP => ?_) 64 0 s rfl ⟨fun S _ h => absurd h (by omega), fun S hS _ => (h S hS).1, fun _ _ => rfl⟩
  · exact ⟨fun S hS => H.1 S hS hS, H.2.2⟩
  · obtain ⟨p1, p2, p3⟩ := hP
    have G := xit_ind (step := fun i149 (s149 : XS9) => (if (((nI i) >>> ((nI i149) &&& 31)) &&& 1) = 1 then u2 s149 9003 i (if (s149 9003 i) < (s149 9003 (bclr i i149)) then (s149 9003 (bclr i i149)) else (s149 9003 i)) else s149)) (fun m s3 => (∃ w, s3 9003 i = nI w ∧ w ≤ 1800000 ∧ Wm b i m w) ∧ (∀ S, S ≠ i → s3 9003 S = s2 9003 S) ∧ ∀ a, a ≠ 9003 → s3 a = s2 a) (N := 6) (fun m s3 hm hQ => ?_) 6 0 s2 rfl ⟨⟨b i, p2 i hi (Nat.le_refl _), (h i hi).2, Wm.start hi⟩, fun _ _ => rfl, fun _ _ => rfl⟩
    · obtain ⟨⟨w, g1, g2, g3⟩, g4, g5⟩ := G
      refine ⟨fun S hS hl => ?_, fun S hS hl => ?_, fun a ha => ?_⟩
      · by_cases e : S = i
        · rw [e]
          exact ⟨w, g1, g2, g3.fin hi⟩
        · show ∃ w, x_CinitA_149 σ i s2 9003 S = nI w ∧ _
          rw [show x_CinitA_149 σ i s2 9003 S = s2 9003 S from g4 S e]
          exact p1 S hS (by omega)
      · show x_CinitA_149 σ i s2 9003 S = _
        rw [show x_CinitA_149 σ i s2 9003 S = s2 9003 S from g4 S (by omega)]
        exact p2 S hS (by omega)
      · exact (g5 a ha).trans (p3 a ha)
    · obtain ⟨⟨w, g1, g2, g3⟩, g4, g5⟩ := hQ
      (try dsimp only)
      cases hb : i.testBit m with
      | false =>
        rw [if_neg (fun z => by rw [(tst_m hi hm).mp z] at hb; cases hb)]
        exact ⟨⟨w, g1, g2, g3.skip hb⟩, g4, g5⟩
      | true =>
        rw [if_pos ((tst_m hi hm).mpr hb)]
        obtain ⟨b1, b2, b3⟩ := bclr_bits hi hm
        have b4 := (b3 hb).1
        obtain ⟨w2, r1, r2, r3⟩ := p1 (bclr i m) b2 b4
        rw [g4 (bclr i m) (by omega), g1, r1]
        refine ⟨⟨if w < w2 then w2 else w, ?_, by split <;> omega, g3.more hi hm hb r3⟩, fun S hS => ?_, fun a ha => ?_⟩
        · rw [u2_at]
          by_cases l : w < w2
          · rw [if_pos l, if_pos ((nlt (by omega) (by omega)).mpr l)]
          · rw [if_neg l, if_neg (fun z => l ((nlt (by omega) (by omega)).mp z))]
        · rw [u2_oi hS]
          exact g4 S hS
        · rw [u2_ne ha]
          exact g5 a ha
/-- one set's worth -/
theorem worth_c {y : Int32} {v : Nat} (hS : S < 64) (hv : y = nI v) (hv2 : v ≤ 1800000) (hb : b S = v) (h : ∀ T, T < S → ∃ w, σ 1041 T = nI w ∧ w ≤ 1800000 ∧ IsW b T w) : ∃ w, x_worthOf_26 σ S y = nI w ∧ w ≤ 1800000 ∧ IsW b S w := by
  have G := xit_ind (step := fun i26 (s26 : Int32) => (if ((nI S) &&& (1 <<< ((nI i26) &&& 31))) = 0 then s26 else if s26 < (σ 1041 (bsub S i26)) then (σ 1041 (bsub S i26)) else s26)) (fun m s3 => ∃ w, s3 = nI w ∧ w ≤ 1800000 ∧ Wm b S m w) (N := 6) (fun m s3 hm hQ => ?_) 6 0 y rfl ⟨v, hv, hv2, by rw [← hb]; exact Wm.start hS⟩
  · obtain ⟨w, g1, g2, g3⟩ := G
    exact ⟨w, g1, g2, g3.fin hS⟩
  · obtain ⟨w, g1, g2, g3⟩ := hQ
    (try dsimp only)
    cases hb2 : S.testBit m with
    | false =>
      rw [if_pos ((tst_c hS hm).mpr hb2)]
      exact ⟨w, g1, g2, g3.skip hb2⟩
    | true =>
      rw [if_neg (fun z => by rw [(tst_c hS hm).mp z] at hb2; cases hb2)]
      obtain ⟨b1, b2, b3⟩ := bclr_bits hS hm
      obtain ⟨b4, b5⟩ := b3 hb2
      obtain ⟨w2, r1, r2, r3⟩ := h (bclr S m) b4
      rw [b5, g1, r1]
      refine ⟨if w < w2 then w2 else w, ?_, by split <;> omega, g3.more hS hm hb2 r3⟩
      by_cases l : w < w2
      · rw [if_pos l, if_pos ((nlt (by omega) (by omega)).mpr l)]
      · rw [if_neg l, if_neg (fun z => l ((nlt (by omega) (by omega)).mp z))]
/-! the program's winners -/
def ouX (X : (Nat → Nat) → Prop) (o : Int32) (d : Nat → Nat) : Prop := X d ∧ ∀ j, j < 6 → d j ≠ 0 → bt o j = false
theorem bt_lo {S j : Nat} (hS : S < 64) (hj : j < 32) : bt (nI S) j = S.testBit j := by
  show (BitVec.ofNat 32 S).getLsbD j = _
  rw [BitVec.getLsbD_ofNat, decide_eq_true hj, Bool.true_and]
theorem ou_and {d : Nat → Nat} {o : Int32} : ((nI (cSp d)) &&& o) = 0 ↔ ∀ j, j < 6 → d j ≠ 0 → bt o j = false := by
  rw [b_dis]
  refine ⟨fun h j hj hn => h j (by omega) ?_, fun h i hi hb => ?_⟩
  · rw [bt_lo cSp_lt (by omega), cSp_bit hj]
    simp [hn]
  · rw [bt_lo cSp_lt hi] at hb
    rcases Nat.lt_or_ge i 6 with l | l
    · rw [cSp_bit l] at hb
      exact h i l (of_decide_eq_true hb)
    · have p : 64 ≤ 2 ^ i := Nat.pow_le_pow_right (n := 2) (by decide) l
      have q := cSp_lt (c := d)
      rw [Nat.testBit_lt_two_pow (by omega)] at hb
      cases hb
/-- what a set of its own is worth on the program's side -/
def bsC (s : XS9) (S : Nat) : Nat := if ((nI S) &&& (s 1003 5)) = 0 then (if 0 < (s 1042 S) then cn (s 1042 S) else 0) else 0
theorem bsC_ok (h : BOc A X s) (hm : ∀ d, X d → cAm A d ≤ 1800000) : IsB A (ouX X (s 1003 5)) (bsC s) ∧ ∀ S, S < 64 → bsC s S ≤ 1800000 ∧ (if ((nI S) &&& (s 1003 5)) = 0 then (if 0 < (s 1042 S) then (s 1042 S) else 0) else 0) = nI (bsC s S) := by
  have key : ∀ S, S < 64 → (((nI S) &&& (s 1003 5)) = 0 → (s 1042 S = -1 ∧ bsC s S = 0 ∧ ∀ c, X c → cSp c ≠ S) ∨ ∃ c, X c ∧ cSp c = S ∧ s 1042 S = nI (cAm A c) ∧ cAm A c ≤ 1800000 ∧ bsC s S = cAm A c ∧ ∀ d, X d → cSp d = S → btr A c d) := fun S hS ho => by
    rcases h S hS with ⟨a, b⟩ | ⟨c, a, b, e, _, g⟩
    · refine .inl ⟨a, ?_, b⟩
      unfold bsC
      rw [if_pos ho, a]
      rfl
    · have m := hm c a
      refine .inr ⟨c, a, b, e, m, ?_, g⟩
      unfold bsC
      rw [if_pos ho, e]
      by_cases z : 0 < cAm A c
      · rw [if_pos (show (0 : Int32) < nI (cAm A c) from (nlt (a := 0) (by omega) (by omega)).mpr z), cn_nI (by omega)]
      · rw [if_neg (show ¬ (0 : Int32) < nI (cAm A c) from fun y => z ((nlt (a := 0) (by omega) (by omega)).mp y))]
        omega
  refine ⟨fun S hS => ?_, fun S hS => ?_⟩
  · by_cases ho : ((nI S) &&& (s 1003 5)) = 0
    · rcases key S hS ho with ⟨a, b, e⟩ | ⟨c, a, b, e, m, f, g⟩
      · rw [b]
        exact ⟨fun d hd hs => absurd hs (e d hd.1), .inl rfl⟩
      · rw [f]
        refine ⟨fun d hd hs => (g d hd.1 hs).le, .inr ⟨c, ⟨a, ou_and.mp (by rw [b]; exact ho)⟩, b, rfl⟩⟩
    · rw [show bsC s S = 0 from if_neg ho]
      refine ⟨fun d hd hs => absurd (ou_and.mpr hd.2) (by rw [hs]; exact ho), .inl rfl⟩
  · by_cases ho : ((nI S) &&& (s 1003 5)) = 0
    · rw [if_pos ho]
      rcases key S hS ho with ⟨a, b, e⟩ | ⟨c, a, b, e, m, f, g⟩
      · rw [b, a]
        exact ⟨by omega, rfl⟩
      · rw [f, e]
        refine ⟨m, ?_⟩
        by_cases z : 0 < cAm A c
        · rw [if_pos (show (0 : Int32) < nI (cAm A c) from (nlt (a := 0) (by omega) (by omega)).mpr z)]
        · rw [if_neg (show ¬ (0 : Int32) < nI (cAm A c) from fun y => z ((nlt (a := 0) (by omega) (by omega)).mp y)), show cAm A c = 0 by omega]
          rfl
    · rw [if_neg ho, show bsC s S = 0 from if_neg ho]
      exact ⟨by omega, rfl⟩
theorem find_w (h : BOc A X s) (hX : ∀ d, X d → (∀ j, j < 6 → d j ≤ 6) ∧ cAm A d ≤ 1800000) (h0 : ∃ c, X c ∧ cSp c = 0) : WN A (ouX X (s 1003 5)) (g_findWinners s 1040) ∧ WW A (ouX X (s 1003 5)) (g_findWinners s 1041) := by
  obtain ⟨B1, B2⟩ := bsC_ok h fun d hd => (hX d hd).2
  obtain ⟨c0, z1, z2⟩ := h0
  have z3 : ∃ c, ouX X (s 1003 5) c ∧ cSp c = 0 ∧ s 1042 0 = nI (cAm A c) ∧ ∀ j, j < 6 → s 1051 j = rwc (c j) := by
    rcases h 0 (by decide) with ⟨a, b⟩ | ⟨c, a, b, e, f, g⟩
    · exact absurd z2 (b c0 z1)
    · refine ⟨c, ⟨a, ou_and.mp ?_⟩, b, e, f⟩
      rw [b]
      exact Int32.zero_and
  have H := xit_ind (step := fun i4 (s4 : XS9 × Nat) => (if ((nI i4) &&& (s4.1 1003 5)) = 0 then (if (s4.1 1042 i4) = (-1) then (u2 s4.1 1041 i4 (f_worthOf s4.1 i4), s4.2) else (if (s4.1 1042 s4.2) < (s4.1 1042 i4) then (u2 s4.1 1041 i4 (f_worthOf s4.1 i4), i4) else (if (s4.1 1042 i4) = (s4.1 1042 s4.2) then (if (f_isAhead (s4.1 (1051 + i4)) (s4.1 (1051 + s4.2))) = 0 then (u2 s4.1 1041 i4 (f_worthOf s4.1 i4), s4.2) else (u2 s4.1 1041 i4 (f_worthOf s4.1 i4), i4)) else (u2 s4.1 1041 i4 (f_worthOf s4.1 i4), s4.2)))) else (u2 s4.1 1041 i4 (f_worthOf s4.1 i4), s4.2)))
    (fun i p => (∀ S, S < i → ∃ w, p.1 1041 S = nI w ∧ w ≤ 1800000 ∧ IsW (bsC s) S w) ∧ (∀ a, a ≠ 1041 → p.1 a = s a) ∧ p.2 < 64 ∧ ∃ c, ouX X (s 1003 5) c ∧ s 1042 p.2 = nI (cAm A c) ∧ (∀ j, j < 6 → s (1051 + p.2) j = rwc (c j)) ∧ ∀ d, ouX X (s 1003 5) d → cSp d < i → btr A c d) (N := 64) (fun i p hi hP => ?_) 64 0 (s, 0) rfl ⟨fun S hS => absurd hS (by omega), fun _ _ => rfl, (show (0 : Nat) < 64 by decide), ?_⟩
  · obtain ⟨p1, p2, p3, c, p4, p5, p6, p7⟩ := H
    have e41 : g_findWinners s 1041 = (x_findWinners_4 s (s, 0)).1 1041 := by
      unfold g_findWinners
      rw [uR_ne (by decide)]
    refine ⟨⟨c, p4, fun d hd => p7 d hd cSp_lt, fun j hj => ?_⟩, bsC s, B1, fun S hS => ?_⟩
    · unfold g_findWinners
      rw [uR_eq, cpy_lo hj, show (x_findWinners_4 s (s, 0)).1 (1051 + (x_findWinners_4 s (s, 0)).2) = s (1051 + (x_findWinners_4 s (s, 0)).2) from p2 _ (by have : (x_findWinners_4 s (s, 0)).2 < 64 := p3; omega)]
      exact p6 j hj
    · rw [e41]
      exact p1 S hS
  · obtain ⟨p1, p2, p3, c, p4, p5, p6, p7⟩ := hP
    have wo : ∃ w, f_worthOf p.1 i = nI w ∧ w ≤ 1800000 ∧ IsW (bsC s) i w := by
      obtain ⟨q1, q2⟩ := B2 i hi
      unfold f_worthOf
      rw [p2 1003 (by decide), p2 1042 (by decide)]
      by_cases ho : ((nI i) &&& (s 1003 5)) = 0
      · rw [if_pos ho] at q2 ⊢
        exact worth_c hi q2 q1 rfl p1
      · rw [if_neg ho] at q2 ⊢
        exact worth_c hi q2 q1 rfl p1
    obtain ⟨w, w1, w2, w3⟩ := wo
    have wp : ∀ S, S < i + 1 → ∃ w, u2 p.1 1041 i (f_worthOf p.1 i) 1041 S = nI w ∧ w ≤ 1800000 ∧ IsW (bsC s) S w := fun S hS => by
      by_cases e : S = i
      · rw [e, u2_at]
        exact ⟨w, w1, w2, w3⟩
      · rw [u2_oi e]
        exact p1 S (by omega)
    have fr : ∀ a, a ≠ 1041 → u2 p.1 1041 i (f_worthOf p.1 i) a = s a := fun a ha => by
      rw [u2_ne ha]
      exact p2 a ha
    have stay : (∀ d, ouX X (s 1003 5) d → cSp d = i → btr A c d) → (∀ S, S < i + 1 → ∃ w, (u2 p.1 1041 i (f_worthOf p.1 i), p.2).1 1041 S = nI w ∧ w ≤ 1800000 ∧ IsW (bsC s) S w) ∧ (∀ a, a ≠ 1041 → (u2 p.1 1041 i (f_worthOf p.1 i), p.2).1 a = s a) ∧ (u2 p.1 1041 i (f_worthOf p.1 i), p.2).2 < 64 ∧ ∃ c, ouX X (s 1003 5) c ∧ s 1042 (u2 p.1 1041 i (f_worthOf p.1 i), p.2).2 = nI (cAm A c) ∧ (∀ j, j < 6 → s (1051 + (u2 p.1 1041 i (f_worthOf p.1 i), p.2).2) j = rwc (c j)) ∧ ∀ d, ouX X (s 1003 5) d → cSp d < i + 1 → btr A c d := fun hn => ⟨wp, fr, p3, c, p4, p5, p6, fun d hd hl => by
      by_cases e : cSp d = i
      · exact hn d hd e
      · exact p7 d hd (by omega)⟩
    have go : ∀ c1, ouX X (s 1003 5) c1 → s 1042 i = nI (cAm A c1) → (∀ j, j < 6 → s (1051 + i) j = rwc (c1 j)) → btr A c1 c → (∀ d, ouX X (s 1003 5) d → cSp d = i → btr A c1 d) → (∀ S, S < i + 1 → ∃ w, (u2 p.1 1041 i (f_worthOf p.1 i), i).1 1041 S = nI w ∧ w ≤ 1800000 ∧ IsW (bsC s) S w) ∧ (∀ a, a ≠ 1041 → (u2 p.1 1041 i (f_worthOf p.1 i), i).1 a = s a) ∧ (u2 p.1 1041 i (f_worthOf p.1 i), i).2 < 64 ∧ ∃ c, ouX X (s 1003 5) c ∧ s 1042 (u2 p.1 1041 i (f_worthOf p.1 i), i).2 = nI (cAm A c) ∧ (∀ j, j < 6 → s (1051 + (u2 p.1 1041 i (f_worthOf p.1 i), i).2) j = rwc (c j)) ∧ ∀ d, ouX X (s 1003 5) d → cSp d < i + 1 → btr A c d := fun c1 a1 a2 a3 a4 a5 => ⟨wp, fr, hi, c1, a1, a2, a3, fun d hd hl => by
      by_cases e : cSp d = i
      · exact a5 d hd e
      · exact a4.trans (p7 d hd (by omega))⟩
    (try dsimp only)
    rw [p2 1003 (by decide), p2 1042 (by decide), p2 (1051 + i) (by omega), p2 (1051 + p.2) (by omega)]
    by_cases ho : ((nI i) &&& (s 1003 5)) = 0
    · rw [if_pos ho]
      rcases h i hi with ⟨a, b⟩ | ⟨c1, a, b, e, f, g⟩
      · rw [if_pos a]
        exact stay fun d hd hs => absurd hs (b d hd.1)
      · have a1 : ouX X (s 1003 5) c1 := ⟨a, ou_and.mp (by rw [b]; exact ho)⟩
        have m1 := (hX c1 a).2
        have mc := (hX c p4.1).2
        have g1 : ∀ d, ouX X (s 1003 5) d → cSp d = i → btr A c1 d := fun d hd hs => g d hd.1 hs
        rw [if_neg (show ¬ s 1042 i = -1 from fun z => m1_ne (a := cAm A c1) (by omega) (z.symm.trans e))]
        by_cases l : cAm A c < cAm A c1
        · rw [if_pos (show s 1042 p.2 < s 1042 i by rw [p5, e]; exact (nlt (by omega) (by omega)).mpr l)]
          exact go c1 a1 e f (.inl l) g1
        · rw [if_neg (show ¬ s 1042 p.2 < s 1042 i by rw [p5, e]; exact fun z => l ((nlt (by omega) (by omega)).mp z))]
          by_cases l2 : cAm A c1 = cAm A c
          · rw [if_pos (show s 1042 i = s 1042 p.2 by rw [p5, e, l2])]
            have ah := ahead_eq (f := s (1051 + i)) (g := s (1051 + p.2)) (c := c1) (d := c) (fun j hj => ⟨f j hj, (hX c1 a).1 j hj⟩) (fun j hj => ⟨p6 j hj, (hX c p4.1).1 j hj⟩)
            by_cases l3 : lx c1 c
            · rw [if_neg (fun z => ah.mp z l3)]
              exact go c1 a1 e f (.inr ⟨l2.symm, fun z => lx_asym l3 z⟩) g1
            · rw [if_pos (ah.mpr l3)]
              exact stay fun d hd hs => (show btr A c c1 from .inr ⟨l2, l3⟩).trans (g1 d hd hs)
          · rw [if_neg (show ¬ s 1042 i = s 1042 p.2 by rw [p5, e]; exact fun z => l2 (nI_j (by omega) (by omega) z))]
            exact stay fun d hd hs => (show btr A c c1 from .inl (by omega)).trans (g1 d hd hs)
    · rw [if_neg ho]
      exact stay fun d hd hs => absurd (ou_and.mpr hd.2) (by rw [hs]; exact ho)
  · obtain ⟨c, a1, a2, a3, a4⟩ := z3
    exact ⟨c, a1, a3, a4, fun d _ hl => absurd hl (by omega)⟩
end
