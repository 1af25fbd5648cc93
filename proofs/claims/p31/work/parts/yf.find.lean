/-! ===== amounts, blocks and payments of the winners ===== -/
section
variable {τ σ s t : XS9} {D : Nat → Nat → Nat → Nat} {A : Nat → Nat → Nat} {q pk : Nat → Nat} {cap R B j r : Nat} {X : (Nat → Nat) → Prop} {c d : Nat → Nat}
theorem rwc_at {v : Nat} (hv : v ≤ 6) : (v = 0 → rwc v < 0) ∧ (v ≠ 0 → ¬ rwc v < 0 ∧ ¬ 6 ≤ rwc v ∧ cn (rwc v) = v - 1 ∧ ¬ rwc v = -1) := by
  have : ∀ v : Fin 7, (v.1 = 0 → rwc v.1 < 0) ∧ (v.1 ≠ 0 → ¬ rwc v.1 < 0 ∧ ¬ 6 ≤ rwc v.1 ∧ cn (rwc v.1) = v.1 - 1 ∧ ¬ rwc v.1 = -1) := by decide +kernel
  exact this ⟨v, by omega⟩
theorem won_c (P : PCx D A q cap R pk s) (hp6 : ∀ j, j < 6 → pk j ≤ 6) (hc : cOk pk c) (hrow : s 1040 j = rwc (c j)) (hj : j < 6) : f_amountWon s j = nI (cAd A c j) ∧ ∀ r, r < R → r < 5 → f_blocksWon s j r = nI (cDg D r c j) := by
  have h1 := hc j hj
  have h6 := hp6 j hj
  obtain ⟨v1, v2⟩ := rwc_at (v := c j) (by omega)
  unfold f_amountWon f_blocksWon cAd cDg
  rw [hrow]
  by_cases e : c j = 0
  · rw [if_pos (v1 e), if_pos e]
    refine ⟨rfl, fun r hr hr5 => ?_⟩
    rw [if_pos (v1 e), if_pos e]
    rfl
  · obtain ⟨w1, w2, w3, w4⟩ := v2 e
    obtain ⟨d1, d2, d3, d4⟩ := P.2.2 j hj (c j - 1) (by omega)
    have w3 : Int32.toNatClampNeg (rwc (c j)) = c j - 1 := w3
    rw [if_neg w1, if_neg w2, if_neg e, w3]
    refine ⟨d3, fun r hr hr5 => ?_⟩
    rw [if_neg w1, if_neg w2, if_neg e, d2 r hr]
    exact many_d d1 hr5
theorem won_m (hrow : t 9001 j = rwc (c j)) (hc : c j ≤ 6) (ha : c j ≠ 0 → t (5030 + j) (2 * (c j - 1) + 1) = nI (A j (c j - 1))) : f_Camount t j = nI (cAd A c j) ∧ (t 9001 j = -1 → cAd A c j = 0) := by
  obtain ⟨v1, v2⟩ := rwc_at hc
  unfold f_Camount cAd f_Bamount
  rw [hrow]
  by_cases e : c j = 0
  · rw [if_pos (show rwc (c j) = -1 by rw [e]; rfl), if_pos e]
    exact ⟨rfl, fun _ => rfl⟩
  · obtain ⟨w1, w2, w3, w4⟩ := v2 e
    rw [if_neg w4, if_neg e, w3]
    exact ⟨ha e, fun z => absurd z w4⟩
/-- both find the same payments -/
theorem pay_eq (hw : WN A X (s 1040)) (hv : WW A X (s 1041)) (P : PCx D A q cap R pk s) (hp6 : ∀ j, j < 6 → pk j ≤ 6) (hB6 : B ≤ 6) (hpk : ∀ j, B ≤ j → j < 6 → pk j = 0) (hX : ∀ d, X d → cOk pk d ∧ ∀ i, i < 6 → X (cUp d i 0)) (t1 : ∀ j, j < 6 → t 9001 j = s 1040 j) (t3 : ∀ S, S < 64 → t 9003 S = s 1041 S) (ta : ∀ j, j < B → ∀ k, k < pk j → t (5030 + j) (2 * k + 1) = nI (A j k)) : ∃ W a p1 p2 : Nat → Nat, FWs W a B ∧ (∀ j, j < 6 → f_amountWon s j = nI (a j) ∧ (t 9001 j = -1 → a j = 0)) ∧ (∀ j, j < B → f_Camount t j = nI (a j)) ∧ (∀ S, S < 64 → s 1041 S = nI (W S)) ∧ (∀ j, j < 6 → (g_find s 1131 j = nI (a j) ∧ g_find s 1132 j = nI (p1 j) ∧ g_find s 1133 j = nI (p2 j)) ∧ p1 j ≤ a j ∧ p2 j ≤ a j) ∧ ∀ j, j < 6 → g_Cpay t 0 20000 B 20000 j = nI (a j) ∧ g_Cpay t 1 20000 B 20000 j = nI (p1 j) ∧ g_Cpay t 2 20000 B 20000 j = nI (p2 j) := by
  obtain ⟨c, c1, c2, c3⟩ := hw
  have xx : ∀ d, X d → (∀ j, B ≤ j → j < 6 → d j = 0) ∧ (∀ j, j < 6 → cAd A d j ≤ 300000) ∧ ∀ i, i < 6 → X (cUp d i 0) := fun d hd => by
    have h1 := (hX d hd).1
    refine ⟨fun j a b => ?_, fun j hj => ?_, (hX d hd).2⟩
    · have := h1 j b
      rw [hpk j a b] at this
      omega
    · unfold cAd
      split
      · exact Nat.zero_le _
      · have := h1 j hj
        exact (P.2.2 j hj (d j - 1) (by omega)).2.2.2
  obtain ⟨hF, hW⟩ := FWs.of (B := B) hB6 c1 c2 hv xx
  have ok := (hX c c1).1
  have c6 : ∀ j, j < 6 → c j ≤ 6 := fun j hj => Nat.le_trans (ok j hj) (hp6 j hj)
  have hac : ∀ j, j < 6 → f_amountWon s j = nI (cAd A c j) := fun j hj => (won_c P hp6 ok (c3 j hj) hj).1
  have wm : ∀ j, j < 6 → j < B → f_Camount t j = nI (cAd A c j) ∧ (t 9001 j = -1 → cAd A c j = 0) := fun j hj hjB => won_m (by rw [t1 j hj]; exact c3 j hj) (c6 j hj) (fun hn => ta j hjB _ (by have := ok j hj; omega))
  have hn : ∀ j, j < 6 → t 9001 j = -1 → cAd A c j = 0 := fun j hj e => by
    rcases Nat.lt_or_ge j B with l | l
    · exact (wm j hj l).2 e
    · exact hF.2.2.2 j l hj
  obtain ⟨p1, p2, q1, q2⟩ := pay_all (σ := s) (t := t) (qa := 20000) (B := B) hF hB6 (Nat.le_refl _) (fun j hj => (t1 j hj).symm) hn (fun j h1 h2 => by
    rw [t1 j h2, c3 j h2, (xx c c1).1 j h1 h2]
    rfl) hac (fun j hj => (wm j (by omega) hj).1) hW (fun S hS => (t3 S hS).trans (hW S hS))
  exact ⟨_, _, p1, p2, hF, fun j hj => ⟨hac j hj, hn j hj⟩, fun j hj => (wm j (by omega) hj).1, hW, q1, q2⟩
theorem ouX_dn (h : ouX (Xm τ) (σ 1003 5) d) : cOk (pkB τ) d ∧ ∀ i, i < 6 → ouX (Xm τ) (σ 1003 5) (cUp d i 0) := by
  refine ⟨h.1.1, fun i hi => ⟨⟨fun j hj => ?_, cLe_fe (d := d) (fun j hj => ?_) h.1.2⟩, fun j hj hn => ?_⟩⟩
  · by_cases e : j = i
    · rw [e, cUp_at]
      exact Nat.zero_le _
    · rw [cUp_ne e]
      exact h.1.1 j hj
  · by_cases e : j = i
    · rw [e, cUp_at]
      exact .inl rfl
    · rw [cUp_ne e]
      exact .inr rfl
  · by_cases e : j = i
    · rw [e, cUp_at] at hn
      exact absurd rfl hn
    · rw [cUp_ne e] at hn
      exact h.2 j hj hn
theorem Cpay3 {v : Nat → Nat → Nat} {w : Nat} (hw : w < 3) {s9 t9 : XS9} {B2 : Nat} {a p1 p2 : Nat → Nat} (h1 : ∀ j, j < 6 → (s9 1131 j = nI (a j) ∧ s9 1132 j = nI (p1 j) ∧ s9 1133 j = nI (p2 j))) (h2 : ∀ j, j < 6 → g_Cpay t9 0 20000 B2 20000 j = nI (a j) ∧ g_Cpay t9 1 20000 B2 20000 j = nI (p1 j) ∧ g_Cpay t9 2 20000 B2 20000 j = nI (p2 j)) {j : Nat} (hj : j < 6) : s9 (1131 + w) j = g_Cpay t9 w 20000 B2 20000 j := by
  match w, hw with
  | 0, _ => exact (h1 j hj).1.trans (h2 j hj).1.symm
  | 1, _ => exact (h1 j hj).2.1.trans (h2 j hj).2.1.symm
  | 2, _ => exact (h1 j hj).2.2.trans (h2 j hj).2.2.symm
/-- what is found is what the rows of winners and amounts ask -/
theorem MKW.find (w : MKW τ σ) (P : PCx (Dm τ) (Am τ) q cap R (pkB τ) σ) (hp6 : ∀ j, j < 6 → pkB τ j ≤ 6) : ∀ v, v < 3 → ∀ j, j < 6 → g_find σ (1131 + v) j = g_Cpay (tC σ) v 20000 6 20000 j := fun v hv j hj => by
  obtain ⟨W, a, p1, p2, _, _, _, _, h1, h2⟩ := pay_eq (B := 6) (t := tC σ) w.1 w.2 P hp6 (Nat.le_refl _) (fun j h1 h2 => by omega) (fun d hd => ouX_dn hd) (fun j _ => if_pos rfl) (fun S _ => by
    unfold tC
    rw [if_neg (by decide), if_pos rfl]) (fun j hj k hk => by
    unfold tC
    rw [if_neg (by omega), if_neg (by omega), if_pos (by omega), show 5030 + j - 5030 = j by omega, show (2 * k + 1) / 2 = k by omega]
    exact (P.2.2 j hj k hk).2.2.1)
  exact Cpay3 (v := fun _ _ => 0) hv (fun j hj => (h1 j hj).1) h2 hj
theorem PYQ.found (w : MKW τ σ) (P : PCx (Dm τ) (Am τ) q cap R (pkB τ) σ) (hp6 : ∀ j, j < 6 → pkB τ j ≤ 6) : PYQ (g_find σ) := fun v hv j hj => by
  rw [w.find P hp6 v hv j hj, tC_same (σ := σ) (σ2 := g_find σ) fun q i hq => by rw [fr_find ⟨by omega, by omega, by omega⟩]]
/-- the reference's payments by a state with the same winners, worths and packages -/
theorem PYQ.same (h : PYQ σ) (w : MKW τ σ) (P : PCx (Dm τ) (Am τ) q cap R (pkB τ) σ) (hp6 : ∀ j, j < 6 → pkB τ j ≤ 6) (hB6 : mB τ ≤ 6) (t1 : ∀ j, j < 6 → t 9001 j = σ 1040 j) (t3 : ∀ S, S < 64 → t 9003 S = σ 1041 S) (ta : ∀ j, j < mB τ → ∀ k, k < pkB τ j → t (5030 + j) (2 * k + 1) = nI (Am τ j k)) : ∃ W a : Nat → Nat, ∃ p : Nat → Nat → Nat, FWs W a (mB τ) ∧ (∀ j, j < 6 → f_amountWon σ j = nI (a j) ∧ (t 9001 j = -1 → a j = 0)) ∧ (∀ j, j < mB τ → f_Camount t j = nI (a j)) ∧ (∀ S, S < 64 → σ 1041 S = nI (W S)) ∧ (∀ j, j < 6 → σ 1131 j = nI (a j)) ∧ ∀ v, v < 3 → ∀ j, j < 6 → σ (1131 + v) j = nI (p v j) ∧ p v j ≤ a j ∧ g_Cpay t v 20000 (mB τ) 20000 j = nI (p v j) := by
  obtain ⟨W, a, p1, p2, h1, h2, h3, h4, h5, h6⟩ := pay_eq (B := mB τ) (t := t) w.1 w.2 P hp6 hB6 (fun j h1 h2 => pkB_z h1) (fun d hd => ouX_dn hd) t1 t3 ta
  have fe : ∀ v, v < 3 → ∀ j, j < 6 → σ (1131 + v) j = g_find σ (1131 + v) j := fun v hv j hj => by rw [h v hv j hj, w.find P hp6 v hv j hj]
  refine ⟨W, a, fun v => if v = 0 then a else if v = 1 then p1 else p2, h1, h2, h3, h4, fun j hj => (fe 0 (by decide) j hj).trans (h5 j hj).1.1, fun v hv j hj => ?_⟩
  rw [fe v hv j hj]
  match v, hv with
  | 0, _ => exact ⟨(h5 j hj).1.1, Nat.le_refl _, (h6 j hj).1⟩
  | 1, _ => exact ⟨(h5 j hj).1.2.1, (h5 j hj).2.1, (h6 j hj).2.1⟩
  | 2, _ => exact ⟨(h5 j hj).1.2.2, (h5 j hj).2.2, (h6 j hj).2.2⟩
end
