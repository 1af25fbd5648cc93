/-! ===== pure facts: a station asks; anew; is it sound; the chart; the digest ===== -/
theorem setS_tog {τ : XS9} {k : Nat} {y : Int32} : g_setS τ k y 5004 (100 + k) = if τ 5004 (100 + k) = 0 then 1 else 0 := by
  unfold g_setS
  rw [u2_at]
theorem nmS_tog {τ : XS9} {k : Nat} {y : Int32} : nmS (g_setS τ k y) k ≠ nmS τ k := by
  unfold nmS
  rw [setS_tog]
  by_cases e : τ 5004 (100 + k) = 0
  · rw [if_pos e, if_pos e, if_neg (by decide)]
    omega
  · rw [if_neg e, if_neg e, if_pos rfl]
    omega
theorem nmS_bd {τ : XS9} {k : Nat} : 10200 + 2 * k ≤ nmS τ k ∧ nmS τ k ≤ 10201 + 2 * k := by
  unfold nmS
  split <;> omega
theorem lyQ_box {z : Int64} {C : XS9} {r : Nat} {s : Nat → Int32} (h1 : 10200 ≤ r) (h2 : r < 10300) (hn : r ≠ nmS C ((r - 10200) / 2)) : lyQ z C r s = none := by
  unfold lyQ
  rw [if_neg (by omega), if_neg (by omega), if_neg (by omega), if_neg (by omega), if_neg (by omega), if_neg (by omega), if_neg (by omega), if_neg (by omega), if_neg (by omega), if_neg (by omega), if_neg (by omega), if_neg (by omega), if_neg (by omega), if_neg (by omega), if_neg (by omega), if_neg (by omega), if_neg (by omega), if_pos h2, if_neg (fun a => hn a.2.1)]
theorem ask_old {z : Int64} {τ : XS9} {k : Nat} {y : Int32} (hk : k < 20) : (10200 ≤ nmS τ k ∧ nmS τ k < 10300) ∧ (∀ s, lyQ z (ctl (g_setS τ k y)) (nmS τ k) s = none) ∧ ∀ k2 v, xx_box v (nmS (g_setS τ k y) k2) ≠ nmS τ k := by
  have b := nmS_bd (τ := τ) (k := k)
  refine ⟨by omega, fun s => lyQ_box (by omega) (by omega) ?_, fun k2 v => ?_⟩
  · rw [show (nmS τ k - 10200) / 2 = k by omega]
    have e : nmS (ctl (g_setS τ k y)) k = nmS (g_setS τ k y) k := by
      unfold nmS
      rw [show ctl (g_setS τ k y) 5004 (100 + k) = g_setS τ k y 5004 (100 + k) from ctl_at rfl]
    rw [e]
    exact fun q => nmS_tog q.symm
  · unfold xx_box
    split
    · rename_i hs
      have := (small_nat hs).2
      omega
    · by_cases e : k2 = k
      · rw [e]
        exact nmS_tog
      · have := nmS_bd (τ := g_setS τ k y) (k := k2)
        omega
theorem K_ask : ∀ τ σ (p0 p1 : Int32), LI τ σ → LI (g_Mask τ p0 p1 (mC τ)) (g_ask σ p0 p1 (aC σ)) := fun τ σ p0 p1 h9 => have j := h9.1.1.1; have r := h9.1.2.1.1; have h := h9.1.2.1.2; ⟨⟨⟨j.ask, h9.1.1.2.ask⟩, ⟨r.ask, h9.1.2.1.2.ask r⟩, h9.1.2.2.kept VM.ask VC.ask⟩, h9.2.ask⟩
theorem G_ask {l : Launch} (hl : l.stackTraces = false) {LI' : XS9 → XS9 → Prop} (hq : ∀ τ σ, LI' τ σ → LI τ σ) (hrel : ∀ (τ σ : XS9) (p0 p1 : Int32), LI' τ σ → g_Mask τ p0 p1 (mC τ) 5000 0 = lw_k [eIOB, eIAE] (o_ask σ p0 p1 (aC σ)) ∧ ∀ w, o_ask σ p0 p1 (aC σ) = .inl w → w = f_Mask τ p0 p1 (mC τ)) (hk : ∀ τ σ (p0 p1 : Int32), LI' τ σ → LI' (g_Mask τ p0 p1 (mC τ)) (g_ask σ p0 p1 (aC σ))) : IF_ask l LI' := by
  intro z τ σ p0 p1 h8
  have h9 := hq _ _ h8
  have j := h9.1.1.1
  have r := h9.1.2.1.1
  have hS := r.hS
  refine ⟨o_ask σ p0 p1 (aC σ), g_ask σ p0 p1 (aC σ), f_Mask τ p0 p1 (mC τ), z, g_Mask τ p0 p1 (mC τ), (if n_bt p0 0 ((nI (mC τ)) - 1) then (if n_bt p1 1 9999 then some ((u2 τ 5000 0 0) 5004 (2 * (cn p0) + 1), nmS (u2 τ 5000 0 0) (2 * (cn p0) + 1)) else none) else none), fun h hh => ct_X7_ask hl j.hC.1 j.hC.2, fun E e => ?_, fun h hh => ?_, fun p hp => ?_, hk τ σ p0 p1 h8, hrel τ σ p0 p1 h8⟩
  · unfold o_ask at e
    (repeat' split at e) <;> first | (cases e; done) | (rw [← Sum.inr.inj e]; first | exact .inl rfl | exact .inr rfl)
  · have t := ct_X14_ask hl (z := z) (σ := τ) (h := h) hh.bs (fun r h1 _ => hh.no h1) hS.1 hS.2 (x := p0) (y := p1)
    have e : k_Mask h τ p0 p1 (mC τ) = boxO h (if n_bt p0 0 ((nI (mC τ)) - 1) then (if n_bt p1 1 9999 then some ((u2 τ 5000 0 0) 5004 (2 * (cn p0) + 1), nmS (u2 τ 5000 0 0) (2 * (cn p0) + 1)) else none) else none) := by
      unfold k_Mask
      (repeat' split) <;> rfl
    rw [← e]
    exact t
  · by_cases q1 : n_bt p0 0 ((nI (mC τ)) - 1)
    · by_cases q2 : n_bt p1 1 9999
      · rw [if_pos q1, if_pos q2] at hp
        have hc := ((sub1_lt (R := mC τ) (by omega)).mp q1).2
        rw [← Option.some.inj hp]
        have A := ask_old (z := z) (τ := u2 τ 5000 0 0) (k := 2 * cn p0 + 1) (y := p1) (by omega)
        have e : g_Mask τ p0 p1 (mC τ) = g_setS (u2 τ 5000 0 0) (2 * cn p0 + 1) p1 := by
          unfold g_Mask
          rw [if_pos q1, if_pos q2]
        rw [e]
        exact ⟨A.1.1, A.1.2, A.2.1, fun k _ => A.2.2 k _⟩
      · rw [if_pos q1, if_neg q2] at hp
        cases hp
    · rw [if_neg q1] at hp
      cases hp
/-! anew -/
def GAn (σ : XS9) (i : Nat) (s : XS9) : Prop := KW 8000 (2 * i) s ∧ ∀ q, q < 8000 → s q = σ q
section
variable {σ : XS9} {R B K : Nat}
theorem GAn.init : GAn σ 0 (g_Kinit σ 8000 R B) := by
  have e : ∀ q, (q = 8002 ∨ q = 8500) → g_Kinit σ 8000 R B q = fun _ => 0 := fun q hq => by
    unfold g_Kinit x_Kinit_132
    refine (xit_keep (fun s : XS9 => s q) (fun i s => ?_) B 0 _).trans ?_
    · (try dsimp only)
      rw [u2_ne (by omega), u2_ne (by omega)]
    · unfold x_Kinit_95
      refine (xit_keep (fun s : XS9 => s q) (fun i s => ?_) R 0 _).trans ?_
      · (try dsimp only)
        rw [u2_ne (by omega)]
      · unfold g_clk0
        (try dsimp only)
        rw [if_neg (by omega), if_pos (by omega)]
  refine ⟨⟨fun i hi => ?_, fun i hi => ?_⟩, fun q hq => fr_Kinit (by omega)⟩
  · rw [e _ (by omega)]
    exact bd.zero
  · rw [e _ (by omega)]
    exact bd.zero
theorem GAn.ah (hR5 : R ≤ 5) (hB6 : B ≤ 6) (hK60 : K ≤ 60) (hlog : ∀ i j, i < K → j < 6 → zo (σ (6300 + i) j) ∧ bd 7775 (σ (6100 + i) j)) {x u : Int32} {j r : Nat} (hj : j < 6) (hr : r < 5) (hu : bd 5 u) : AH (GAn σ) σ x j r u R B K := by
  have W1 : ∀ i s, i < K → GAn σ i s → ∀ f : Nat → Int32, KW 8000 (2 * i + 1) (u2 (uR (u2 (uR s (8000 + 500 + (2 * i + 1)) (s (6100 + i))) 8000 23 (nI (2 * i + 1))) (8000 + 700 + (2 * i + 1)) f) 8000 24 (nI (2 * i + 1))) := fun i s hi hg f => by
    refine ⟨fun k hk => ?_, fun k hk => ?_⟩
    · rw [u2_ne (by omega), uR_ne (by omega), u2_ne (by omega), uR_ne (by omega)]
      exact hg.1.1 k hk
    · rw [u2_ne (by omega), uR_ne (by omega), u2_ne (by omega), uR_eq, hg.2 _ (by omega)]
      exact (hlog i k hi hk).2
  have W2 : ∀ i s, i < K → GAn σ i s → ∀ f : Nat → Int32, KW 8000 (2 * i + 1) (u2 (u2 (uR (u2 (uR s (8000 + 500 + (2 * i + 1)) (s (6100 + i))) 8000 23 (nI (2 * i + 1))) (8000 + 700 + (2 * i + 1)) f) 8000 24 (nI (2 * i + 1))) (8000 + 500 + (2 * i + 1)) j (f_with ((uR s (8000 + 500 + (2 * i + 1)) (s (6100 + i))) (8000 + 500 + (2 * i + 1)) j) r u)) := fun i s hi hg f => by
    obtain ⟨a, b⟩ := W1 i s hi hg f
    refine ⟨fun k hk => ?_, fun k hk => ?_⟩
    · rw [u2_ne (by omega)]
      exact a k hk
    · by_cases e : k = j
      · rw [e, u2_at, uR_eq, hg.2 _ (by omega)]
        exact ((hlog i j hi hj).2).withd hr hu
      · rw [u2_oi e]
        exact b k hk
  refine ⟨fun i j hi hj => (hlog i j hi hj).1, GAn.init, fun i s s9 hi hg e => ?_, fun i s hi hg => (W1 i s hi hg _).hw0 hR5 hB6 (by omega), fun i s hi hg => (W2 i s hi hg _).hw0 hR5 hB6 (by omega)⟩
  unfold st_anew at e
  split at e
  · split at e
    · rw [← Sum.inl.inj e]
      refine ⟨(W2 i s hi hg _).close hR5 hB6 (by omega) (by omega) (by omega), fun q hq => ?_⟩
      rw [fr_Kclose (by omega) (by omega) (by omega) (by omega), u2_ne (by omega), u2_ne (by omega), uR_ne (by omega), u2_ne (by omega), uR_ne (by omega)]
      exact hg.2 q hq
    · rw [← Sum.inl.inj e]
      refine ⟨(W1 i s hi hg _).close hR5 hB6 (by omega) (by omega) (by omega), fun q hq => ?_⟩
      rw [fr_Kclose (by omega) (by omega) (by omega) (by omega), u2_ne (by omega), uR_ne (by omega), u2_ne (by omega), uR_ne (by omega)]
      exact hg.2 q hq
  · cases e
theorem ah0 {τ : XS9} (r : JR τ) (h : JS τ) {v : Int32} {x u : Int32} {j r9 : Nat} (hj : j < 6) (hr : r9 < 5) (hu : bd 5 u) : AH (GAn (u2 τ 5000 0 v)) (u2 τ 5000 0 v) x j r9 u (mR τ) (mB τ) (mK τ) := GAn.ah r.hR.2 r.hB.2 r.hK.2 (fun i k hi hk => by
  have := r.hK.2
  rw [u2_ne (by omega), u2_ne (by omega)]
  exact h.2.2 i k hi hk) hj hr hu
end
/-! what holders are -/
theorem xitR_res {S R : Type} {step : Nat → S → S ⊕ R} (Q : R → Prop) (h : ∀ i s r, step i s = .inr r → Q r) : ∀ (f i : Nat) (s : S) (r : R), xitR step f i s = .inr r → Q r
  | 0, i, s, r, e => by cases e
  | f + 1, i, s, r, e => by
    unfold xitR at e
    split at e
    · exact xitR_res Q h f _ _ r e
    · rename_i r' e'
      rw [← Sum.inr.inj e]
      exact h i s r' e'
theorem holds_ok {s : XS9} {r : Nat} {y : Int32} {tn B : Nat} : f_Mholds s r y tn B = -1 ∨ n_lt (f_Mholds s r y tn B) 6 := by
  unfold f_Mholds
  split
  · exact .inl rfl
  · rename_i r6 e
    refine .inr ?_
    unfold x_Mholds_6 at e
    refine xitR_res (fun r => n_lt r 6) (fun i s r e => ?_) _ _ _ _ e
    have m : n_lt (nI ((i + tn) % 6)) 6 := ⟨by rw [cn_nI (by omega)], by rw [cn_nI (by omega)]; omega⟩
    revert e
    (try dsimp only)
    (repeat' split) <;> intro e <;> first | (cases e; done) | (rw [← Sum.inr.inj e]; exact m)
theorem holder_ok {s : XS9} {r : Nat} {y : Int32} {B : Nat} {tn : Nat → Nat} : f_MholderNow s r y B tn = -1 ∨ n_lt (f_MholderNow s r y B tn) 6 := by
  unfold f_MholderNow
  split
  · exact holds_ok
  · exact .inl rfl
