section
/-! ===== the reference: anew ===== -/
theorem xitB_at {S : Type} {step : Nat → S → S ⊕ S} (P : Nat → S → Prop) {N : Nat} (h : ∀ i s, i < N → P i s → (∀ s', step i s = .inl s' → P (i + 1) s') ∧ ∀ s', step i s = .inr s' → P i s') : ∀ (f i : Nat) (s : S), i + f = N → P i s → ∃ m, m ≤ N ∧ P m (xitB step f i s)
  | 0, i, s, e, hP => ⟨i, by omega, hP⟩
  | f + 1, i, s, e, hP => by
    unfold xitB
    split
    · rename_i s' e'
      exact xitB_at P h f (i + 1) s' (by omega) ((h i s (by omega) hP).1 s' e')
    · rename_i s' e'
      exact ⟨i, by omega, (h i s (by omega) hP).2 s' e'⟩
theorem drop8 {z : Int64} {τ : XS9} {h : XH} (hfr : ∀ r, 5000 ≤ r → r < 20010 → h r = none) : xx_sub (setM z (u2 τ 8000 20 0) h) (setM z τ h) := by
  intro r c hc
  by_cases e1 : 5000 ≤ r ∧ r < 20010
  · have hn := hfr r e1.1 e1.2
    unfold setM at hc ⊢
    rw [if_pos e1] at hc ⊢
    by_cases h9 : r < 8000 ∨ 9000 ≤ r
    · rw [u2_ne (by omega), lyQ_8 (C := ctl (u2 τ 8000 20 0)) (C' := ctl τ) (fun q i hq => by unfold ctl; rw [u2_ne hq]) h9] at hc
      exact hc
    · have f1 : lyQ z (ctl (u2 τ 8000 20 0)) r (u2 τ 8000 20 0 r) = none := by
        have e9 : ctl (u2 τ 8000 20 0) 8000 20 = 0 := rfl
        unfold lyQ
        rw [if_neg (by omega), if_neg (by omega), if_neg (by omega), if_neg (by omega), if_neg (by omega), if_neg (by omega), if_neg (by omega), if_neg (by omega), if_neg (by omega), if_neg (by omega), if_neg (by omega), if_neg (by omega), if_neg (by omega), if_pos (show r < 9000 by omega), if_pos e9]
      rw [f1, hn] at hc
      cases hc
  · rw [setM_out e1] at hc ⊢
    exact hc
theorem mem_eq.frame8 {σ τ0 τ' : XS9} (h : mem_eq σ τ0) (hf : ∀ q, (q < 8000 ∨ 9000 ≤ q) → τ' q = τ0 q) (h8 : τ' 8000 20 = 0) : mem_eq σ τ' := by
  refine ⟨fun q i h1 h2 h3 => ?_, ⟨⟨by rw [hf 9000 (by omega)]; exact h.2.1.1.1, h.2.1.1.2⟩, h8, h.2.1.2.2⟩, fun q h1 h2 => by rw [hf q (by omega)]; exact h.2.2 q h1 h2⟩
  rw [← h.1 q i h1 h2 h3]
  unfold ctl
  by_cases e : q < 8000 ∨ 9000 ≤ q
  · rw [hf q e]
  · rw [show isCtl q i = false from notCtl (by omega) i]
    rfl
def AH (GA : Nat → XS9 → Prop) (σ : XS9) (x : Int32) (j r : Nat) (u : Int32) (R B K : Nat) : Prop := (∀ i j, i < K → j < 6 → σ (6300 + i) j = 0 ∨ σ (6300 + i) j = 1) ∧ GA 0 (g_Kinit σ 8000 R B) ∧ (∀ (i : Nat) (s s9 : XS9), i < K → GA i s → st_anew σ x j r u R B K i s = .inl s9 → GA (i + 1) s9) ∧ (∀ (i13 : Nat) (s13 : XS9), i13 < K → GA i13 s13 → ∀ i9 r9, i9 < B → r9 < R → 0 ≤ (f_of (x_Kclose_2 (u2 (uR (u2 (uR s13 (8000 + 500 + (2 * i13 + 1)) (s13 (6100 + i13))) 8000 23 (nI (2 * i13 + 1))) (8000 + 700 + (2 * i13 + 1)) ((u2 (uR s13 (8000 + 500 + (2 * i13 + 1)) (s13 (6100 + i13))) 8000 23 (nI (2 * i13 + 1))) (6300 + i13))) 8000 24 (nI (2 * i13 + 1))) 8000 R B (2 * i13 + 1) (2 * i13 + 1) i13 (u2 (uR (u2 (uR s13 (8000 + 500 + (2 * i13 + 1)) (s13 (6100 + i13))) 8000 23 (nI (2 * i13 + 1))) (8000 + 700 + (2 * i13 + 1)) ((u2 (uR s13 (8000 + 500 + (2 * i13 + 1)) (s13 (6100 + i13))) 8000 23 (nI (2 * i13 + 1))) (6300 + i13))) 8000 24 (nI (2 * i13 + 1))) (8000 + 500 + (2 * i13 + 1)) i9) r9).toInt) ∧ (∀ (i13 : Nat) (s13 : XS9), i13 < K → GA i13 s13 → ∀ i9 r9, i9 < B → r9 < R → 0 ≤ (f_of (x_Kclose_2 (u2 (u2 (uR (u2 (uR s13 (8000 + 500 + (2 * i13 + 1)) (s13 (6100 + i13))) 8000 23 (nI (2 * i13 + 1))) (8000 + 700 + (2 * i13 + 1)) ((u2 (uR s13 (8000 + 500 + (2 * i13 + 1)) (s13 (6100 + i13))) 8000 23 (nI (2 * i13 + 1))) (6300 + i13))) 8000 24 (nI (2 * i13 + 1))) (8000 + 500 + (2 * i13 + 1)) j (f_with ((uR s13 (8000 + 500 + (2 * i13 + 1)) (s13 (6100 + i13))) (8000 + 500 + (2 * i13 + 1)) j) r u)) 8000 R B (2 * i13 + 1) (2 * i13 + 1) i13 (u2 (u2 (uR (u2 (uR s13 (8000 + 500 + (2 * i13 + 1)) (s13 (6100 + i13))) 8000 23 (nI (2 * i13 + 1))) (8000 + 700 + (2 * i13 + 1)) ((u2 (uR s13 (8000 + 500 + (2 * i13 + 1)) (s13 (6100 + i13))) 8000 23 (nI (2 * i13 + 1))) (6300 + i13))) 8000 24 (nI (2 * i13 + 1))) (8000 + 500 + (2 * i13 + 1)) j (f_with ((uR s13 (8000 + 500 + (2 * i13 + 1)) (s13 (6100 + i13))) (8000 + 500 + (2 * i13 + 1)) j) r u)) (8000 + 500 + (2 * i13 + 1)) i9) r9).toInt)
theorem ct_anewH {l : Launch} {h : XH} (hl : l.stackTraces = false) {z : Int64} {σ : XS9} {x u : Int32} {j r R B K : Nat} {GA : Nat → XS9 → Prop} (hbs : xx_bs h) (hfr : ∀ r, 5000 ≤ r → r < 20010 → h r = none) (hR : σ 5001 900 = nI R) (hR5 : R ≤ 5) (hB : σ 5002 900 = nI B) (hB6 : B ≤ 6) (hK : σ 5003 900 = nI K) (hK60 : K ≤ 60) (hk8 : σ 8000 20 = 0) (hj : j < 6) (hr : r < 6) (ha : AH GA σ x j r u R B K) : XEx l m_X14_runAnew 10 490 8638 [.ref 5000, .int x, .int (nI j), .int (nI r), .int u] (setM z σ h) (some (.ref 8000)) (setM z (g_MrunAnew σ x j r u R B K) h) := ct_X14_runAnew hl hbs hfr hR hR5 hB hB6 hK hK60 hk8 hj hr ha.1 ha.2.1 ha.2.2.1 ha.2.2.2.1 ha.2.2.2.2
def PA9 (S0 : XS9) (I : Nat) (s : XS9) : Prop := s 8000 20 = nI 1 ∧ s 8000 21 = nI I ∧ s 8000 22 = nI I ∧ s 8000 23 = nI (2 * I) ∧ s 8000 24 = nI (2 * I) ∧ ∀ q, (q < 8000 ∨ 9000 ≤ q) → s q = S0 q
theorem fr_Kinit8 {σ : XS9} {R B q : Nat} (h : q < 8000 ∨ 9000 ≤ q) : g_Kinit σ 8000 R B q = σ q := fr_Kinit (by omega)
theorem anew_out {σ : XS9} {x u : Int32} {j r R B K : Nat} {GA : Nat → XS9 → Prop} (hK60 : K ≤ 60) (ha : AH GA σ x j r u R B K) : ∃ m, m ≤ K ∧ PA9 σ m (g_MrunAnew σ x j r u R B K) := by
  obtain ⟨a1, hG0, hG, a2, a3⟩ := ha
  have t := xitB_at (step := st_anew σ x j r u R B K) (fun I s => s 8000 20 = nI 1 ∧ s 8000 21 = nI I ∧ s 8000 22 = nI I ∧ s 8000 23 = nI (2 * I) ∧ s 8000 24 = nI (2 * I) ∧ (∀ q, (q < 8000 ∨ 9000 ≤ q) → s q = (g_Kinit σ 8000 R B) q) ∧ GA I s) (N := K) (fun i13 s13 hi13 hP13 => ⟨fun s' e' => by
    have hg9 := hG i13 s13 s' hi13 hP13.2.2.2.2.2.2 e'
    revert e'
    unfold st_anew
    (try dsimp only)
    (repeat' split) <;> intro e' <;> first | (cases e'; done) | (have e9 := Sum.inl.inj e'; subst e9; exact anew_step (by omega) (by simp (disch := omega) only [u2_ne, uR_ne, u2_nj]; exact hP13.1) (fun q hq => by simp (disch := omega) only [u2_ne, uR_ne]; exact hP13.2.2.2.2.2.1 q hq) hg9), fun s' e' => by
    revert e'
    unfold st_anew
    (try dsimp only)
    (repeat' split) <;> intro e' <;> first | (cases e'; done) | (have e9 := Sum.inr.inj e'; subst e9; exact hP13)⟩) K 0 (g_Kinit σ 8000 R B) (by omega) ⟨(Kinit_c (σ := σ) (R := R) (B := B)).1, (Kinit_c (σ := σ) (R := R) (B := B)).2.1, (Kinit_c (σ := σ) (R := R) (B := B)).2.2.1, (Kinit_c (σ := σ) (R := R) (B := B)).2.2.2.1, (Kinit_c (σ := σ) (R := R) (B := B)).2.2.2.2, fun _ _ => rfl, hG0⟩
  obtain ⟨m, hm, b1, b2, b3, b4, b5, b6, b7⟩ := t
  exact ⟨m, hm, b1, b2, b3, b4, b5, fun q hq => (b6 q hq).trans (fr_Kinit8 hq)⟩
theorem fr_MrunAnew {σ : XS9} {x u : Int32} {j r R B K : Nat} {m9 q : Nat} (hc : PA9 σ m9 (g_MrunAnew σ x j r u R B K)) (h : q < 8000 ∨ 9000 ≤ q) : g_MrunAnew σ x j r u R B K q = σ q := hc.2.2.2.2.2 q h
def x_Manew_76 (σ : XS9) (x y v u : Int32) (R B K : Nat) (s0 : Int32) : Int32 := xit (fun i76 s76 => s76 + ((g_MrunAnew (u2 σ 5000 0 0) (nI (rn x + 1)) (cn y) (cn v) u R B K) (8000 + 1) i76)) R 0 s0
def f_Manew (σ : XS9) (x y v u : Int32) (R B K : Nat) : Int32 := (if n_rd x K then (if n_lt y B then (if n_lt v R then (if n_bt u 0 5 then (x_Manew_76 σ x y v u R B K 0) else 0) else 0) else 0) else 0)
def g_Manew (σ : XS9) (x y v u : Int32) (R B K : Nat) : XS9 := (if n_rd x K then (if n_lt y B then (if n_lt v R then (if n_bt u 0 5 then u2 (g_MrunAnew (u2 σ 5000 0 0) (nI (rn x + 1)) (cn y) (cn v) u R B K) 8000 20 0 else u2 (u2 σ 5000 0 0) 5000 0 2) else u2 (u2 σ 5000 0 0) 5000 0 1) else u2 (u2 σ 5000 0 0) 5000 0 1) else u2 (u2 σ 5000 0 0) 5000 0 1)
theorem ct_X14_anew {l : Launch} {h : XH} (hl : l.stackTraces = false) {z : Int64} {σ : XS9} (hbs : xx_bs h) (hfr : ∀ r, 5000 ≤ r → r < 20010 → h r = none) (hme : mem_eq σ σ) {R : Nat} (hR : σ 5001 900 = nI R) (hR5 : R ≤ 5) {B : Nat} (hB : σ 5002 900 = nI B) (hB6 : B ≤ 6) {K : Nat} (hK : σ 5003 900 = nI K) (hK60 : K ≤ 60) {x y v u : Int32} {GA : Nat → XS9 → Prop} (ha9 : n_rd x K → n_lt y B → n_lt v R → n_bt u 0 5 → AH GA (u2 σ 5000 0 0) (nI (rn x + 1)) (cn y) (cn v) u R B K)  : XEx l m_X14_anew 11 490 8638 [.ref 5000, .int x, .int y, .int v, .int u] (setM z σ h) (some (.int (f_Manew σ x y v u R B K))) (setM z (g_Manew σ x y v u R B K) h) := by
  refine XMet.of hl rfl rfl (Nat.le_of_ble_eq_true rfl) (fun Y O hh hQ => ?_)
  refine sw_cls (fun hcl => ?_)
  show SW Y 490 8638 (setM z σ h) 0 [.ref 5000, .int x, .int y, .int v, .int u, xx_d, xx_d, xx_d, xx_d, xx_d] []
  refine sw_aload_n O (xx_dt dd_X14_anew 0 rfl) rfl ?_
  refine sw_iconst (x := 0) O (xx_dt dd_X14_anew 1 rfl) (by decide) ?_
  refine sw_put (h2 := setM z (u2 σ 5000 0 0) h) O (xx_dt dd_X14_anew 2 rfl) cl_X14 fl_X14_46 (lm_mod (σ := σ)) (by decide) (by omega) rfl (fun _ => ⟨rfl, rfl⟩) (pm_mod (σ := σ) (by omega)) ?_
  refine sw_aload_n O (xx_dt dd_X14_anew 3 rfl) rfl ?_
  refine sw_iload_n O (xx_dt dd_X14_anew 4 rfl) rfl ?_
  refine sw_callVx (as := [.int x]) (st := []) (st2 := [.int (bZ (n_rd x K))]) O (ct_X14_isRound hl (z := z) (σ := u2 σ 5000 0 0) hbs (K := K) hK (by omega) (x := x)) ce_X14_isRound ml_X14_314 iv_X14_isRound cl_X14 rfl (lm_mod (σ := u2 σ 5000 0 0)) (xx_dt dd_X14_anew 5 rfl) (by decide) rfl rfl (Nat.le_of_ble_eq_true rfl) rfl ?_
  refine sw_if_eqB (tgt := 29) O (xx_dt dd_X14_anew 6 rfl) (by decide) (fun q1 => ?_) (fun q1 => ?_)
  · refine sw_aload_n O (xx_dt dd_X14_anew 15 rfl) rfl ?_
    refine sw_iconst (x := 1) O (xx_dt dd_X14_anew 16 rfl) (by decide) ?_
    refine sw_callVx (as := [.int 1]) (st := []) (st2 := [.int 0]) O (ct_X14_refuse hl (z := z) (σ := u2 σ 5000 0 0) hbs (x := 1)) ce_X14_refuse ml_X14_74 iv_X14_refuse cl_X14 rfl (lm_mod (σ := u2 σ 5000 0 0)) (xx_dt dd_X14_anew 17 rfl) (by decide) rfl rfl (Nat.le_of_ble_eq_true rfl) rfl ?_
    exact sw_iret O (xx_dt dd_X14_anew 18 rfl) rfl rfl (by rw [hQ]; exact ⟨by unfold f_Manew; simp only [if_neg q1], by unfold g_Manew; simp only [if_neg q1]⟩)
  · have hc10 := q1
    refine sw_lsE (ls2 := [.ref 5000, .int (nI (rn x + 1)), .int y, .int v, .int u, xx_d, xx_d, xx_d, xx_d, xx_d]) (by rw [← hc10.1]) ?_
    have hd10 := hc10.2
    refine sw_aload_n O (xx_dt dd_X14_anew 7 rfl) rfl ?_
    refine sw_iload_n O (xx_dt dd_X14_anew 8 rfl) rfl ?_
    refine sw_callVx (as := [.int y]) (st := []) (st2 := [.int (bZ (n_lt y B))]) O (ct_X14_isBidder hl (z := z) (σ := u2 σ 5000 0 0) hbs (B := B) hB (by omega) (x := y)) ce_X14_isBidder ml_X14_156 iv_X14_isBidder cl_X14 rfl (lm_mod (σ := u2 σ 5000 0 0)) (xx_dt dd_X14_anew 9 rfl) (by decide) rfl rfl (Nat.le_of_ble_eq_true rfl) rfl ?_
    refine sw_if_eqB (tgt := 29) O (xx_dt dd_X14_anew 10 rfl) (by decide) (fun q2 => ?_) (fun q2 => ?_)
    · refine sw_aload_n O (xx_dt dd_X14_anew 15 rfl) rfl ?_
      refine sw_iconst (x := 1) O (xx_dt dd_X14_anew 16 rfl) (by decide) ?_
      refine sw_callVx (as := [.int 1]) (st := []) (st2 := [.int 0]) O (ct_X14_refuse hl (z := z) (σ := u2 σ 5000 0 0) hbs (x := 1)) ce_X14_refuse ml_X14_74 iv_X14_refuse cl_X14 rfl (lm_mod (σ := u2 σ 5000 0 0)) (xx_dt dd_X14_anew 17 rfl) (by decide) rfl rfl (Nat.le_of_ble_eq_true rfl) rfl ?_
      exact sw_iret O (xx_dt dd_X14_anew 18 rfl) rfl rfl (by rw [hQ]; exact ⟨by unfold f_Manew; simp only [if_pos q1, if_neg q2], by unfold g_Manew; simp only [if_pos q1, if_neg q2]⟩)
    · have hc18 := q2
      refine sw_lsE (ls2 := [.ref 5000, .int (nI (rn x + 1)), .int (nI (cn y)), .int v, .int u, xx_d, xx_d, xx_d, xx_d, xx_d]) (by rw [← hc18.1]) ?_
      have hd18 := hc18.2
      refine sw_aload_n O (xx_dt dd_X14_anew 11 rfl) rfl ?_
      refine sw_iload_n O (xx_dt dd_X14_anew 12 rfl) rfl ?_
      refine sw_callVx (as := [.int v]) (st := []) (st2 := [.int (bZ (n_lt v R))]) O (ct_X14_isRegion hl (z := z) (σ := u2 σ 5000 0 0) hbs (R := R) hR (by omega) (x := v)) ce_X14_isRegion ml_X14_91 iv_X14_isRegion cl_X14 rfl (lm_mod (σ := u2 σ 5000 0 0)) (xx_dt dd_X14_anew 13 rfl) (by decide) rfl rfl (Nat.le_of_ble_eq_true rfl) rfl ?_
      refine sw_if_neB (tgt := 35) O (xx_dt dd_X14_anew 14 rfl) (by decide) (fun q3 => ?_) (fun q3 => ?_)
      · have hc26 := q3
        refine sw_lsE (ls2 := [.ref 5000, .int (nI (rn x + 1)), .int (nI (cn y)), .int (nI (cn v)), .int u, xx_d, xx_d, xx_d, xx_d, xx_d]) (by rw [← hc26.1]) ?_
        have hd26 := hc26.2
        refine sw_iload O (xx_dt dd_X14_anew 19 rfl) rfl ?_
        refine sw_iconst (x := 0) O (xx_dt dd_X14_anew 20 rfl) (by decide) ?_
        refine sw_iconst (x := 5) O (xx_dt dd_X14_anew 21 rfl) (by decide) ?_
        refine sw_callSx (as := [.int u, .int 0, .int 5]) (st := []) (st2 := [.int (bZ (n_bt u 0 5))]) O (ct_X14_is hl) ce_X14_is ml_X14_70 st_X14_is (xx_dt dd_X14_anew 22 rfl) (by decide) rfl rfl (Nat.le_of_ble_eq_true rfl) rfl ?_
        refine sw_if_neB (tgt := 51) O (xx_dt dd_X14_anew 23 rfl) (by decide) (fun q4 => ?_) (fun q4 => ?_)
        · refine sw_iconst (x := 0) O (xx_dt dd_X14_anew 28 rfl) (by decide) ?_
          refine sw_istore (ls2 := [.ref 5000, .int (nI (rn x + 1)), .int (nI (cn y)), .int (nI (cn v)), .int u, .int 0, xx_d, xx_d, xx_d, xx_d]) O (xx_dt dd_X14_anew 29 rfl) (by decide) rfl ?_
          refine sw_aload_n O (xx_dt dd_X14_anew 30 rfl) rfl ?_
          refine sw_iload_n O (xx_dt dd_X14_anew 31 rfl) rfl ?_
          refine sw_iload_n O (xx_dt dd_X14_anew 32 rfl) rfl ?_
          refine sw_iload_n O (xx_dt dd_X14_anew 33 rfl) rfl ?_
          refine sw_iload O (xx_dt dd_X14_anew 34 rfl) rfl ?_
          have ha := ha9 q1 q2 q3 q4
          obtain ⟨m9, hm9, hc9⟩ := anew_out hK60 ha
          refine sw_callVx (as := [.int (nI (rn x + 1)), .int (nI (cn y)), .int (nI (cn v)), .int u]) (st := []) (st2 := [.ref 8000]) O (ct_anewH hl (z := z) (σ := u2 σ 5000 0 0) hbs hfr  hR (by omega)  hB (by omega)  hK (by omega) hme.2.1.2.2 (j := cn y) (by omega) (r := cn v) (by omega) ha) ce_X14_runAnew ml_X14_390 iv_X14_runAnew cl_X14 rfl (lm_mod (σ := u2 σ 5000 0 0)) (xx_dt dd_X14_anew 35 rfl) (by decide) rfl rfl (Nat.le_of_ble_eq_true rfl) rfl ?_
          refine sw_get (v := .ref (8000 + 1)) O (xx_dt dd_X14_anew 36 rfl) cl_X11 fl_X14_176 (lm_clk (σ := g_MrunAnew (u2 σ 5000 0 0) (nI (rn x + 1)) (cn y) (cn v) u R B K) (b := 8000) (.inr rfl) (fl1 hc9.1) (g := 2 * m9) hc9.2.2.2.1 (by omega) (w := 2 * m9) hc9.2.2.2.2.1 (by omega)) (by decide) rfl ?_
          refine sw_astore (ls2 := [.ref 5000, .int (nI (rn x + 1)), .int (nI (cn y)), .int (nI (cn v)), .int u, .int 0, .ref (8000 + 1), xx_d, xx_d, xx_d]) O (xx_dt dd_X14_anew 37 rfl) (by decide) rfl ?_
          refine sw_aload O (xx_dt dd_X14_anew 38 rfl) rfl ?_
          refine sw_alen O (xx_dt dd_X14_anew 39 rfl) (by omega) (by omega) ((im_kpr (z := z) (σ := g_MrunAnew (u2 σ 5000 0 0) (nI (rn x + 1)) (cn y) (cn v) u R B K) (b := 8000) (.inr rfl) hc9.1 (R := R) ((congrFun (fr_MrunAnew hc9 (by omega)) 900).trans hR) (by omega)).get _) ?_
          refine sw_istore (ls2 := [.ref 5000, .int (nI (rn x + 1)), .int (nI (cn y)), .int (nI (cn v)), .int u, .int 0, .ref (8000 + 1), .int (nI R), xx_d, xx_d]) O (xx_dt dd_X14_anew 40 rfl) (by decide) rfl ?_
          refine sw_iconst (x := 0) O (xx_dt dd_X14_anew 41 rfl) (by decide) ?_
          refine sw_istore (ls2 := [.ref 5000, .int (nI (rn x + 1)), .int (nI (cn y)), .int (nI (cn v)), .int u, .int 0, .ref (8000 + 1), .int (nI R), .int 0, xx_d]) O (xx_dt dd_X14_anew 42 rfl) (by decide) rfl ?_
          refine sw_for (S := Int32) (fun i76 s76 => s76 + ((g_MrunAnew (u2 σ 5000 0 0) (nI (rn x + 1)) (cn y) (cn v) u R B K) (8000 + 1) i76)) (fun _ _ => True) (hp := fun _ => setM z (g_MrunAnew (u2 σ 5000 0 0) (nI (rn x + 1)) (cn y) (cn v) u R B K) h) (hd := 76) (lc := fun i76 s76 => [.ref 5000, .int (nI (rn x + 1)), .int (nI (cn y)), .int (nI (cn v)), .int u, .int s76, .ref (8000 + 1), .int (nI R), .int (nI i76), xx_d]) (N := R) (fun i76 s76 hi76 hP76 => ⟨trivial, fun kk76 => ?_⟩) R 0 0 (by omega) (trivial) (fun hP76 => ?_)
          · refine sw_iload O (xx_dt dd_X14_anew 43 rfl) rfl ?_
            refine sw_iload O (xx_dt dd_X14_anew 44 rfl) rfl ?_
            refine sw_icmp_ge (tgt := 103) O (xx_dt dd_X14_anew 45 rfl) (by decide) (fun q5 => ?_) (fun q5 => ?_)
            · exact absurd q5 (nI_ge (b := R) hi76 (by omega))
            · refine sw_aload O (xx_dt dd_X14_anew 46 rfl) rfl ?_
              refine sw_iload O (xx_dt dd_X14_anew 47 rfl) rfl ?_
              refine sw_iaload (v := .int ((g_MrunAnew (u2 σ 5000 0 0) (nI (rn x + 1)) (cn y) (cn v) u R B K) (8000 + 1) i76)) O (xx_dt dd_X14_anew 48 rfl) ((im_kpr (z := z) (σ := g_MrunAnew (u2 σ 5000 0 0) (nI (rn x + 1)) (cn y) (cn v) u R B K) (b := 8000) (.inr rfl) hc9.1 (R := R) ((congrFun (fr_MrunAnew hc9 (by omega)) 900).trans hR) (by omega)).get _) (pk_in i76 _ (by omega)) (by rw [nI_clamp (by omega)]; try exact rfl) ?_
              refine sw_istore (ls2 := [.ref 5000, .int (nI (rn x + 1)), .int (nI (cn y)), .int (nI (cn v)), .int u, .int s76, .ref (8000 + 1), .int (nI R), .int (nI i76), .int ((g_MrunAnew (u2 σ 5000 0 0) (nI (rn x + 1)) (cn y) (cn v) u R B K) (8000 + 1) i76)]) O (xx_dt dd_X14_anew 49 rfl) (by decide) rfl ?_
              refine sw_iload O (xx_dt dd_X14_anew 50 rfl) rfl ?_
              refine sw_iload O (xx_dt dd_X14_anew 51 rfl) rfl ?_
              refine sw_iadd O (xx_dt dd_X14_anew 52 rfl) ?_
              refine sw_istore (ls2 := [.ref 5000, .int (nI (rn x + 1)), .int (nI (cn y)), .int (nI (cn v)), .int u, .int (s76 + ((g_MrunAnew (u2 σ 5000 0 0) (nI (rn x + 1)) (cn y) (cn v) u R B K) (8000 + 1) i76)), .ref (8000 + 1), .int (nI R), .int (nI i76), .int ((g_MrunAnew (u2 σ 5000 0 0) (nI (rn x + 1)) (cn y) (cn v) u R B K) (8000 + 1) i76)]) O (xx_dt dd_X14_anew 53 rfl) (by decide) rfl ?_
              refine sw_iinc (y := nI (i76 + 1)) (ls2 := [.ref 5000, .int (nI (rn x + 1)), .int (nI (cn y)), .int (nI (cn v)), .int u, .int (s76 + ((g_MrunAnew (u2 σ 5000 0 0) (nI (rn x + 1)) (cn y) (cn v) u R B K) (8000 + 1) i76)), .ref (8000 + 1), .int (nI R), .int (nI (i76 + 1)), .int ((g_MrunAnew (u2 σ 5000 0 0) (nI (rn x + 1)) (cn y) (cn v) u R B K) (8000 + 1) i76)]) O (xx_dt dd_X14_anew 54 rfl) rfl (nI_1 _) (by decide) rfl ?_
              refine sw_goto (tgt := 76) O (xx_dt dd_X14_anew 55 rfl) (by decide) ?_
              refine sw_dum (ls2 := [.ref 5000, .int (nI (rn x + 1)), .int (nI (cn y)), .int (nI (cn v)), .int u, .int (s76 + ((g_MrunAnew (u2 σ 5000 0 0) (nI (rn x + 1)) (cn y) (cn v) u R B K) (8000 + 1) i76)), .ref (8000 + 1), .int (nI R), .int (nI (i76 + 1)), xx_d]) ⟨.inr rfl, .inr rfl, .inr rfl, .inr rfl, .inr rfl, .inr rfl, .inr rfl, .inr rfl, .inr rfl, .inl rfl, trivial⟩ ?_
              exact kk76
          · show SW Y _ _ (setM z (g_MrunAnew (u2 σ 5000 0 0) (nI (rn x + 1)) (cn y) (cn v) u R B K) h) 76 [.ref 5000, .int (nI (rn x + 1)), .int (nI (cn y)), .int (nI (cn v)), .int u, .int (x_Manew_76 σ x y v u R B K 0), .ref (8000 + 1), .int (nI R), .int (nI R), xx_d] []
            refine sw_iload O (xx_dt dd_X14_anew 43 rfl) rfl ?_
            refine sw_iload O (xx_dt dd_X14_anew 44 rfl) rfl ?_
            refine sw_icmp_ge (tgt := 103) O (xx_dt dd_X14_anew 45 rfl) (by decide) (fun q5 => ?_) (fun q5 => ?_)
            · refine sw_iload O (xx_dt dd_X14_anew 56 rfl) rfl ?_
              have me9 : mem_eq σ (u2 (g_MrunAnew (u2 σ 5000 0 0) (nI (rn x + 1)) (cn y) (cn v) u R B K) 8000 20 0) := (mem_eq.frame8 (τ0 := u2 σ 5000 0 0) (mem_eq.int (r := 5000) (i := 0) (x := 0) hme rfl) (fun q h9 => by rw [u2_ne (by omega)]; exact hc9.2.2.2.2.2 q h9) u2_v)
              exact sw_iretD (h' := setM z (u2 (g_MrunAnew (u2 σ 5000 0 0) (nI (rn x + 1)) (cn y) (cn v) u R B K) 8000 20 0) h) O (xx_dt dd_X14_anew 57 rfl) rfl rfl (drop8 hfr) (me9.cls hcl) (by rw [hh]; exact fun r hr => me9.dom hr) (by rw [hQ]; exact ⟨by unfold f_Manew; simp only [if_pos q1, if_pos q2, if_pos q3, if_pos q4], by unfold g_Manew; simp only [if_pos q1, if_pos q2, if_pos q3, if_pos q4]⟩)
            · exact absurd (Int32.le_refl _) q5
        · refine sw_aload_n O (xx_dt dd_X14_anew 24 rfl) rfl ?_
          refine sw_iconst (x := 2) O (xx_dt dd_X14_anew 25 rfl) (by decide) ?_
          refine sw_callVx (as := [.int 2]) (st := []) (st2 := [.int 0]) O (ct_X14_refuse hl (z := z) (σ := u2 σ 5000 0 0) hbs (x := 2)) ce_X14_refuse ml_X14_74 iv_X14_refuse cl_X14 rfl (lm_mod (σ := u2 σ 5000 0 0)) (xx_dt dd_X14_anew 26 rfl) (by decide) rfl rfl (Nat.le_of_ble_eq_true rfl) rfl ?_
          exact sw_iret O (xx_dt dd_X14_anew 27 rfl) rfl rfl (by rw [hQ]; exact ⟨by unfold f_Manew; simp only [if_pos q1, if_pos q2, if_pos q3, if_neg q4], by unfold g_Manew; simp only [if_pos q1, if_pos q2, if_pos q3, if_neg q4]⟩)
      · refine sw_aload_n O (xx_dt dd_X14_anew 15 rfl) rfl ?_
        refine sw_iconst (x := 1) O (xx_dt dd_X14_anew 16 rfl) (by decide) ?_
        refine sw_callVx (as := [.int 1]) (st := []) (st2 := [.int 0]) O (ct_X14_refuse hl (z := z) (σ := u2 σ 5000 0 0) hbs (x := 1)) ce_X14_refuse ml_X14_74 iv_X14_refuse cl_X14 rfl (lm_mod (σ := u2 σ 5000 0 0)) (xx_dt dd_X14_anew 17 rfl) (by decide) rfl rfl (Nat.le_of_ble_eq_true rfl) rfl ?_
        exact sw_iret O (xx_dt dd_X14_anew 18 rfl) rfl rfl (by rw [hQ]; exact ⟨by unfold f_Manew; simp only [if_pos q1, if_pos q2, if_neg q3], by unfold g_Manew; simp only [if_pos q1, if_pos q2, if_neg q3]⟩)
end
section
/-! ===== the reference: isLogged ===== -/
theorem ct_anew0 {l : Launch} {h : XH} (hl : l.stackTraces = false) {z : Int64} {σ : XS9} {R B K : Nat} {GA : Nat → XS9 → Prop} (hbs : xx_bs h) (hfr : ∀ r, 5000 ≤ r → r < 20010 → h r = none) (hR : σ 5001 900 = nI R) (hR5 : R ≤ 5) (hB : σ 5002 900 = nI B) (hB6 : B ≤ 6) (hK : σ 5003 900 = nI K) (hK60 : K ≤ 60) (hk8 : σ 8000 20 = 0) (ha : AH GA σ (-1) 0 0 0 R B K) : XEx l m_X14_runAnew 10 490 8638 [.ref 5000, .int (-1), .int 0, .int 0, .int 0] (setM z σ h) (some (.ref 8000)) (setM z (g_MrunAnew σ (-1) 0 0 0 R B K) h) := ct_anewH (j := 0) (r := 0) hl hbs hfr hR hR5 hB hB6 hK hK60 hk8 (by omega) (by omega) ha
def x_MisLogged_11 (σ : XS9) (R B K : Nat) (s0 : Unit) : Unit ⊕ Int32 := xitR (fun i11 s11 => (if ((g_MrunAnew σ (-1) 0 0 0 R B K) (8000 + 1) i11) = (σ (7000 + 1) i11) then .inl () else .inr 0)) R 0 s0
def x_MisLogged_50 (σ : XS9) (R B K : Nat) (s0 : Unit) : Unit ⊕ Int32 := xitR (fun i50 s50 => (if ((g_MrunAnew σ (-1) 0 0 0 R B K) (8000 + 2) i50) = (σ (7000 + 2) i50) then .inl () else .inr 0)) B 0 s0
def f_MisLogged (σ : XS9) (R B K : Nat) : Int32 := (match (x_MisLogged_11 σ R B K ()) with | .inl s11 => (match (x_MisLogged_50 σ R B K ()) with | .inl s50 => 1 | .inr r50 => r50) | .inr r11 => r11)
theorem ct_X14_isLogged {l : Launch} {h : XH} (hl : l.stackTraces = false) {z : Int64} {σ : XS9} (hbs : xx_bs h) (hfr : ∀ r, 5000 ≤ r → r < 20010 → h r = none) (hme : mem_eq σ σ) {R : Nat} (hR : σ 5001 900 = nI R) (hR5 : R ≤ 5) {B : Nat} (hB : σ 5002 900 = nI B) (hB6 : B ≤ 6) {K : Nat} (hK : σ 5003 900 = nI K) (hK60 : K ≤ 60) (hf : σ 7000 20 = nI 1) (hf5 : σ 7000 25 = nI 1) {g : Nat} (hg : σ 7000 23 = nI g) (hg1 : g < 200) {w : Nat} (hw : σ 7000 24 = nI w) (hw1 : w < 200) {GA : Nat → XS9 → Prop} (ha : AH GA σ (-1) 0 0 0 R B K)  : XEx l m_X14_isLogged 11 490 8638 [.ref 5000] (setM z σ h) (some (.int (f_MisLogged σ R B K))) (setM z (u2 (g_MrunAnew σ (-1) 0 0 0 R B K) 8000 20 0) h) := by
  refine XMet.of hl rfl rfl (Nat.le_of_ble_eq_true rfl) (fun Y O hh hQ => ?_)
  refine sw_cls (fun hcl => ?_)
  show SW Y 490 8638 (setM z σ h) 0 [.ref 5000, xx_d, xx_d] []
  refine sw_aload_n O (xx_dt dd_X14_isLogged 0 rfl) rfl ?_
  refine sw_iconst (x := (-1)) O (xx_dt dd_X14_isLogged 1 rfl) (by decide) ?_
  refine sw_iconst (x := 0) O (xx_dt dd_X14_isLogged 2 rfl) (by decide) ?_
  refine sw_iconst (x := 0) O (xx_dt dd_X14_isLogged 3 rfl) (by decide) ?_
  refine sw_iconst (x := 0) O (xx_dt dd_X14_isLogged 4 rfl) (by decide) ?_
  obtain ⟨m9, hm9, hc9⟩ := anew_out hK60 ha
  refine sw_callVx (as := [.int (-1), .int 0, .int 0, .int 0]) (st := []) (st2 := [.ref 8000]) O (ct_anew0 hl (z := z) (σ := σ) hbs hfr  hR (by omega)  hB (by omega)  hK (by omega) hme.2.1.2.2 ha) ce_X14_runAnew ml_X14_390 iv_X14_runAnew cl_X14 rfl (lm_modC (σ := σ) (fl1 hf5)) (xx_dt dd_X14_isLogged 5 rfl) (by decide) rfl rfl (Nat.le_of_ble_eq_true rfl) rfl ?_
  refine sw_astore_n (ls2 := [.ref 5000, .ref 8000, xx_d]) O (xx_dt dd_X14_isLogged 6 rfl) (by decide) rfl ?_
  refine sw_iconst (x := 0) O (xx_dt dd_X14_isLogged 7 rfl) (by decide) ?_
  refine sw_istore_n (ls2 := [.ref 5000, .ref 8000, .int 0]) O (xx_dt dd_X14_isLogged 8 rfl) (by decide) rfl ?_
  refine sw_forR (S := Unit) (R := Int32) (fun i11 s11 => (if ((g_MrunAnew σ (-1) 0 0 0 R B K) (8000 + 1) i11) = (σ (7000 + 1) i11) then .inl () else .inr 0)) (fun _ _ => True) (FR := fun r9 => f_MisLogged σ R B K = r9) (hp := fun _ => setM z (g_MrunAnew σ (-1) 0 0 0 R B K) h) (hd := 11) (lc := fun i11 s11 => [.ref 5000, .ref 8000, .int (nI i11)]) (N := R) (fun i11 s11 hi11 hP11 => ⟨fun _ _ => trivial, fun kk11 kr11 => ?_⟩) R 0 () (by omega) (trivial) (fun sN11 eN11 hP11 => ?_) (fun r11 eN11 => ?_)
  · refine sw_iload_n O (xx_dt dd_X14_isLogged 9 rfl) rfl ?_
    refine sw_aload_n O (xx_dt dd_X14_isLogged 10 rfl) rfl ?_
    refine sw_get (v := .ref 5001) O (xx_dt dd_X14_isLogged 11 rfl) cl_X14 fl_X14_23 (lm_modC (σ := g_MrunAnew σ (-1) 0 0 0 R B K) (fl1 ((congrFun (fr_MrunAnew hc9 (by omega)) 25).trans hf5))) (by decide) rfl ?_
    refine sw_callVL (ci := 6) (as := []) (st := [.int (nI i11)]) (st2 := [.int (nI R), .int (nI i11)]) O (ct_AL_size hl (lm_5001 (σ := g_MrunAnew σ (-1) 0 0 0 R B K) (R := R) ((congrFun (fr_MrunAnew hc9 (by omega)) 900).trans hR) (by omega))) ce_Jx4a65c_size_8abf5 ml_X14_57 iv_Jx4a65c_size_8abf5 cl_Jx4a65c rfl (lm_5001 (σ := g_MrunAnew σ (-1) 0 0 0 R B K) (R := R) ((congrFun (fr_MrunAnew hc9 (by omega)) 900).trans hR) (by omega)) (xx_dt dd_X14_isLogged 12 rfl) (by decide) rfl rfl (Nat.le_of_ble_eq_true rfl) rfl ?_
    refine sw_icmp_ge (tgt := 48) O (xx_dt dd_X14_isLogged 13 rfl) (by decide) (fun q1 => ?_) (fun q1 => ?_)
    · exact absurd q1 (nI_ge (b := R) hi11 (by omega))
    · refine sw_aload_n O (xx_dt dd_X14_isLogged 14 rfl) rfl ?_
      refine sw_get (v := .ref (8000 + 1)) O (xx_dt dd_X14_isLogged 15 rfl) cl_X11 fl_X14_176 (lm_clk (σ := g_MrunAnew σ (-1) 0 0 0 R B K) (b := 8000) (.inr rfl) (fl1 hc9.1) (g := 2 * m9) hc9.2.2.2.1 (by omega) (w := 2 * m9) hc9.2.2.2.2.1 (by omega)) (by decide) rfl ?_
      refine sw_iload_n O (xx_dt dd_X14_isLogged 16 rfl) rfl ?_
      refine sw_iaload (v := .int ((g_MrunAnew σ (-1) 0 0 0 R B K) (8000 + 1) i11)) O (xx_dt dd_X14_isLogged 17 rfl) ((im_kpr (z := z) (σ := g_MrunAnew σ (-1) 0 0 0 R B K) (b := 8000) (.inr rfl) hc9.1 (R := R) ((congrFun (fr_MrunAnew hc9 (by omega)) 900).trans hR) (by omega)).get _) (pk_in i11 _ (by omega)) (by rw [nI_clamp (by omega)]; try exact rfl) ?_
      refine sw_aload_n O (xx_dt dd_X14_isLogged 18 rfl) rfl ?_
      refine sw_get (v := .ref 7000) O (xx_dt dd_X14_isLogged 19 rfl) cl_X14 fl_X14_141 (lm_modC (σ := g_MrunAnew σ (-1) 0 0 0 R B K) (fl1 ((congrFun (fr_MrunAnew hc9 (by omega)) 25).trans hf5))) (by decide) rfl ?_
      refine sw_get (v := .ref (7000 + 1)) O (xx_dt dd_X14_isLogged 20 rfl) cl_X11 fl_X14_176 (lm_clk (σ := g_MrunAnew σ (-1) 0 0 0 R B K) (b := 7000) (.inl rfl) (fl1 ((congrFun (fr_MrunAnew hc9 (by omega)) 20).trans hf)) (g := g) ((congrFun (fr_MrunAnew hc9 (by omega)) 23).trans hg) (by omega) (w := w) ((congrFun (fr_MrunAnew hc9 (by omega)) 24).trans hw) (by omega)) (by decide) rfl ?_
      refine sw_iload_n O (xx_dt dd_X14_isLogged 21 rfl) rfl ?_
      refine sw_iaload (v := .int (σ (7000 + 1) i11)) O (xx_dt dd_X14_isLogged 22 rfl) ((im_kpr (z := z) (σ := g_MrunAnew σ (-1) 0 0 0 R B K) (b := 7000) (.inl rfl) ((congrFun (fr_MrunAnew hc9 (by omega)) 20).trans hf) (R := R) ((congrFun (fr_MrunAnew hc9 (by omega)) 900).trans hR) (by omega)).get _) (pk_in i11 _ (by omega)) (by rw [nI_clamp (by omega)]; exact (congrArg Value.int (congrFun (fr_MrunAnew hc9 (by omega)) i11))) ?_
      refine sw_icmp_eq (tgt := 42) O (xx_dt dd_X14_isLogged 23 rfl) (by decide) (fun q2 => ?_) (fun q2 => ?_)
      · refine sw_iinc (y := nI (i11 + 1)) (ls2 := [.ref 5000, .ref 8000, .int (nI (i11 + 1))]) O (xx_dt dd_X14_isLogged 26 rfl) rfl (nI_1 _) (by decide) rfl ?_
        refine sw_goto (tgt := 11) O (xx_dt dd_X14_isLogged 27 rfl) (by decide) ?_
        exact kk11 () (by simp only [if_pos q2])
      · refine sw_iconst (x := 0) O (xx_dt dd_X14_isLogged 24 rfl) (by decide) ?_
        have me9 : mem_eq σ (u2 (g_MrunAnew σ (-1) 0 0 0 R B K) 8000 20 0) := (mem_eq.frame8 (τ0 := σ) hme (fun q h9 => by rw [u2_ne (by omega)]; exact hc9.2.2.2.2.2 q h9) u2_v)
        exact sw_iretD (h' := setM z (u2 (g_MrunAnew σ (-1) 0 0 0 R B K) 8000 20 0) h) O (xx_dt dd_X14_isLogged 25 rfl) rfl rfl (drop8 hfr) (me9.cls hcl) (by rw [hh]; exact fun r hr => me9.dom hr) (by rw [hQ]; exact ⟨by rw [kr11 0 (by simp only [if_neg q2])], rfl⟩)
  · show SW Y _ _ (setM z (g_MrunAnew σ (-1) 0 0 0 R B K) h) 11 [.ref 5000, .ref 8000, .int (nI R)] []
    refine sw_iload_n O (xx_dt dd_X14_isLogged 9 rfl) rfl ?_
    refine sw_aload_n O (xx_dt dd_X14_isLogged 10 rfl) rfl ?_
    refine sw_get (v := .ref 5001) O (xx_dt dd_X14_isLogged 11 rfl) cl_X14 fl_X14_23 (lm_modC (σ := g_MrunAnew σ (-1) 0 0 0 R B K) (fl1 ((congrFun (fr_MrunAnew hc9 (by omega)) 25).trans hf5))) (by decide) rfl ?_
    refine sw_callVL (ci := 6) (as := []) (st := [.int (nI R)]) (st2 := [.int (nI R), .int (nI R)]) O (ct_AL_size hl (lm_5001 (σ := g_MrunAnew σ (-1) 0 0 0 R B K) (R := R) ((congrFun (fr_MrunAnew hc9 (by omega)) 900).trans hR) (by omega))) ce_Jx4a65c_size_8abf5 ml_X14_57 iv_Jx4a65c_size_8abf5 cl_Jx4a65c rfl (lm_5001 (σ := g_MrunAnew σ (-1) 0 0 0 R B K) (R := R) ((congrFun (fr_MrunAnew hc9 (by omega)) 900).trans hR) (by omega)) (xx_dt dd_X14_isLogged 12 rfl) (by decide) rfl rfl (Nat.le_of_ble_eq_true rfl) rfl ?_
    refine sw_icmp_ge (tgt := 48) O (xx_dt dd_X14_isLogged 13 rfl) (by decide) (fun q1 => ?_) (fun q1 => ?_)
    · refine sw_iconst (x := 0) O (xx_dt dd_X14_isLogged 28 rfl) (by decide) ?_
      refine sw_istore_n (ls2 := [.ref 5000, .ref 8000, .int 0]) O (xx_dt dd_X14_isLogged 29 rfl) (by decide) rfl ?_
      refine sw_forR (S := Unit) (R := Int32) (fun i50 s50 => (if ((g_MrunAnew σ (-1) 0 0 0 R B K) (8000 + 2) i50) = (σ (7000 + 2) i50) then .inl () else .inr 0)) (fun _ _ => True) (FR := fun r9 => f_MisLogged σ R B K = r9) (hp := fun _ => setM z (g_MrunAnew σ (-1) 0 0 0 R B K) h) (hd := 50) (lc := fun i50 s50 => [.ref 5000, .ref 8000, .int (nI i50)]) (N := B) (fun i50 s50 hi50 hP50 => ⟨fun _ _ => trivial, fun kk50 kr50 => ?_⟩) B 0 () (by omega) (trivial) (fun sN50 eN50 hP50 => ?_) (fun r50 eN50 => ?_)
      · refine sw_iload_n O (xx_dt dd_X14_isLogged 30 rfl) rfl ?_
        refine sw_aload_n O (xx_dt dd_X14_isLogged 31 rfl) rfl ?_
        refine sw_get (v := .ref 5002) O (xx_dt dd_X14_isLogged 32 rfl) cl_X14 fl_X14_27 (lm_modC (σ := g_MrunAnew σ (-1) 0 0 0 R B K) (fl1 ((congrFun (fr_MrunAnew hc9 (by omega)) 25).trans hf5))) (by decide) rfl ?_
        refine sw_callVL (ci := 6) (as := []) (st := [.int (nI i50)]) (st2 := [.int (nI B), .int (nI i50)]) O (ct_AL_size hl (lm_5002 (σ := g_MrunAnew σ (-1) 0 0 0 R B K) (B := B) ((congrFun (fr_MrunAnew hc9 (by omega)) 900).trans hB) (by omega))) ce_Jx4a65c_size_8abf5 ml_X14_57 iv_Jx4a65c_size_8abf5 cl_Jx4a65c rfl (lm_5002 (σ := g_MrunAnew σ (-1) 0 0 0 R B K) (B := B) ((congrFun (fr_MrunAnew hc9 (by omega)) 900).trans hB) (by omega)) (xx_dt dd_X14_isLogged 33 rfl) (by decide) rfl rfl (Nat.le_of_ble_eq_true rfl) rfl ?_
        refine sw_icmp_ge (tgt := 87) O (xx_dt dd_X14_isLogged 34 rfl) (by decide) (fun q3 => ?_) (fun q3 => ?_)
        · exact absurd q3 (nI_ge (b := B) hi50 (by omega))
        · refine sw_aload_n O (xx_dt dd_X14_isLogged 35 rfl) rfl ?_
          refine sw_get (v := .ref (8000 + 2)) O (xx_dt dd_X14_isLogged 36 rfl) cl_X11 fl_X14_192 (lm_clk (σ := g_MrunAnew σ (-1) 0 0 0 R B K) (b := 8000) (.inr rfl) (fl1 hc9.1) (g := 2 * m9) hc9.2.2.2.1 (by omega) (w := 2 * m9) hc9.2.2.2.2.1 (by omega)) (by decide) rfl ?_
          refine sw_iload_n O (xx_dt dd_X14_isLogged 37 rfl) rfl ?_
          refine sw_iaload (v := .int ((g_MrunAnew σ (-1) 0 0 0 R B K) (8000 + 2) i50)) O (xx_dt dd_X14_isLogged 38 rfl) ((im_khe (z := z) (σ := g_MrunAnew σ (-1) 0 0 0 R B K) (b := 8000) (.inr rfl) hc9.1).get _) (pk_in i50 _ (by omega)) (by rw [nI_clamp (by omega)]; try exact rfl) ?_
          refine sw_aload_n O (xx_dt dd_X14_isLogged 39 rfl) rfl ?_
          refine sw_get (v := .ref 7000) O (xx_dt dd_X14_isLogged 40 rfl) cl_X14 fl_X14_141 (lm_modC (σ := g_MrunAnew σ (-1) 0 0 0 R B K) (fl1 ((congrFun (fr_MrunAnew hc9 (by omega)) 25).trans hf5))) (by decide) rfl ?_
          refine sw_get (v := .ref (7000 + 2)) O (xx_dt dd_X14_isLogged 41 rfl) cl_X11 fl_X14_192 (lm_clk (σ := g_MrunAnew σ (-1) 0 0 0 R B K) (b := 7000) (.inl rfl) (fl1 ((congrFun (fr_MrunAnew hc9 (by omega)) 20).trans hf)) (g := g) ((congrFun (fr_MrunAnew hc9 (by omega)) 23).trans hg) (by omega) (w := w) ((congrFun (fr_MrunAnew hc9 (by omega)) 24).trans hw) (by omega)) (by decide) rfl ?_
          refine sw_iload_n O (xx_dt dd_X14_isLogged 42 rfl) rfl ?_
          refine sw_iaload (v := .int (σ (7000 + 2) i50)) O (xx_dt dd_X14_isLogged 43 rfl) ((im_khe (z := z) (σ := g_MrunAnew σ (-1) 0 0 0 R B K) (b := 7000) (.inl rfl) ((congrFun (fr_MrunAnew hc9 (by omega)) 20).trans hf)).get _) (pk_in i50 _ (by omega)) (by rw [nI_clamp (by omega)]; exact (congrArg Value.int (congrFun (fr_MrunAnew hc9 (by omega)) i50))) ?_
          refine sw_icmp_eq (tgt := 81) O (xx_dt dd_X14_isLogged 44 rfl) (by decide) (fun q4 => ?_) (fun q4 => ?_)
          · refine sw_iinc (y := nI (i50 + 1)) (ls2 := [.ref 5000, .ref 8000, .int (nI (i50 + 1))]) O (xx_dt dd_X14_isLogged 47 rfl) rfl (nI_1 _) (by decide) rfl ?_
            refine sw_goto (tgt := 50) O (xx_dt dd_X14_isLogged 48 rfl) (by decide) ?_
            exact kk50 () (by simp only [if_pos q4])
          · refine sw_iconst (x := 0) O (xx_dt dd_X14_isLogged 45 rfl) (by decide) ?_
            have me9 : mem_eq σ (u2 (g_MrunAnew σ (-1) 0 0 0 R B K) 8000 20 0) := (mem_eq.frame8 (τ0 := σ) hme (fun q h9 => by rw [u2_ne (by omega)]; exact hc9.2.2.2.2.2 q h9) u2_v)
            exact sw_iretD (h' := setM z (u2 (g_MrunAnew σ (-1) 0 0 0 R B K) 8000 20 0) h) O (xx_dt dd_X14_isLogged 46 rfl) rfl rfl (drop8 hfr) (me9.cls hcl) (by rw [hh]; exact fun r hr => me9.dom hr) (by rw [hQ]; exact ⟨by rw [kr50 0 (by simp only [if_neg q4])], rfl⟩)
      · show SW Y _ _ (setM z (g_MrunAnew σ (-1) 0 0 0 R B K) h) 50 [.ref 5000, .ref 8000, .int (nI B)] []
        refine sw_iload_n O (xx_dt dd_X14_isLogged 30 rfl) rfl ?_
        refine sw_aload_n O (xx_dt dd_X14_isLogged 31 rfl) rfl ?_
        refine sw_get (v := .ref 5002) O (xx_dt dd_X14_isLogged 32 rfl) cl_X14 fl_X14_27 (lm_modC (σ := g_MrunAnew σ (-1) 0 0 0 R B K) (fl1 ((congrFun (fr_MrunAnew hc9 (by omega)) 25).trans hf5))) (by decide) rfl ?_
        refine sw_callVL (ci := 6) (as := []) (st := [.int (nI B)]) (st2 := [.int (nI B), .int (nI B)]) O (ct_AL_size hl (lm_5002 (σ := g_MrunAnew σ (-1) 0 0 0 R B K) (B := B) ((congrFun (fr_MrunAnew hc9 (by omega)) 900).trans hB) (by omega))) ce_Jx4a65c_size_8abf5 ml_X14_57 iv_Jx4a65c_size_8abf5 cl_Jx4a65c rfl (lm_5002 (σ := g_MrunAnew σ (-1) 0 0 0 R B K) (B := B) ((congrFun (fr_MrunAnew hc9 (by omega)) 900).trans hB) (by omega)) (xx_dt dd_X14_isLogged 33 rfl) (by decide) rfl rfl (Nat.le_of_ble_eq_true rfl) rfl ?_
        refine sw_icmp_ge (tgt := 87) O (xx_dt dd_X14_isLogged 34 rfl) (by decide) (fun q3 => ?_) (fun q3 => ?_)
        · refine sw_iconst (x := 1) O (xx_dt dd_X14_isLogged 49 rfl) (by decide) ?_
          have me9 : mem_eq σ (u2 (g_MrunAnew σ (-1) 0 0 0 R B K) 8000 20 0) := (mem_eq.frame8 (τ0 := σ) hme (fun q h9 => by rw [u2_ne (by omega)]; exact hc9.2.2.2.2.2 q h9) u2_v)
          exact sw_iretD (h' := setM z (u2 (g_MrunAnew σ (-1) 0 0 0 R B K) 8000 20 0) h) O (xx_dt dd_X14_isLogged 50 rfl) rfl rfl (drop8 hfr) (me9.cls hcl) (by rw [hh]; exact fun r hr => me9.dom hr) (by rw [hQ]; exact ⟨by unfold f_MisLogged; simp only [x_MisLogged_11, eN11, x_MisLogged_50, eN50], rfl⟩)
        · exact absurd (Int32.le_refl _) q3
      · unfold f_MisLogged; simp only [x_MisLogged_50, x_MisLogged_11, eN11, eN50]
    · exact absurd (Int32.le_refl _) q1
  · unfold f_MisLogged; simp only [x_MisLogged_11, eN11]
end
section
/-! ===== the reference: add ===== -/
theorem lyQ_z {z y : Int64} {C : XS9} {r : Nat} {s : Nat → Int32} (hr : r ≠ 5000) : lyQ z C r s = lyQ y C r s := by
  unfold lyQ
  by_cases u : r < 5010
  · rw [if_pos u, if_pos u]
    split <;> first | rfl | (exfalso; omega)
  · rw [if_neg u, if_neg u]
theorem pm_sum {z y : Int64} {σ : XS9} {h : XH} : xx_up (setM z σ h) 5000 (20, 17, updV (fun k => match k with | 8 => .ref 5001 | 9 => .ref 5002 | 10 => .ref 5003 | 11 => .ref 5004 | 12 => (if σ 7000 25 = 0 then .null else .ref 7000) | 13 => .ref 5005 | 14 => .ref 5006 | 15 => .ref 5007 | 16 => .long z | k => .int ((σ 5000) k)) 16 (.long y)) = setM y σ h := by
  funext q
  unfold xx_up
  by_cases a : q = 5000
  · rw [if_pos a, a, lm_mod]
    congr 3
    funext k
    unfold updV
    by_cases e : k = 16
    · subst e; rfl
    · rw [if_neg e]
      match k, e with
      | 0, _ | 1, _ | 2, _ | 3, _ | 4, _ | 5, _ | 6, _ | 7, _ | 8, _ | 9, _ | 10, _ | 11, _ | 12, _ | 13, _ | 14, _ | 15, _ => rfl
      | 16, e => exact absurd rfl e
      | _ + 17, _ => rfl
  · rw [if_neg a]
    unfold setM
    rw [lyQ_z (z := z) (y := y) a]
theorem ct_X14_add {l : Launch} {h : XH} (hl : l.stackTraces = false) {z : Int64} {σ : XS9} {v : Int64} : XEx l m_X14_add 0 0 0 [.ref 5000, .long v] (setM z σ h) none (setM ((z * 31) + v) σ h) := by
  refine XMet.of hl rfl rfl (Nat.le_of_ble_eq_true rfl) (fun Y O hh hQ => ?_)
  show SW Y 0 0 (setM z σ h) 0 [.ref 5000, .long v, xx_d] []
  refine sw_aload_n O (xx_dt dd_X14_add 0 rfl) rfl ?_
  refine sw_aload_n O (xx_dt dd_X14_add 1 rfl) rfl ?_
  refine sw_get (v := .long z) O (xx_dt dd_X14_add 2 rfl) cl_X14 fl_X14_407 (lm_mod (σ := σ)) (by decide) rfl ?_
  refine sw_ldc2 O ct_X14_411 (xx_dt dd_X14_add 3 rfl) ?_
  refine sw_lmul O (xx_dt dd_X14_add 4 rfl) ?_
  refine sw_lload_n O (xx_dt dd_X14_add 5 rfl) rfl ?_
  refine sw_ladd O (xx_dt dd_X14_add 6 rfl) ?_
  refine sw_put (h2 := setM ((z * 31) + v) σ h) O (xx_dt dd_X14_add 7 rfl) cl_X14 fl_X14_407 (lm_mod (σ := σ)) (by decide) (by omega) rfl (fun _ => ⟨rfl, rfl⟩) pm_sum ?_
  exact sw_ret O (xx_dt dd_X14_add 8 rfl) rfl (by rw [hQ]; exact ⟨rfl, rfl⟩)
end
section
/-! ===== loops with an early return and allocation; a temporary dropped in the midst ===== -/
theorem sw_forRV {Y : XY} {kf nf : Nat → Nat} {S R : Type} (step : Nat → S → S ⊕ R) (P : Nat → S → Prop) {FR : R → Prop} {hd : Nat} {hp : S → XH} {lc : Nat → S → List Value} {N : Nat}
    (hstep : ∀ i s, i < N → P i s → (∀ s', step i s = .inl s' → P (i + 1) s') ∧ ((∀ s', step i s = .inl s' → SW Y (kf (i + 1)) (nf (i + 1)) (hp s') hd (lc (i + 1) s') []) → (∀ r, step i s = .inr r → FR r) → SW Y (kf i) (nf i) (hp s) hd (lc i s) [])) :
    ∀ (f i : Nat) (s : S), i + f = N → P i s → (∀ s', xitR step f i s = .inl s' → P N s' → SW Y (kf N) (nf N) (hp s') hd (lc N s') []) → (∀ r, xitR step f i s = .inr r → FR r) → SW Y (kf i) (nf i) (hp s) hd (lc i s) []
  | 0, i, s, e, hP, kk, kr => by
    obtain rfl : i = N := by omega
    exact kk s rfl hP
  | f + 1, i, s, e, hP, kk, kr => by
    obtain ⟨h1, h2⟩ := hstep i s (by omega) hP
    refine h2 (fun s' e' => sw_forRV step P hstep f (i + 1) s' (by omega) (h1 s' e') (fun s'' e'' => kk s'' ?_) (fun r e'' => kr r ?_)) (fun r e' => kr r ?_)
    · show (match step i s with | .inl s' => xitR step f (i + 1) s' | .inr r => .inr r) = _
      rw [e']; exact e''
    · show (match step i s with | .inl s' => xitR step f (i + 1) s' | .inr r => .inr r) = _
      rw [e']; exact e''
    · show (match step i s with | .inl s' => xitR step f (i + 1) s' | .inr r => .inr r) = _
      rw [e']
/-- the memory as it was before a temporary was made -/
theorem subT {z : Int64} {σ τ : XS9} {h : XH} {q : Nat} (hq : 20000 ≤ q ∧ q < 20010) (h0 : σ q 20 = 0) (hτ : ∀ r, r ≠ q → τ r = σ r) (hfr : ∀ r, 5000 ≤ r → r < 20010 → h r = none) : xx_sub (setM z σ h) (setM z τ h) := by
  intro r c hc
  by_cases e : r = q
  · subst e
    rw [setM_tn hq h0, hfr r (by omega) (by omega)] at hc
    cases hc
  · have t : setM z τ h r = setM z σ h r := by
      unfold setM
      rw [hτ r e, lyQ_ctl (C := ctl τ) (C' := ctl σ) (fun p i hp => by unfold ctl; rw [hτ p (by omega)]) (.inr (.inr fun i => by unfold ctl; rw [hτ r e]))]
    rw [t]
    exact hc
theorem in_mod {z : Int64} {σ : XS9} {h : XH} : xx_in (setM z σ h) (.ref 5000) := by
  show (setM z σ h 5000).isSome = true
  rw [lm_mod]
  rfl
end
section
/-! ===== what was made and dropped leaves the memory as it was ===== -/
theorem setM_same {z : Int64} {σ τ : XS9} {h : XH} (e : mem_eq σ τ) (h1 : ∀ q, (q < 8000 ∨ 9010 ≤ q) → (q < 20000 ∨ 20010 ≤ q) → τ q = σ q) : setM z τ h = setM z σ h := by
  funext r
  unfold setM
  rw [e.lq]
  by_cases a : (r < 8000 ∨ 9010 ≤ r) ∧ (r < 20000 ∨ 20010 ≤ r)
  · rw [h1 r a.1 a.2]
  · have N : ∀ s, lyQ z (ctl σ) r s = none := fun s => by
      by_cases b : r < 9000
      · obtain ⟨i, rfl⟩ : ∃ i, r = 8000 + i := ⟨r - 8000, by omega⟩
        exact noq_K (.inr rfl) e.2.1.2.2 (by omega) s
      · by_cases c : r < 9010
        · have e9 : ctl σ 9000 20 = 0 := e.2.1.1.2
          unfold lyQ
          rw [if_neg (by omega), if_neg (by omega), if_neg (by omega), if_neg (by omega), if_neg (by omega), if_neg (by omega), if_neg (by omega), if_neg (by omega), if_neg (by omega), if_neg (by omega), if_neg (by omega), if_neg (by omega), if_neg (by omega), if_neg (by omega), if_pos c, if_pos e9]
        · have hq : 20000 ≤ r ∧ r < 20010 := by omega
          have e8 : ctl σ r 20 = 0 := (ctl_at (by rw [tmpCtl hq]; rfl)).trans (e.2.2 r hq.1 hq.2).2
          rw [lq_tmp hq, if_pos e8]
    rw [N, N]
theorem ct_isLogged {l : Launch} {h : XH} (hl : l.stackTraces = false) {z : Int64} {σ : XS9} (hbs : xx_bs h) (hfr : ∀ r, 5000 ≤ r → r < 20010 → h r = none) (hme : mem_eq σ σ) {R : Nat} (hR : σ 5001 900 = nI R) (hR5 : R ≤ 5) {B : Nat} (hB : σ 5002 900 = nI B) (hB6 : B ≤ 6) {K : Nat} (hK : σ 5003 900 = nI K) (hK60 : K ≤ 60) (hf : σ 7000 20 = nI 1) (hf5 : σ 7000 25 = nI 1) {g : Nat} (hg : σ 7000 23 = nI g) (hg1 : g < 200) {w : Nat} (hw : σ 7000 24 = nI w) (hw1 : w < 200) {GA : Nat → XS9 → Prop} (ha : AH GA σ (-1) 0 0 0 R B K) : XEx l m_X14_isLogged 11 490 8638 [.ref 5000] (setM z σ h) (some (.int (f_MisLogged σ R B K))) (setM z σ h) := by
  have t := ct_X14_isLogged hl (z := z) (σ := σ) hbs hfr hme hR hR5 hB hB6 hK hK60 hf hf5 hg hg1 hw hw1 ha
  obtain ⟨m9, hm9, hc9⟩ := anew_out hK60 ha
  rwa [setM_same (σ := σ) (τ := u2 (g_MrunAnew σ (-1) 0 0 0 R B K) 8000 20 0) (mem_eq.frame8 (τ0 := σ) hme (fun q h9 => by rw [u2_ne (by omega)]; exact hc9.2.2.2.2.2 q h9) u2_v) (fun q h1 h2 => by
    rcases h1 with h1 | h1
    · rw [u2_ne (by omega)]; exact hc9.2.2.2.2.2 q (.inl h1)
    · rw [u2_ne (by omega)]; exact hc9.2.2.2.2.2 q (.inr (by omega)))] at t
theorem mem_same0 {σ : XS9} (hme : mem_eq σ σ) : mem_eq (u2 σ 5000 0 0) (u2 σ 5000 0 0) := by
  refine ⟨fun _ _ _ _ _ => rfl, ⟨⟨?_, ?_⟩, ?_, ?_⟩, fun q a b => ?_⟩
  · rw [u2_ne (by omega)]; exact hme.2.1.1.1
  · rw [u2_ne (by omega)]; exact hme.2.1.1.1
  · rw [u2_ne (by omega)]; exact hme.2.1.2.1
  · rw [u2_ne (by omega)]; exact hme.2.1.2.1
  · rw [u2_ne (by omega)]; exact hme.2.2 q a b
def t_anew (x y v u : Int32) (R B K : Nat) : Int32 := if n_rd x K then (if n_lt y B then (if n_lt v R then (if n_bt u 0 5 then 0 else 2) else 1) else 1) else 1
theorem ct_anew {l : Launch} {h : XH} (hl : l.stackTraces = false) {z : Int64} {σ : XS9} (hbs : xx_bs h) (hfr : ∀ r, 5000 ≤ r → r < 20010 → h r = none) (hme : mem_eq σ σ) {R : Nat} (hR : σ 5001 900 = nI R) (hR5 : R ≤ 5) {B : Nat} (hB : σ 5002 900 = nI B) (hB6 : B ≤ 6) {K : Nat} (hK : σ 5003 900 = nI K) (hK60 : K ≤ 60) {x y v u : Int32} {GA : Nat → XS9 → Prop} (ha9 : n_rd x K → n_lt y B → n_lt v R → n_bt u 0 5 → AH GA (u2 σ 5000 0 0) (nI (rn x + 1)) (cn y) (cn v) u R B K) : XEx l m_X14_anew 11 490 8638 [.ref 5000, .int x, .int y, .int v, .int u] (setM z σ h) (some (.int (f_Manew σ x y v u R B K))) (setM z (u2 (u2 σ 5000 0 0) 5000 0 (t_anew x y v u R B K)) h) := by
  have t := ct_X14_anew hl (z := z) (σ := σ) hbs hfr hme hR hR5 hB hB6 hK hK60 ha9
  have e0 : u2 (u2 σ 5000 0 0) 5000 0 0 = u2 σ 5000 0 0 := by
    funext q i
    by_cases a : q = 5000
    · rw [a]
      by_cases b : i = 0
      · rw [b, u2_v, u2_v]
      · rw [u2_nj b]
    · rw [u2_ne a]
  unfold g_Manew at t
  unfold t_anew
  by_cases a1 : n_rd x K
  · by_cases a2 : n_lt y B
    · by_cases a3 : n_lt v R
      · by_cases a4 : n_bt u 0 5
        · have ha := ha9 a1 a2 a3 a4
          obtain ⟨m9, hm9, hc9⟩ := anew_out hK60 ha
          have e : setM z (u2 (g_MrunAnew (u2 σ 5000 0 0) (nI (rn x + 1)) (cn y) (cn v) u R B K) 8000 20 0) h = setM z (u2 σ 5000 0 0) h := setM_same (σ := u2 σ 5000 0 0) (mem_eq.frame8 (τ0 := u2 σ 5000 0 0) (mem_same0 hme) (fun q h9 => by rw [u2_ne (by omega)]; exact hc9.2.2.2.2.2 q h9) u2_v) (fun q h1 h2 => by
            rcases h1 with h1 | h1
            · rw [u2_ne (by omega)]; exact hc9.2.2.2.2.2 q (.inl h1)
            · rw [u2_ne (by omega)]; exact hc9.2.2.2.2.2 q (.inr (by omega)))
          rw [if_pos a1, if_pos a2, if_pos a3, if_pos a4, e] at t
          rw [if_pos a1, if_pos a2, if_pos a3, if_pos a4, e0]
          exact t
        · rw [if_pos a1, if_pos a2, if_pos a3, if_neg a4] at t
          rw [if_pos a1, if_pos a2, if_pos a3, if_neg a4]
          exact t
      · rw [if_pos a1, if_pos a2, if_neg a3] at t
        rw [if_pos a1, if_pos a2, if_neg a3]
        exact t
    · rw [if_pos a1, if_neg a2] at t
      rw [if_pos a1, if_neg a2]
      exact t
  · rw [if_neg a1] at t
    rw [if_neg a1]
    exact t
end
section
/-! ===== the reference: areNamed ===== -/
def x_MareNamed_22 (B : Nat) (sp tn : Nat → Nat) (i2 : Nat) (s0 : XS9) : XS9 := xit (fun i22 s22 => (if (f_MholderNow s22 i2 (nI i22) B tn) = (-1) then s22 else u2 s22 20000 (cn (f_MholderNow s22 i2 (nI i22) B tn)) ((s22 20000 (cn (f_MholderNow s22 i2 (nI i22) B tn))) + 1))) (sp i2) 0 s0
def x_MareNamed_73 (σ : XS9) (B : Nat) (sp tn pk : Nat → Nat) (i2 : Nat) (s0 : Int32) : Int32 ⊕ Int32 := xitR (fun i73 s73 => (if (σ 5005 i73) = (-1) then (if ((x_MareNamed_22 B sp tn i2 (uR σ 20000 (rowN 6))) 20000 i73) = 0 then .inl (s73 + 0) else .inr 0) else (if ((x_MareNamed_22 B sp tn i2 (uR σ 20000 (rowN 6))) 20000 i73) = (f_of (f_Bcode (x_MareNamed_22 B sp tn i2 (uR σ 20000 (rowN 6))) i73 (cn (σ 5005 i73))) i2) then .inl (s73 + (f_of (f_Bcode (x_MareNamed_22 B sp tn i2 (uR σ 20000 (rowN 6))) i73 (cn (σ 5005 i73))) i2)) else .inr 0))) B 0 s0
def x_MareNamed_2 (σ : XS9) (R B : Nat) (sp tn pk : Nat → Nat) (s0 : Unit) : Unit ⊕ Int32 := xitR (fun i2 s2 => (match (x_MareNamed_73 σ B sp tn pk i2 0) with | .inl s73 => (if s73 ≤ (nI (sp i2)) then .inl () else .inr 0) | .inr r73 => .inr r73)) R 0 s0
theorem fx_named {B : Nat} {sp tn : Nat → Nat} {i2 : Nat} {s0 : XS9} {q : Nat} (h : q ≠ 20000) : x_MareNamed_22 B sp tn i2 s0 q = s0 q := xit_keep (fun s : XS9 => s q) (fun i s => by (try dsimp only); (repeat' split) <;> first | rfl | rw [u2_ne h]) _ _ _
def f_MareNamed (σ : XS9) (R B : Nat) (sp tn pk : Nat → Nat) : Int32 := (match (x_MareNamed_2 σ R B sp tn pk ()) with | .inl s2 => 1 | .inr r2 => r2)
theorem ct_X14_areNamed {l : Launch} {h : XH} (hl : l.stackTraces = false) {z : Int64} {σ : XS9} (hbs : xx_bs h) (hfr : ∀ r, 5000 ≤ r → r < 20010 → h r = none) (hme : mem_eq σ σ) {R : Nat} (hR : σ 5001 900 = nI R) (hR5 : R ≤ 5) {B : Nat} (hB : σ 5002 900 = nI B) (hB6 : B ≤ 6) {pk : Nat → Nat} (hpk : ∀ j, j < B → σ (5030 + j) 900 = nI (2 * pk j) ∧ pk j ≤ 6) (hkp : ∀ j, j < B → σ 5005 j = -1 ∨ ∃ n, n < pk j ∧ σ 5005 j = nI n) {tn : Nat → Nat} (htn : ∀ r, r < 5 → σ 5007 r = nI (tn r) ∧ tn r < 6) {sp : Nat → Nat} (hsp : ∀ r, r < R → σ (5010 + r) 0 = nI (sp r) ∧ sp r ≤ 5) (hho : ∀ (s : XS9) i j, (∀ q, q ≠ 20000 → s q = σ q) → i < R → j < sp i → f_MholderNow s i (nI j) B tn = -1 ∨ n_lt (f_MholderNow s i (nI j) B tn) 6)  : XEx l m_X14_areNamed 8 5 30 [.ref 5000] (setM z σ h) (some (.int (f_MareNamed σ R B sp tn pk))) (setM z σ h) := by
  refine XMet.of hl rfl rfl (Nat.le_of_ble_eq_true rfl) (fun Y O hh hQ => ?_)
  refine sw_cls (fun hcl => ?_)
  show SW Y 5 30 (setM z σ h) 0 [.ref 5000, xx_d, xx_d, xx_d, xx_d, xx_d] []
  refine sw_iconst (x := 0) O (xx_dt dd_X14_areNamed 0 rfl) (by decide) ?_
  refine sw_istore_n (ls2 := [.ref 5000, .int 0, xx_d, xx_d, xx_d, xx_d]) O (xx_dt dd_X14_areNamed 1 rfl) (by decide) rfl ?_
  refine xx_wid (k' := 0 + 1 * (R - 0)) (n' := 0 + 6 * (R - 0)) (by omega) (by omega) ?_
  refine sw_forRV (kf := fun i9 => 0 + 1 * (R - i9)) (nf := fun i9 => 0 + 6 * (R - i9)) (S := Unit) (R := Int32) (fun i2 s2 => (match (x_MareNamed_73 σ B sp tn pk i2 0) with | .inl s73 => (if s73 ≤ (nI (sp i2)) then .inl () else .inr 0) | .inr r73 => .inr r73)) (fun _ _ => True) (FR := fun r9 => f_MareNamed σ R B sp tn pk = r9) (hp := fun _ => setM z σ h) (hd := 2) (lc := fun i2 s2 => [.ref 5000, .int (nI i2), xx_d, xx_d, xx_d, xx_d]) (N := R) (fun i2 s2 hi2 hP2 => ⟨fun _ _ => trivial, fun kk2 kr2 => ?_⟩) R 0 () (by omega) (trivial) (fun sN2 eN2 hP2 => ?_) (fun r2 eN2 => ?_)
  · obtain ⟨kA, ekA⟩ : ∃ k, k = 0 + 1 * (R - (i2 + 1)) := ⟨_, rfl⟩
    obtain ⟨nA, enA⟩ : ∃ k, k = 0 + 6 * (R - (i2 + 1)) := ⟨_, rfl⟩
    obtain ⟨kB, ekB⟩ : ∃ k, k = kA + 1 := ⟨_, rfl⟩
    obtain ⟨nB, enB⟩ : ∃ k, k = nA + 6 := ⟨_, rfl⟩
    refine xx_wid (k' := kB) (n' := nB) (by show _ ≤ 0 + 1 * (R - i2); omega) (by show _ ≤ 0 + 6 * (R - i2); omega) ?_
    refine sw_iload_n O (xx_dt dd_X14_areNamed 2 rfl) rfl ?_
    refine sw_aload_n O (xx_dt dd_X14_areNamed 3 rfl) rfl ?_
    refine sw_get (v := .ref 5001) O (xx_dt dd_X14_areNamed 4 rfl) cl_X14 fl_X14_23 (lm_mod (σ := σ)) (by decide) rfl ?_
    refine sw_callVL (ci := 6) (as := []) (st := [.int (nI i2)]) (st2 := [.int (nI R), .int (nI i2)]) O (ct_AL_size hl (lm_5001 (σ := σ) (R := R) hR (by omega))) ce_Jx4a65c_size_8abf5 ml_X14_57 iv_Jx4a65c_size_8abf5 cl_Jx4a65c rfl (lm_5001 (σ := σ) (R := R) hR (by omega)) (xx_dt dd_X14_areNamed 5 rfl) (by decide) rfl rfl (Nat.le_of_ble_eq_true rfl) rfl ?_
    refine sw_icmp_ge (tgt := 176) O (xx_dt dd_X14_areNamed 6 rfl) (by decide) (fun q1 => ?_) (fun q1 => ?_)
    · exact absurd q1 (nI_ge (b := R) hi2 (by omega))
    · refine xx_wid (k' := kA + 1) (n' := nA + 6) (by omega) (by omega) (sw_callSx (k := kA) (n := nA) (k' := 1) (n' := 6) (as := []) (st := []) (st2 := [.ref 20000]) O (ct_codes hl (a := 20000) ((setM_tn (z := z) (σ := σ) (q := 20000) (by omega) (hme.2.2 20000 (by omega) (by omega)).2).trans (hfr 20000 (by omega) (by omega))) (by omega)) ce_X14_codes ml_X14_400 st_X14_codes (xx_dt dd_X14_areNamed 7 rfl) (by decide) rfl rfl (Nat.le_of_ble_eq_true rfl) rfl ?_)
      refine sw_alter (F2 := fun k => .int (rowN 6 k)) (xx_up_eq _ _ _) (fun j9 hj9 => (rowN_lt (by omega)).symm) ?_
      rw [xx_up_up]
      rw [new_tmp (σ := σ) (q := 20000) (n := 6) (by omega) (by omega)]
      refine sw_astore_n (ls2 := [.ref 5000, .int (nI i2), .ref 20000, xx_d, xx_d, xx_d]) O (xx_dt dd_X14_areNamed 8 rfl) (by decide) rfl ?_
      refine sw_iconst (x := 0) O (xx_dt dd_X14_areNamed 9 rfl) (by decide) ?_
      refine sw_istore_n (ls2 := [.ref 5000, .int (nI i2), .ref 20000, .int 0, xx_d, xx_d]) O (xx_dt dd_X14_areNamed 10 rfl) (by decide) rfl ?_
      refine sw_iconst (x := 0) O (xx_dt dd_X14_areNamed 11 rfl) (by decide) ?_
      refine sw_istore (ls2 := [.ref 5000, .int (nI i2), .ref 20000, .int 0, .int 0, xx_d]) O (xx_dt dd_X14_areNamed 12 rfl) (by decide) rfl ?_
      refine sw_for (S := XS9) (fun i22 s22 => (if (f_MholderNow s22 i2 (nI i22) B tn) = (-1) then s22 else u2 s22 20000 (cn (f_MholderNow s22 i2 (nI i22) B tn)) ((s22 20000 (cn (f_MholderNow s22 i2 (nI i22) B tn))) + 1))) (fun _ s22 => s22 20000 20 = nI 1 ∧ s22 20000 21 = nI 6 ∧ (∀ q, q ≠ 20000 → s22 q = (uR σ 20000 (rowN 6)) q)) (hp := fun s22 => setM z s22 h) (hd := 22) (lc := fun i22 s22 => [.ref 5000, .int (nI i2), .ref 20000, .int 0, .int (nI i22), xx_d]) (N := (sp i2)) (fun i22 s22 hi22 hP22 => ⟨(by (try dsimp only); split <;> first | exact hP22 | (have h9 := ((hho _ i2 i22 (fun q9 hq9 => (hP22.2.2 q9 hq9).trans (uR_ne hq9)) (by omega) (by omega)).resolve_left (by assumption)).2; exact ⟨by rw [u2_oi (by omega)]; exact hP22.1, by rw [u2_oi (by omega)]; exact hP22.2.1, fun q9 hq9 => by rw [u2_ne hq9]; exact hP22.2.2 q9 hq9⟩)), fun kk22 => ?_⟩) (sp i2) 0 (uR σ 20000 (rowN 6)) (by omega) (⟨(show (uR σ 20000 (rowN 6)) 20000 20 = nI 1 from tmp20), (show (uR σ 20000 (rowN 6)) 20000 21 = nI 6 from tmp21), (fun _ _ => rfl)⟩) (fun hP22 => ?_)
      · refine sw_iload O (xx_dt dd_X14_areNamed 13 rfl) rfl ?_
        refine sw_aload_n O (xx_dt dd_X14_areNamed 14 rfl) rfl ?_
        refine sw_get (v := .ref 5001) O (xx_dt dd_X14_areNamed 15 rfl) cl_X14 fl_X14_23 (lm_mod (σ := s22)) (by decide) rfl ?_
        refine sw_iload_n O (xx_dt dd_X14_areNamed 16 rfl) rfl ?_
        refine sw_callVL (ci := 6) (as := [.int (nI i2)]) (st := [.int (nI i22)]) (st2 := [.ref (5010 + i2), .int (nI i22)]) O (ct_get hl hbs (lm_5001 (σ := s22) (R := R) ((congrFun (hP22.2.2 _ (by omega)) 900).trans hR) (by omega)) (by omega) (i := i2) (x := 5010 + i2) (by omega) (by omega) rfl) ce_Jx4a65c_get_915e3 ml_X14_61 iv_Jx4a65c_get_915e3 cl_Jx4a65c rfl (lm_5001 (σ := s22) (R := R) ((congrFun (hP22.2.2 _ (by omega)) 900).trans hR) (by omega)) (xx_dt dd_X14_areNamed 17 rfl) (by decide) rfl rfl (Nat.le_of_ble_eq_true rfl) rfl ?_
        refine sw_castO O (xx_dt dd_X14_areNamed 18 rfl) cl_X12 (lm_reg (σ := s22) (R := R) ((congrFun (hP22.2.2 _ (by omega)) 900).trans hR) (by omega) (j := i2) (by omega)) cw_X14_65 ?_
        have hz35 := (hsp i2 (by omega)).2
        refine sw_get (v := .int (nI (sp i2))) O (xx_dt dd_X14_areNamed 19 rfl) cl_X12 fl_X14_81 (lm_reg (σ := s22) (R := R) ((congrFun (hP22.2.2 _ (by omega)) 900).trans hR) (by omega) (j := i2) (by omega)) (by decide) (congrArg Value.int (((congrFun (hP22.2.2 _ (by omega)) 0).trans (congrFun (uR_ne (by omega)) 0)).trans (hsp i2 (by omega)).1)) ?_
        refine sw_icmp_ge (tgt := 70) O (xx_dt dd_X14_areNamed 20 rfl) (by decide) (fun q2 => ?_) (fun q2 => ?_)
        · exact absurd q2 (nI_ge (b := (sp i2)) hi22 (by omega))
        · refine sw_aload_n O (xx_dt dd_X14_areNamed 21 rfl) rfl ?_
          refine sw_iload_n O (xx_dt dd_X14_areNamed 22 rfl) rfl ?_
          refine sw_iload O (xx_dt dd_X14_areNamed 23 rfl) rfl ?_
          refine sw_callVx (as := [.int (nI i2), .int (nI i22)]) (st := []) (st2 := [.int (f_MholderNow s22 i2 (nI i22) B tn)]) O (ct_X14_holderNow hl (z := z) (σ := s22) hbs (R := R) ((congrFun (hP22.2.2 _ (by omega)) 900).trans hR) (by omega) (B := B) ((congrFun (hP22.2.2 _ (by omega)) 900).trans hB) (by omega) (pk := pk) (fun j9 hj9 => by rw [show s22 (5030 + j9) 900 = σ (5030 + j9) 900 from ((congrFun (hP22.2.2 _ (by omega)) 900).trans (congrFun (uR_ne (by omega)) 900))]; exact hpk j9 hj9) (fun _ j9 hj9 => by rw [show s22 5005 = σ 5005 from (hP22.2.2 _ (by omega))]; exact hkp j9 hj9) (tn := tn) (fun j9 hj9 => by rw [show s22 5007 = σ 5007 from (hP22.2.2 _ (by omega))]; exact htn j9 hj9) (r := i2) (y := nI i22) (by omega)) ce_X14_holderNow ml_X14_329 iv_X14_holderNow cl_X14 rfl (lm_mod (σ := s22)) (xx_dt dd_X14_areNamed 24 rfl) (by decide) rfl rfl (Nat.le_of_ble_eq_true rfl) rfl ?_
          refine sw_istore (ls2 := [.ref 5000, .int (nI i2), .ref 20000, .int 0, .int (nI i22), .int (f_MholderNow s22 i2 (nI i22) B tn)]) O (xx_dt dd_X14_areNamed 25 rfl) (by decide) rfl ?_
          refine sw_iload O (xx_dt dd_X14_areNamed 26 rfl) rfl ?_
          refine sw_iconst (x := (-1)) O (xx_dt dd_X14_areNamed 27 rfl) (by decide) ?_
          refine sw_icmp_eq (tgt := 64) O (xx_dt dd_X14_areNamed 28 rfl) (by decide) (fun q3 => ?_) (fun q3 => ?_)
          · refine sw_iinc (y := nI (i22 + 1)) (ls2 := [.ref 5000, .int (nI i2), .ref 20000, .int 0, .int (nI (i22 + 1)), .int (f_MholderNow s22 i2 (nI i22) B tn)]) O (xx_dt dd_X14_areNamed 36 rfl) rfl (nI_1 _) (by decide) rfl ?_
            refine sw_goto (tgt := 22) O (xx_dt dd_X14_areNamed 37 rfl) (by decide) ?_
            refine sw_dum (ls2 := [.ref 5000, .int (nI i2), .ref 20000, .int 0, .int (nI (i22 + 1)), xx_d]) ⟨.inr rfl, .inr rfl, .inr rfl, .inr rfl, .inr rfl, .inl rfl, trivial⟩ ?_
            simp only [if_pos q3] at kk22
            exact kk22
          · have hc53 := ((hho _ i2 i22 (fun q9 hq9 => (hP22.2.2 q9 hq9).trans (uR_ne hq9)) (by omega) (by omega)).resolve_left q3)
            refine sw_lsE (ls2 := [.ref 5000, .int (nI i2), .ref 20000, .int 0, .int (nI i22), .int (nI (cn (f_MholderNow s22 i2 (nI i22) B tn)))]) (by rw [← hc53.1]) ?_
            have hd53 := hc53.2
            refine sw_aload_n O (xx_dt dd_X14_areNamed 29 rfl) rfl ?_
            refine sw_iload O (xx_dt dd_X14_areNamed 30 rfl) rfl ?_
            refine sw_dup2 O (xx_dt dd_X14_areNamed 31 rfl) rfl rfl ?_
            refine sw_iaload (v := .int (s22 20000 (cn (f_MholderNow s22 i2 (nI i22) B tn)))) O (xx_dt dd_X14_areNamed 32 rfl) ((lm_tmp (z := z) (σ := s22) (h := h) (q := 20000) (by omega) (fl1 hP22.1) hP22.2.1 (by omega)).get _) (pk_in (cn (f_MholderNow s22 i2 (nI i22) B tn)) _ (by omega)) (by rw [nI_clamp (by omega)]; try exact rfl) ?_
            refine sw_iconst (x := 1) O (xx_dt dd_X14_areNamed 33 rfl) (by decide) ?_
            refine sw_iadd O (xx_dt dd_X14_areNamed 34 rfl) ?_
            refine sw_iastore (h2 := setM z (u2 s22 20000 (cn (f_MholderNow s22 i2 (nI i22) B tn)) ((s22 20000 (cn (f_MholderNow s22 i2 (nI i22) B tn))) + 1)) h) O (xx_dt dd_X14_areNamed 35 rfl) ((lm_tmp (z := z) (σ := s22) (h := h) (q := 20000) (by omega) (fl1 hP22.1) hP22.2.1 (by omega)).get _) (pk_in (cn (f_MholderNow s22 i2 (nI i22) B tn)) _ (by omega)) (by omega) (by rw [nI_clamp (by omega)]; exact ((lm_tmp (z := z) (σ := s22) (h := h) (q := 20000) (by omega) (fl1 hP22.1) hP22.2.1 (by omega)).put (by omega))) ?_
            refine sw_iinc (y := nI (i22 + 1)) (ls2 := [.ref 5000, .int (nI i2), .ref 20000, .int 0, .int (nI (i22 + 1)), .int (nI (cn (f_MholderNow s22 i2 (nI i22) B tn)))]) O (xx_dt dd_X14_areNamed 36 rfl) rfl (nI_1 _) (by decide) rfl ?_
            refine sw_goto (tgt := 22) O (xx_dt dd_X14_areNamed 37 rfl) (by decide) ?_
            refine sw_dum (ls2 := [.ref 5000, .int (nI i2), .ref 20000, .int 0, .int (nI (i22 + 1)), xx_d]) ⟨.inr rfl, .inr rfl, .inr rfl, .inr rfl, .inr rfl, .inl rfl, trivial⟩ ?_
            simp only [if_neg q3] at kk22
            exact kk22
      · show SW Y _ _ (setM z (x_MareNamed_22 B sp tn i2 (uR σ 20000 (rowN 6))) h) 22 [.ref 5000, .int (nI i2), .ref 20000, .int 0, .int (nI ((sp i2))), xx_d] []
        have hP22 : (x_MareNamed_22 B sp tn i2 (uR σ 20000 (rowN 6))) 20000 20 = nI 1 ∧ (x_MareNamed_22 B sp tn i2 (uR σ 20000 (rowN 6))) 20000 21 = nI 6 ∧ (∀ q, q ≠ 20000 → (x_MareNamed_22 B sp tn i2 (uR σ 20000 (rowN 6))) q = (uR σ 20000 (rowN 6)) q) := hP22
        refine sw_iload O (xx_dt dd_X14_areNamed 13 rfl) rfl ?_
        refine sw_aload_n O (xx_dt dd_X14_areNamed 14 rfl) rfl ?_
        refine sw_get (v := .ref 5001) O (xx_dt dd_X14_areNamed 15 rfl) cl_X14 fl_X14_23 (lm_mod (σ := (x_MareNamed_22 B sp tn i2 (uR σ 20000 (rowN 6))))) (by decide) rfl ?_
        refine sw_iload_n O (xx_dt dd_X14_areNamed 16 rfl) rfl ?_
        refine sw_callVL (ci := 6) (as := [.int (nI i2)]) (st := [.int (nI ((sp i2)))]) (st2 := [.ref (5010 + i2), .int (nI ((sp i2)))]) O (ct_get hl hbs (lm_5001 (σ := (x_MareNamed_22 B sp tn i2 (uR σ 20000 (rowN 6)))) (R := R) ((congrFun (hP22.2.2 _ (by omega)) 900).trans hR) (by omega)) (by omega) (i := i2) (x := 5010 + i2) (by omega) (by omega) rfl) ce_Jx4a65c_get_915e3 ml_X14_61 iv_Jx4a65c_get_915e3 cl_Jx4a65c rfl (lm_5001 (σ := (x_MareNamed_22 B sp tn i2 (uR σ 20000 (rowN 6)))) (R := R) ((congrFun (hP22.2.2 _ (by omega)) 900).trans hR) (by omega)) (xx_dt dd_X14_areNamed 17 rfl) (by decide) rfl rfl (Nat.le_of_ble_eq_true rfl) rfl ?_
        refine sw_castO O (xx_dt dd_X14_areNamed 18 rfl) cl_X12 (lm_reg (σ := (x_MareNamed_22 B sp tn i2 (uR σ 20000 (rowN 6)))) (R := R) ((congrFun (hP22.2.2 _ (by omega)) 900).trans hR) (by omega) (j := i2) (by omega)) cw_X14_65 ?_
        have hz35 := (hsp i2 (by omega)).2
        refine sw_get (v := .int (nI (sp i2))) O (xx_dt dd_X14_areNamed 19 rfl) cl_X12 fl_X14_81 (lm_reg (σ := (x_MareNamed_22 B sp tn i2 (uR σ 20000 (rowN 6)))) (R := R) ((congrFun (hP22.2.2 _ (by omega)) 900).trans hR) (by omega) (j := i2) (by omega)) (by decide) (congrArg Value.int (((congrFun (hP22.2.2 _ (by omega)) 0).trans (congrFun (uR_ne (by omega)) 0)).trans (hsp i2 (by omega)).1)) ?_
        refine sw_icmp_ge (tgt := 70) O (xx_dt dd_X14_areNamed 20 rfl) (by decide) (fun q2 => ?_) (fun q2 => ?_)
        · refine sw_iconst (x := 0) O (xx_dt dd_X14_areNamed 38 rfl) (by decide) ?_
          refine sw_istore (ls2 := [.ref 5000, .int (nI i2), .ref 20000, .int 0, .int 0, xx_d]) O (xx_dt dd_X14_areNamed 39 rfl) (by decide) rfl ?_
          refine sw_forR (S := Int32) (R := Int32) (fun i73 s73 => (if (σ 5005 i73) = (-1) then (if ((x_MareNamed_22 B sp tn i2 (uR σ 20000 (rowN 6))) 20000 i73) = 0 then .inl (s73 + 0) else .inr 0) else (if ((x_MareNamed_22 B sp tn i2 (uR σ 20000 (rowN 6))) 20000 i73) = (f_of (f_Bcode (x_MareNamed_22 B sp tn i2 (uR σ 20000 (rowN 6))) i73 (cn (σ 5005 i73))) i2) then .inl (s73 + (f_of (f_Bcode (x_MareNamed_22 B sp tn i2 (uR σ 20000 (rowN 6))) i73 (cn (σ 5005 i73))) i2)) else .inr 0))) (fun _ _ => True) (FR := fun r9 => f_MareNamed σ R B sp tn pk = r9) (hp := fun _ => setM z (x_MareNamed_22 B sp tn i2 (uR σ 20000 (rowN 6))) h) (hd := 73) (lc := fun i73 s73 => [.ref 5000, .int (nI i2), .ref 20000, .int s73, .int (nI i73), xx_d]) (N := B) (fun i73 s73 hi73 hP73 => ⟨fun _ _ => trivial, fun kk73 kr73 => ?_⟩) B 0 0 (by omega) (trivial) (fun sN73 eN73 hP73 => ?_) (fun r73 eN73 => ?_)
          · refine sw_iload O (xx_dt dd_X14_areNamed 40 rfl) rfl ?_
            refine sw_aload_n O (xx_dt dd_X14_areNamed 41 rfl) rfl ?_
            refine sw_get (v := .ref 5002) O (xx_dt dd_X14_areNamed 42 rfl) cl_X14 fl_X14_27 (lm_mod (σ := (x_MareNamed_22 B sp tn i2 (uR σ 20000 (rowN 6))))) (by decide) rfl ?_
            refine sw_callVL (ci := 6) (as := []) (st := [.int (nI i73)]) (st2 := [.int (nI B), .int (nI i73)]) O (ct_AL_size hl (lm_5002 (σ := (x_MareNamed_22 B sp tn i2 (uR σ 20000 (rowN 6)))) (B := B) ((congrFun (hP22.2.2 _ (by omega)) 900).trans hB) (by omega))) ce_Jx4a65c_size_8abf5 ml_X14_57 iv_Jx4a65c_size_8abf5 cl_Jx4a65c rfl (lm_5002 (σ := (x_MareNamed_22 B sp tn i2 (uR σ 20000 (rowN 6)))) (B := B) ((congrFun (hP22.2.2 _ (by omega)) 900).trans hB) (by omega)) (xx_dt dd_X14_areNamed 43 rfl) (by decide) rfl rfl (Nat.le_of_ble_eq_true rfl) rfl ?_
            refine sw_icmp_ge (tgt := 150) O (xx_dt dd_X14_areNamed 44 rfl) (by decide) (fun q4 => ?_) (fun q4 => ?_)
            · exact absurd q4 (nI_ge (b := B) hi73 (by omega))
            · refine sw_aload_n O (xx_dt dd_X14_areNamed 45 rfl) rfl ?_
              refine sw_get (v := .ref 5005) O (xx_dt dd_X14_areNamed 46 rfl) cl_X14 fl_X14_36 (lm_mod (σ := (x_MareNamed_22 B sp tn i2 (uR σ 20000 (rowN 6))))) (by decide) rfl ?_
              refine sw_iload O (xx_dt dd_X14_areNamed 47 rfl) rfl ?_
              refine sw_iaload (v := .int (σ 5005 i73)) O (xx_dt dd_X14_areNamed 48 rfl) ((im_5005 (z := z) (σ := (x_MareNamed_22 B sp tn i2 (uR σ 20000 (rowN 6))))).get _) (pk_in i73 _ (by omega)) (by rw [nI_clamp (by omega)]; exact (congrArg Value.int (congrFun (hP22.2.2 _ (by omega)) i73))) ?_
              refine sw_iconst (x := (-1)) O (xx_dt dd_X14_areNamed 49 rfl) (by decide) ?_
              refine sw_icmp_ne (tgt := 100) O (xx_dt dd_X14_areNamed 50 rfl) (by decide) (fun q5 => ?_) (fun q5 => ?_)
              · have hc93 := (kept_nat (hkp _ (by omega)) q5 (by have := (hpk i73 (by omega)).2; omega))
                have hd93 := hc93.2
                refine sw_aload_n O (xx_dt dd_X14_areNamed 53 rfl) rfl ?_
                refine sw_get (v := .ref 5002) O (xx_dt dd_X14_areNamed 54 rfl) cl_X14 fl_X14_27 (lm_mod (σ := (x_MareNamed_22 B sp tn i2 (uR σ 20000 (rowN 6))))) (by decide) rfl ?_
                refine sw_iload O (xx_dt dd_X14_areNamed 55 rfl) rfl ?_
                refine sw_callVL (ci := 6) (as := [.int (nI i73)]) (st := []) (st2 := [.ref (5020 + i73)]) O (ct_get hl hbs (lm_5002 (σ := (x_MareNamed_22 B sp tn i2 (uR σ 20000 (rowN 6)))) (B := B) ((congrFun (hP22.2.2 _ (by omega)) 900).trans hB) (by omega)) (by omega) (i := i73) (x := 5020 + i73) (by omega) (by omega) rfl) ce_Jx4a65c_get_915e3 ml_X14_61 iv_Jx4a65c_get_915e3 cl_Jx4a65c rfl (lm_5002 (σ := (x_MareNamed_22 B sp tn i2 (uR σ 20000 (rowN 6)))) (B := B) ((congrFun (hP22.2.2 _ (by omega)) 900).trans hB) (by omega)) (xx_dt dd_X14_areNamed 56 rfl) (by decide) rfl rfl (Nat.le_of_ble_eq_true rfl) rfl ?_
                refine sw_castO O (xx_dt dd_X14_areNamed 57 rfl) cl_X9 (lm_bid (σ := (x_MareNamed_22 B sp tn i2 (uR σ 20000 (rowN 6)))) (B := B) ((congrFun (hP22.2.2 _ (by omega)) 900).trans hB) (by omega) (j := i73) (by omega)) cw_X14_118 ?_
                refine sw_aload_n O (xx_dt dd_X14_areNamed 58 rfl) rfl ?_
                refine sw_get (v := .ref 5005) O (xx_dt dd_X14_areNamed 59 rfl) cl_X14 fl_X14_36 (lm_mod (σ := (x_MareNamed_22 B sp tn i2 (uR σ 20000 (rowN 6))))) (by decide) rfl ?_
                refine sw_iload O (xx_dt dd_X14_areNamed 60 rfl) rfl ?_
                refine sw_iaload (v := .int (nI (cn (σ 5005 i73)))) O (xx_dt dd_X14_areNamed 61 rfl) ((im_5005 (z := z) (σ := (x_MareNamed_22 B sp tn i2 (uR σ 20000 (rowN 6))))).get _) (pk_in i73 _ (by omega)) (by rw [nI_clamp (by omega)]; exact (congrArg Value.int ((congrFun (hP22.2.2 _ (by omega)) i73).trans hc93.1))) ?_
                refine sw_callVx (as := [.int (nI (cn (σ 5005 i73)))]) (st := []) (st2 := [.int (f_Bcode (x_MareNamed_22 B sp tn i2 (uR σ 20000 (rowN 6))) i73 (cn (σ 5005 i73)))]) O (ct_X9_code hl (z := z) (σ := (x_MareNamed_22 B sp tn i2 (uR σ 20000 (rowN 6)))) hbs (B := B) ((congrFun (hP22.2.2 _ (by omega)) 900).trans hB) (by omega) (j := i73) (by omega) (p := pk i73) (((congrFun (hP22.2.2 _ (by omega)) 900).trans (congrFun (uR_ne (by omega)) 900)).trans (hpk i73 (by omega)).1) (by have h9 := (hpk i73 (by omega)).2; omega) (k := cn (σ 5005 i73)) (by first | omega | (have h9 := (hpk i73 (by omega)).2; omega))) ce_X9_code ml_X14_240 iv_X9_code cl_X9 rfl (lm_bid (σ := (x_MareNamed_22 B sp tn i2 (uR σ 20000 (rowN 6)))) (B := B) ((congrFun (hP22.2.2 _ (by omega)) 900).trans hB) (by omega) (j := i73) (by omega)) (xx_dt dd_X14_areNamed 62 rfl) (by decide) rfl rfl (Nat.le_of_ble_eq_true rfl) rfl ?_
                refine sw_iload_n O (xx_dt dd_X14_areNamed 63 rfl) rfl ?_
                refine sw_callSx (as := [.int (f_Bcode (x_MareNamed_22 B sp tn i2 (uR σ 20000 (rowN 6))) i73 (cn (σ 5005 i73))), .int (nI i2)]) (st := []) (st2 := [.int (f_of (f_Bcode (x_MareNamed_22 B sp tn i2 (uR σ 20000 (rowN 6))) i73 (cn (σ 5005 i73))) i2)]) O (ct_X14_of hl (c := f_Bcode (x_MareNamed_22 B sp tn i2 (uR σ 20000 (rowN 6))) i73 (cn (σ 5005 i73))) (r := i2) (by omega)) ce_X14_of ml_X14_53 st_X14_of (xx_dt dd_X14_areNamed 64 rfl) (by decide) rfl rfl (Nat.le_of_ble_eq_true rfl) rfl ?_
                refine sw_istore (ls2 := [.ref 5000, .int (nI i2), .ref 20000, .int s73, .int (nI i73), .int (f_of (f_Bcode (x_MareNamed_22 B sp tn i2 (uR σ 20000 (rowN 6))) i73 (cn (σ 5005 i73))) i2)]) O (xx_dt dd_X14_areNamed 65 rfl) (by decide) rfl ?_
                refine sw_iload_n O (xx_dt dd_X14_areNamed 66 rfl) rfl ?_
                refine sw_iload O (xx_dt dd_X14_areNamed 67 rfl) rfl ?_
                refine sw_iadd O (xx_dt dd_X14_areNamed 68 rfl) ?_
                refine sw_istore_n (ls2 := [.ref 5000, .int (nI i2), .ref 20000, .int (s73 + (f_of (f_Bcode (x_MareNamed_22 B sp tn i2 (uR σ 20000 (rowN 6))) i73 (cn (σ 5005 i73))) i2)), .int (nI i73), .int (f_of (f_Bcode (x_MareNamed_22 B sp tn i2 (uR σ 20000 (rowN 6))) i73 (cn (σ 5005 i73))) i2)]) O (xx_dt dd_X14_areNamed 69 rfl) (by decide) rfl ?_
                refine sw_aload_n O (xx_dt dd_X14_areNamed 70 rfl) rfl ?_
                refine sw_iload O (xx_dt dd_X14_areNamed 71 rfl) rfl ?_
                refine sw_iaload (v := .int ((x_MareNamed_22 B sp tn i2 (uR σ 20000 (rowN 6))) 20000 i73)) O (xx_dt dd_X14_areNamed 72 rfl) ((lm_tmp (z := z) (σ := (x_MareNamed_22 B sp tn i2 (uR σ 20000 (rowN 6)))) (h := h) (q := 20000) (by omega) (fl1 hP22.1) hP22.2.1 (by omega)).get _) (pk_in i73 _ (by omega)) (by rw [nI_clamp (by omega)]; try exact rfl) ?_
                refine sw_iload O (xx_dt dd_X14_areNamed 73 rfl) rfl ?_
                refine sw_icmp_eq (tgt := 144) O (xx_dt dd_X14_areNamed 74 rfl) (by decide) (fun q6 => ?_) (fun q6 => ?_)
                · refine sw_iinc (y := nI (i73 + 1)) (ls2 := [.ref 5000, .int (nI i2), .ref 20000, .int (s73 + (f_of (f_Bcode (x_MareNamed_22 B sp tn i2 (uR σ 20000 (rowN 6))) i73 (cn (σ 5005 i73))) i2)), .int (nI (i73 + 1)), .int (f_of (f_Bcode (x_MareNamed_22 B sp tn i2 (uR σ 20000 (rowN 6))) i73 (cn (σ 5005 i73))) i2)]) O (xx_dt dd_X14_areNamed 77 rfl) rfl (nI_1 _) (by decide) rfl ?_
                  refine sw_goto (tgt := 73) O (xx_dt dd_X14_areNamed 78 rfl) (by decide) ?_
                  refine sw_dum (ls2 := [.ref 5000, .int (nI i2), .ref 20000, .int (s73 + (f_of (f_Bcode (x_MareNamed_22 B sp tn i2 (uR σ 20000 (rowN 6))) i73 (cn (σ 5005 i73))) i2)), .int (nI (i73 + 1)), xx_d]) ⟨.inr rfl, .inr rfl, .inr rfl, .inr rfl, .inr rfl, .inl rfl, trivial⟩ ?_
                  exact kk73 (s73 + (f_of (f_Bcode (x_MareNamed_22 B sp tn i2 (uR σ 20000 (rowN 6))) i73 (cn (σ 5005 i73))) i2)) (by simp only [if_neg q5, if_pos q6])
                · refine sw_iconst (x := 0) O (xx_dt dd_X14_areNamed 75 rfl) (by decide) ?_
                  exact sw_iretD (h' := setM z σ h) O (xx_dt dd_X14_areNamed 76 rfl) rfl rfl (subT (σ := σ) (τ := (x_MareNamed_22 B sp tn i2 (uR σ 20000 (rowN 6)))) (q := 20000) (by omega) (hme.2.2 20000 (by omega) (by omega)).2 (fun q9 hq9 => by rw [fx_named hq9, uR_ne hq9]) hfr) hcl (by rw [hh]; exact fun r hr => hr) (by rw [hQ]; exact ⟨by rw [kr73 0 (by simp only [if_neg q5, if_neg q6])], rfl⟩)
              · refine sw_iconst (x := 0) O (xx_dt dd_X14_areNamed 51 rfl) (by decide) ?_
                refine sw_goto (tgt := 126) O (xx_dt dd_X14_areNamed 52 rfl) (by decide) ?_
                refine sw_istore (ls2 := [.ref 5000, .int (nI i2), .ref 20000, .int s73, .int (nI i73), .int 0]) O (xx_dt dd_X14_areNamed 65 rfl) (by decide) rfl ?_
                refine sw_iload_n O (xx_dt dd_X14_areNamed 66 rfl) rfl ?_
                refine sw_iload O (xx_dt dd_X14_areNamed 67 rfl) rfl ?_
                refine sw_iadd O (xx_dt dd_X14_areNamed 68 rfl) ?_
                refine sw_istore_n (ls2 := [.ref 5000, .int (nI i2), .ref 20000, .int (s73 + 0), .int (nI i73), .int 0]) O (xx_dt dd_X14_areNamed 69 rfl) (by decide) rfl ?_
                refine sw_aload_n O (xx_dt dd_X14_areNamed 70 rfl) rfl ?_
                refine sw_iload O (xx_dt dd_X14_areNamed 71 rfl) rfl ?_
                refine sw_iaload (v := .int ((x_MareNamed_22 B sp tn i2 (uR σ 20000 (rowN 6))) 20000 i73)) O (xx_dt dd_X14_areNamed 72 rfl) ((lm_tmp (z := z) (σ := (x_MareNamed_22 B sp tn i2 (uR σ 20000 (rowN 6)))) (h := h) (q := 20000) (by omega) (fl1 hP22.1) hP22.2.1 (by omega)).get _) (pk_in i73 _ (by omega)) (by rw [nI_clamp (by omega)]; try exact rfl) ?_
                refine sw_iload O (xx_dt dd_X14_areNamed 73 rfl) rfl ?_
                refine sw_icmp_eq (tgt := 144) O (xx_dt dd_X14_areNamed 74 rfl) (by decide) (fun q7 => ?_) (fun q7 => ?_)
                · refine sw_iinc (y := nI (i73 + 1)) (ls2 := [.ref 5000, .int (nI i2), .ref 20000, .int (s73 + 0), .int (nI (i73 + 1)), .int 0]) O (xx_dt dd_X14_areNamed 77 rfl) rfl (nI_1 _) (by decide) rfl ?_
                  refine sw_goto (tgt := 73) O (xx_dt dd_X14_areNamed 78 rfl) (by decide) ?_
                  refine sw_dum (ls2 := [.ref 5000, .int (nI i2), .ref 20000, .int (s73 + 0), .int (nI (i73 + 1)), xx_d]) ⟨.inr rfl, .inr rfl, .inr rfl, .inr rfl, .inr rfl, .inl rfl, trivial⟩ ?_
                  exact kk73 (s73 + 0) (by simp only [if_pos q5, if_pos q7])
                · refine sw_iconst (x := 0) O (xx_dt dd_X14_areNamed 75 rfl) (by decide) ?_
                  exact sw_iretD (h' := setM z σ h) O (xx_dt dd_X14_areNamed 76 rfl) rfl rfl (subT (σ := σ) (τ := (x_MareNamed_22 B sp tn i2 (uR σ 20000 (rowN 6)))) (q := 20000) (by omega) (hme.2.2 20000 (by omega) (by omega)).2 (fun q9 hq9 => by rw [fx_named hq9, uR_ne hq9]) hfr) hcl (by rw [hh]; exact fun r hr => hr) (by rw [hQ]; exact ⟨by rw [kr73 0 (by simp only [if_pos q5, if_neg q7])], rfl⟩)
          · show SW Y _ _ (setM z (x_MareNamed_22 B sp tn i2 (uR σ 20000 (rowN 6))) h) 73 [.ref 5000, .int (nI i2), .ref 20000, .int sN73, .int (nI B), xx_d] []
            refine sw_iload O (xx_dt dd_X14_areNamed 40 rfl) rfl ?_
            refine sw_aload_n O (xx_dt dd_X14_areNamed 41 rfl) rfl ?_
            refine sw_get (v := .ref 5002) O (xx_dt dd_X14_areNamed 42 rfl) cl_X14 fl_X14_27 (lm_mod (σ := (x_MareNamed_22 B sp tn i2 (uR σ 20000 (rowN 6))))) (by decide) rfl ?_
            refine sw_callVL (ci := 6) (as := []) (st := [.int (nI B)]) (st2 := [.int (nI B), .int (nI B)]) O (ct_AL_size hl (lm_5002 (σ := (x_MareNamed_22 B sp tn i2 (uR σ 20000 (rowN 6)))) (B := B) ((congrFun (hP22.2.2 _ (by omega)) 900).trans hB) (by omega))) ce_Jx4a65c_size_8abf5 ml_X14_57 iv_Jx4a65c_size_8abf5 cl_Jx4a65c rfl (lm_5002 (σ := (x_MareNamed_22 B sp tn i2 (uR σ 20000 (rowN 6)))) (B := B) ((congrFun (hP22.2.2 _ (by omega)) 900).trans hB) (by omega)) (xx_dt dd_X14_areNamed 43 rfl) (by decide) rfl rfl (Nat.le_of_ble_eq_true rfl) rfl ?_
            refine sw_icmp_ge (tgt := 150) O (xx_dt dd_X14_areNamed 44 rfl) (by decide) (fun q4 => ?_) (fun q4 => ?_)
            · refine sw_iload_n O (xx_dt dd_X14_areNamed 79 rfl) rfl ?_
              refine sw_aload_n O (xx_dt dd_X14_areNamed 80 rfl) rfl ?_
              refine sw_get (v := .ref 5001) O (xx_dt dd_X14_areNamed 81 rfl) cl_X14 fl_X14_23 (lm_mod (σ := (x_MareNamed_22 B sp tn i2 (uR σ 20000 (rowN 6))))) (by decide) rfl ?_
              refine sw_iload_n O (xx_dt dd_X14_areNamed 82 rfl) rfl ?_
              refine sw_callVL (ci := 6) (as := [.int (nI i2)]) (st := [.int sN73]) (st2 := [.ref (5010 + i2), .int sN73]) O (ct_get hl hbs (lm_5001 (σ := (x_MareNamed_22 B sp tn i2 (uR σ 20000 (rowN 6)))) (R := R) ((congrFun (hP22.2.2 _ (by omega)) 900).trans hR) (by omega)) (by omega) (i := i2) (x := 5010 + i2) (by omega) (by omega) rfl) ce_Jx4a65c_get_915e3 ml_X14_61 iv_Jx4a65c_get_915e3 cl_Jx4a65c rfl (lm_5001 (σ := (x_MareNamed_22 B sp tn i2 (uR σ 20000 (rowN 6)))) (R := R) ((congrFun (hP22.2.2 _ (by omega)) 900).trans hR) (by omega)) (xx_dt dd_X14_areNamed 83 rfl) (by decide) rfl rfl (Nat.le_of_ble_eq_true rfl) rfl ?_
              refine sw_castO O (xx_dt dd_X14_areNamed 84 rfl) cl_X12 (lm_reg (σ := (x_MareNamed_22 B sp tn i2 (uR σ 20000 (rowN 6)))) (R := R) ((congrFun (hP22.2.2 _ (by omega)) 900).trans hR) (by omega) (j := i2) (by omega)) cw_X14_65 ?_
              have hz162 := (hsp i2 (by omega)).2
              refine sw_get (v := .int (nI (sp i2))) O (xx_dt dd_X14_areNamed 85 rfl) cl_X12 fl_X14_81 (lm_reg (σ := (x_MareNamed_22 B sp tn i2 (uR σ 20000 (rowN 6)))) (R := R) ((congrFun (hP22.2.2 _ (by omega)) 900).trans hR) (by omega) (j := i2) (by omega)) (by decide) (congrArg Value.int (((congrFun (hP22.2.2 _ (by omega)) 0).trans (congrFun (uR_ne (by omega)) 0)).trans (hsp i2 (by omega)).1)) ?_
              refine sw_icmp_le (tgt := 170) O (xx_dt dd_X14_areNamed 86 rfl) (by decide) (fun q8 => ?_) (fun q8 => ?_)
              · refine sw_iinc (y := nI (i2 + 1)) (ls2 := [.ref 5000, .int (nI (i2 + 1)), .ref 20000, .int sN73, .int (nI B), xx_d]) O (xx_dt dd_X14_areNamed 89 rfl) rfl (nI_1 _) (by decide) rfl ?_
                refine sw_goto (tgt := 2) O (xx_dt dd_X14_areNamed 90 rfl) (by decide) ?_
                refine sw_dum (ls2 := [.ref 5000, .int (nI (i2 + 1)), xx_d, xx_d, xx_d, xx_d]) ⟨.inr rfl, .inr rfl, .inl rfl, .inl rfl, .inl rfl, .inr rfl, trivial⟩ ?_
                refine sw_drop (h2 := setM z σ h) (subT (σ := σ) (τ := (x_MareNamed_22 B sp tn i2 (uR σ 20000 (rowN 6)))) (q := 20000) (by omega) (hme.2.2 20000 (by omega) (by omega)).2 (fun q9 hq9 => by rw [fx_named hq9, uR_ne hq9]) hfr) hcl (by rw [hh]; exact fun r hr => hr) (by intro v9 hv9; simp only [List.mem_cons, List.not_mem_nil, or_false] at hv9; rcases hv9 with rfl | rfl | rfl | rfl | rfl | rfl <;> first | exact in_mod | trivial) (by intro v9 hv9; cases hv9) ?_
                refine xx_wid (k' := 0 + 1 * (R - (i2 + 1))) (n' := 0 + 6 * (R - (i2 + 1))) (by omega) (by omega) ?_
                exact kk2 () (by simp only [if_pos q8, x_MareNamed_73, eN73])
              · refine sw_iconst (x := 0) O (xx_dt dd_X14_areNamed 87 rfl) (by decide) ?_
                exact sw_iretD (h' := setM z σ h) O (xx_dt dd_X14_areNamed 88 rfl) rfl rfl (subT (σ := σ) (τ := (x_MareNamed_22 B sp tn i2 (uR σ 20000 (rowN 6)))) (q := 20000) (by omega) (hme.2.2 20000 (by omega) (by omega)).2 (fun q9 hq9 => by rw [fx_named hq9, uR_ne hq9]) hfr) hcl (by rw [hh]; exact fun r hr => hr) (by rw [hQ]; exact ⟨by rw [kr2 0 (by simp only [if_neg q8, x_MareNamed_73, eN73])], rfl⟩)
            · exact absurd (Int32.le_refl _) q4
          · exact kr2 r73 (by simp only [x_MareNamed_73, eN73])
        · exact absurd (Int32.le_refl _) q2
  · show SW Y _ _ (setM z σ h) 2 [.ref 5000, .int (nI R), xx_d, xx_d, xx_d, xx_d] []
    refine xx_wid (k' := 0) (n' := 0) (by show _ ≤ 0 + 1 * (R - R); omega) (by show _ ≤ 0 + 6 * (R - R); omega) ?_
    refine sw_iload_n O (xx_dt dd_X14_areNamed 2 rfl) rfl ?_
    refine sw_aload_n O (xx_dt dd_X14_areNamed 3 rfl) rfl ?_
    refine sw_get (v := .ref 5001) O (xx_dt dd_X14_areNamed 4 rfl) cl_X14 fl_X14_23 (lm_mod (σ := σ)) (by decide) rfl ?_
    refine sw_callVL (ci := 6) (as := []) (st := [.int (nI R)]) (st2 := [.int (nI R), .int (nI R)]) O (ct_AL_size hl (lm_5001 (σ := σ) (R := R) hR (by omega))) ce_Jx4a65c_size_8abf5 ml_X14_57 iv_Jx4a65c_size_8abf5 cl_Jx4a65c rfl (lm_5001 (σ := σ) (R := R) hR (by omega)) (xx_dt dd_X14_areNamed 5 rfl) (by decide) rfl rfl (Nat.le_of_ble_eq_true rfl) rfl ?_
    refine sw_icmp_ge (tgt := 176) O (xx_dt dd_X14_areNamed 6 rfl) (by decide) (fun q1 => ?_) (fun q1 => ?_)
    · refine sw_iconst (x := 1) O (xx_dt dd_X14_areNamed 91 rfl) (by decide) ?_
      exact sw_iret O (xx_dt dd_X14_areNamed 92 rfl) rfl rfl (by rw [hQ]; exact ⟨by unfold f_MareNamed; simp only [x_MareNamed_2, eN2], rfl⟩)
    · exact absurd (Int32.le_refl _) q1
  · unfold f_MareNamed; simp only [x_MareNamed_2, eN2]
end
section
/-! ===== the reference: isSound ===== -/
def x_MisSound_c_26 (σ : XS9) (R B K C : Nat) (pk : Nat → Nat) (g : Nat) (tn sp : Nat → Nat) (i2 : Nat) (s0 : Unit) : Unit ⊕ Int32 := xitR (fun i26 s26 => (if (f_of (f_MheldCode_c σ i2 g) i26) ≤ (nI (sp i26)) then .inl () else .inr 0)) R 0 s0
def x_MisSound_c_2 (σ : XS9) (R B K C : Nat) (pk : Nat → Nat) (g : Nat) (tn sp : Nat → Nat) (s0 : Unit) : Unit ⊕ Int32 := xitR (fun i2 s2 => (if 0 ≤ (f_MofBidderNow σ i2 R B pk g 1) then (match (x_MisSound_c_26 σ R B K C pk g tn sp i2 ()) with | .inl s26 => (if (σ 5000 1) = 3 then (if (σ 5005 i2) = (-1) then .inl () else (if (σ 5006 i2) ≤ (f_Bamount σ i2 (cn (σ 5005 i2))) then .inl () else .inr 0)) else .inl ()) | .inr r26 => .inr r26) else .inr 0)) B 0 s0
def x_MisSound_c_128 (σ : XS9) (R B K C : Nat) (pk : Nat → Nat) (g : Nat) (tn sp : Nat → Nat) (s0 : Unit) : Unit ⊕ Int32 := xitR (fun i128 s128 => (if (σ (5010 + i128) 2) ≤ (f_MofRegionNow σ i128 R B C g 3) then .inl () else .inr 0)) R 0 s0
def f_MisSound_c (σ : XS9) (R B K C : Nat) (pk : Nat → Nat) (g : Nat) (tn sp : Nat → Nat) : Int32 := (match (x_MisSound_c_2 σ R B K C pk g tn sp ()) with | .inl s2 => (match (x_MisSound_c_128 σ R B K C pk g tn sp ()) with | .inl s128 => (if (σ 5000 1) = 3 then (if (f_MareNamed σ R B sp tn pk) = 0 then 0 else (if (f_MisLogged σ R B K) = 0 then 0 else 1)) else (if (f_MisLogged σ R B K) = 0 then 0 else 1)) | .inr r128 => r128) | .inr r2 => r2)
theorem ct_MisSound_c {l : Launch} {h : XH} (hl : l.stackTraces = false) {z : Int64} {σ : XS9} (hbs : xx_bs h) (hfr : ∀ r, 5000 ≤ r → r < 20010 → h r = none) (hme : mem_eq σ σ) {R : Nat} (hR : σ 5001 900 = nI R) (hR5 : R ≤ 5) {B : Nat} (hB : σ 5002 900 = nI B) (hB6 : B ≤ 6) {K : Nat} (hK : σ 5003 900 = nI K) (hK60 : K ≤ 60) {C : Nat} (hS : σ 5004 900 = nI (2 * C)) (hC10 : C ≤ 10) {pk : Nat → Nat} (hpk : ∀ j, j < B → σ (5030 + j) 900 = nI (2 * pk j) ∧ pk j ≤ 6) (hkp : σ 5000 1 = 3 → ∀ j, j < B → σ 5005 j = -1 ∨ ∃ n, n < pk j ∧ σ 5005 j = nI n) {tn : Nat → Nat} (htn : ∀ r, r < 5 → σ 5007 r = nI (tn r) ∧ tn r < 6) {sp : Nat → Nat} (hsp : ∀ r, r < R → σ (5010 + r) 0 = nI (sp r) ∧ sp r ≤ 5) (hho : ∀ (s : XS9) i j, (∀ q, q ≠ 20000 → s q = σ q) → i < R → j < sp i → f_MholderNow s i (nI j) B tn = -1 ∨ n_lt (f_MholderNow s i (nI j) B tn) 6) {g : Nat} (hg : σ 7000 23 = nI g) (hg1 : g < 200) {w : Nat} (hw : σ 7000 24 = nI w) (hw1 : w < 200) (hf : σ 7000 20 = nI 1) (hf5 : σ 7000 25 = nI 1) {GA : Nat → XS9 → Prop} (ha : AH GA σ (-1) 0 0 0 R B K)  : XEx l m_X14_isSoundNow 12 495 8668 [.ref 5000] (setM z σ h) (some (.int (f_MisSound_c σ R B K C pk g tn sp))) (setM z σ h) := by
  refine XMet.of hl rfl rfl (Nat.le_of_ble_eq_true rfl) (fun Y O hh hQ => ?_)
  have hfl : σ 7000 25 = nI 0 ∨ (σ 7000 25 = nI 1 ∧ σ 7000 20 = nI 1) := .inr ⟨hf5, hf⟩
  show SW Y 495 8668 (setM z σ h) 0 [.ref 5000, xx_d, xx_d] []
  refine sw_iconst (x := 0) O (xx_dt dd_X14_isSoundNow 0 rfl) (by decide) ?_
  refine sw_istore_n (ls2 := [.ref 5000, .int 0, xx_d]) O (xx_dt dd_X14_isSoundNow 1 rfl) (by decide) rfl ?_
  refine sw_forR (S := Unit) (R := Int32) (fun i2 s2 => (if 0 ≤ (f_MofBidderNow σ i2 R B pk g 1) then (match (x_MisSound_c_26 σ R B K C pk g tn sp i2 ()) with | .inl s26 => (if (σ 5000 1) = 3 then (if (σ 5005 i2) = (-1) then .inl () else (if (σ 5006 i2) ≤ (f_Bamount σ i2 (cn (σ 5005 i2))) then .inl () else .inr 0)) else .inl ()) | .inr r26 => .inr r26) else .inr 0)) (fun _ _ => True) (FR := fun r9 => f_MisSound_c σ R B K C pk g tn sp = r9) (hp := fun _ => setM z σ h) (hd := 2) (lc := fun i2 s2 => [.ref 5000, .int (nI i2), xx_d]) (N := B) (fun i2 s2 hi2 hP2 => ⟨fun _ _ => trivial, fun kk2 kr2 => ?_⟩) B 0 () (by omega) (trivial) (fun sN2 eN2 hP2 => ?_) (fun r2 eN2 => ?_)
  · refine sw_iload_n O (xx_dt dd_X14_isSoundNow 2 rfl) rfl ?_
    refine sw_aload_n O (xx_dt dd_X14_isSoundNow 3 rfl) rfl ?_
    refine sw_get (v := .ref 5002) O (xx_dt dd_X14_isSoundNow 4 rfl) cl_X14 fl_X14_27 (lm_modC (σ := σ) (fl1 hf5)) (by decide) rfl ?_
    refine sw_callVL (ci := 6) (as := []) (st := [.int (nI i2)]) (st2 := [.int (nI B), .int (nI i2)]) O (ct_AL_size hl (lm_5002 (σ := σ) (B := B) hB (by omega))) ce_Jx4a65c_size_8abf5 ml_X14_57 iv_Jx4a65c_size_8abf5 cl_Jx4a65c rfl (lm_5002 (σ := σ) (B := B) hB (by omega)) (xx_dt dd_X14_isSoundNow 5 rfl) (by decide) rfl rfl (Nat.le_of_ble_eq_true rfl) rfl ?_
    refine sw_icmp_ge (tgt := 126) O (xx_dt dd_X14_isSoundNow 6 rfl) (by decide) (fun q1 => ?_) (fun q1 => ?_)
    · exact absurd q1 (nI_ge (b := B) hi2 (by omega))
    · refine sw_aload_n O (xx_dt dd_X14_isSoundNow 7 rfl) rfl ?_
      refine sw_iload_n O (xx_dt dd_X14_isSoundNow 8 rfl) rfl ?_
      refine sw_iconst (x := 1) O (xx_dt dd_X14_isSoundNow 9 rfl) (by decide) ?_
      refine sw_callVx (as := [.int (nI i2), .int 1]) (st := []) (st2 := [.int (f_MofBidderNow σ i2 R B pk g 1)]) O ((show XEx _ _ _ _ _ [_, _, .int 1] _ _ _ from ct_X14_ofBidderNow hl (z := z) (σ := σ) hbs (R := R) hR (by omega) (B := B) hB (by omega) (pk := pk) hpk (i := i2) (by omega) hfl (g := g) hg (by omega) (w := w) hw (by omega) (v := 1) (by omega))) ce_X14_ofBidderNow ml_X14_311 iv_X14_ofBidderNow cl_X14 rfl (lm_modC (σ := σ) (fl1 hf5)) (xx_dt dd_X14_isSoundNow 10 rfl) (by decide) rfl rfl (Nat.le_of_ble_eq_true rfl) rfl ?_
      refine sw_if_ge (tgt := 24) O (xx_dt dd_X14_isSoundNow 11 rfl) (by decide) (fun q2 => ?_) (fun q2 => ?_)
      · refine sw_iconst (x := 0) O (xx_dt dd_X14_isSoundNow 14 rfl) (by decide) ?_
        refine sw_istore_n (ls2 := [.ref 5000, .int (nI i2), .int 0]) O (xx_dt dd_X14_isSoundNow 15 rfl) (by decide) rfl ?_
        refine sw_forR (S := Unit) (R := Int32) (fun i26 s26 => (if (f_of (f_MheldCode_c σ i2 g) i26) ≤ (nI (sp i26)) then .inl () else .inr 0)) (fun _ _ => True) (FR := fun r9 => f_MisSound_c σ R B K C pk g tn sp = r9) (hp := fun _ => setM z σ h) (hd := 26) (lc := fun i26 s26 => [.ref 5000, .int (nI i2), .int (nI i26)]) (N := R) (fun i26 s26 hi26 hP26 => ⟨fun _ _ => trivial, fun kk26 kr26 => ?_⟩) R 0 () (by omega) (trivial) (fun sN26 eN26 hP26 => ?_) (fun r26 eN26 => ?_)
        · refine sw_iload_n O (xx_dt dd_X14_isSoundNow 16 rfl) rfl ?_
          refine sw_aload_n O (xx_dt dd_X14_isSoundNow 17 rfl) rfl ?_
          refine sw_get (v := .ref 5001) O (xx_dt dd_X14_isSoundNow 18 rfl) cl_X14 fl_X14_23 (lm_modC (σ := σ) (fl1 hf5)) (by decide) rfl ?_
          refine sw_callVL (ci := 6) (as := []) (st := [.int (nI i26)]) (st2 := [.int (nI R), .int (nI i26)]) O (ct_AL_size hl (lm_5001 (σ := σ) (R := R) hR (by omega))) ce_Jx4a65c_size_8abf5 ml_X14_57 iv_Jx4a65c_size_8abf5 cl_Jx4a65c rfl (lm_5001 (σ := σ) (R := R) hR (by omega)) (xx_dt dd_X14_isSoundNow 19 rfl) (by decide) rfl rfl (Nat.le_of_ble_eq_true rfl) rfl ?_
          refine sw_icmp_ge (tgt := 71) O (xx_dt dd_X14_isSoundNow 20 rfl) (by decide) (fun q3 => ?_) (fun q3 => ?_)
          · exact absurd q3 (nI_ge (b := R) hi26 (by omega))
          · refine sw_aload_n O (xx_dt dd_X14_isSoundNow 21 rfl) rfl ?_
            refine sw_iload_n O (xx_dt dd_X14_isSoundNow 22 rfl) rfl ?_
            refine sw_callVx (as := [.int (nI i2)]) (st := []) (st2 := [.int (f_MheldCode_c σ i2 g)]) O (ct_MheldCode_c hl (z := z) (σ := σ) hbs (i := i2) (by omega) hf hf5 (g := g) hg (by omega) (w := w) hw (by omega)) ce_X14_heldCode ml_X14_302 iv_X14_heldCode cl_X14 rfl (lm_modC (σ := σ) (fl1 hf5)) (xx_dt dd_X14_isSoundNow 23 rfl) (by decide) rfl rfl (Nat.le_of_ble_eq_true rfl) rfl ?_
            refine sw_iload_n O (xx_dt dd_X14_isSoundNow 24 rfl) rfl ?_
            refine sw_callSx (as := [.int (f_MheldCode_c σ i2 g), .int (nI i26)]) (st := []) (st2 := [.int (f_of (f_MheldCode_c σ i2 g) i26)]) O (ct_X14_of hl (c := f_MheldCode_c σ i2 g) (r := i26) (by omega)) ce_X14_of ml_X14_53 st_X14_of (xx_dt dd_X14_isSoundNow 25 rfl) (by decide) rfl rfl (Nat.le_of_ble_eq_true rfl) rfl ?_
            refine sw_aload_n O (xx_dt dd_X14_isSoundNow 26 rfl) rfl ?_
            refine sw_get (v := .ref 5001) O (xx_dt dd_X14_isSoundNow 27 rfl) cl_X14 fl_X14_23 (lm_modC (σ := σ) (fl1 hf5)) (by decide) rfl ?_
            refine sw_iload_n O (xx_dt dd_X14_isSoundNow 28 rfl) rfl ?_
            refine sw_callVL (ci := 6) (as := [.int (nI i26)]) (st := [.int (f_of (f_MheldCode_c σ i2 g) i26)]) (st2 := [.ref (5010 + i26), .int (f_of (f_MheldCode_c σ i2 g) i26)]) O (ct_get hl hbs (lm_5001 (σ := σ) (R := R) hR (by omega)) (by omega) (i := i26) (x := 5010 + i26) (by omega) (by omega) rfl) ce_Jx4a65c_get_915e3 ml_X14_61 iv_Jx4a65c_get_915e3 cl_Jx4a65c rfl (lm_5001 (σ := σ) (R := R) hR (by omega)) (xx_dt dd_X14_isSoundNow 29 rfl) (by decide) rfl rfl (Nat.le_of_ble_eq_true rfl) rfl ?_
            refine sw_castO O (xx_dt dd_X14_isSoundNow 30 rfl) cl_X12 (lm_reg (σ := σ) (R := R) hR (by omega) (j := i26) (by omega)) cw_X14_65 ?_
            have hz57 := (hsp i26 (by omega)).2
            refine sw_get (v := .int (nI (sp i26))) O (xx_dt dd_X14_isSoundNow 31 rfl) cl_X12 fl_X14_81 (lm_reg (σ := σ) (R := R) hR (by omega) (j := i26) (by omega)) (by decide) (congrArg Value.int (hsp i26 (by omega)).1) ?_
            refine sw_icmp_le (tgt := 65) O (xx_dt dd_X14_isSoundNow 32 rfl) (by decide) (fun q4 => ?_) (fun q4 => ?_)
            · refine sw_iinc (y := nI (i26 + 1)) (ls2 := [.ref 5000, .int (nI i2), .int (nI (i26 + 1))]) O (xx_dt dd_X14_isSoundNow 35 rfl) rfl (nI_1 _) (by decide) rfl ?_
              refine sw_goto (tgt := 26) O (xx_dt dd_X14_isSoundNow 36 rfl) (by decide) ?_
              exact kk26 () (by simp only [if_pos q4])
            · refine sw_iconst (x := 0) O (xx_dt dd_X14_isSoundNow 33 rfl) (by decide) ?_
              exact sw_iret O (xx_dt dd_X14_isSoundNow 34 rfl) rfl rfl (by rw [hQ, kr26 0 (by simp only [if_neg q4])]; exact ⟨rfl, rfl⟩)
        · show SW Y _ _ (setM z σ h) 26 [.ref 5000, .int (nI i2), .int (nI R)] []
          refine sw_iload_n O (xx_dt dd_X14_isSoundNow 16 rfl) rfl ?_
          refine sw_aload_n O (xx_dt dd_X14_isSoundNow 17 rfl) rfl ?_
          refine sw_get (v := .ref 5001) O (xx_dt dd_X14_isSoundNow 18 rfl) cl_X14 fl_X14_23 (lm_modC (σ := σ) (fl1 hf5)) (by decide) rfl ?_
          refine sw_callVL (ci := 6) (as := []) (st := [.int (nI R)]) (st2 := [.int (nI R), .int (nI R)]) O (ct_AL_size hl (lm_5001 (σ := σ) (R := R) hR (by omega))) ce_Jx4a65c_size_8abf5 ml_X14_57 iv_Jx4a65c_size_8abf5 cl_Jx4a65c rfl (lm_5001 (σ := σ) (R := R) hR (by omega)) (xx_dt dd_X14_isSoundNow 19 rfl) (by decide) rfl rfl (Nat.le_of_ble_eq_true rfl) rfl ?_
          refine sw_icmp_ge (tgt := 71) O (xx_dt dd_X14_isSoundNow 20 rfl) (by decide) (fun q3 => ?_) (fun q3 => ?_)
          · refine sw_aload_n O (xx_dt dd_X14_isSoundNow 37 rfl) rfl ?_
            refine sw_get (v := .int (σ 5000 1)) O (xx_dt dd_X14_isSoundNow 38 rfl) cl_X14 fl_X14_77 (lm_modC (σ := σ) (fl1 hf5)) (by decide) rfl ?_
            refine sw_iconst (x := 3) O (xx_dt dd_X14_isSoundNow 39 rfl) (by decide) ?_
            refine sw_icmp_ne (tgt := 120) O (xx_dt dd_X14_isSoundNow 40 rfl) (by decide) (fun q5 => ?_) (fun q5 => ?_)
            · refine sw_iinc (y := nI (i2 + 1)) (ls2 := [.ref 5000, .int (nI (i2 + 1)), .int (nI R)]) O (xx_dt dd_X14_isSoundNow 64 rfl) rfl (nI_1 _) (by decide) rfl ?_
              refine sw_goto (tgt := 2) O (xx_dt dd_X14_isSoundNow 65 rfl) (by decide) ?_
              refine sw_dum (ls2 := [.ref 5000, .int (nI (i2 + 1)), xx_d]) ⟨.inr rfl, .inr rfl, .inl rfl, trivial⟩ ?_
              exact kk2 () (by simp only [if_pos q2, if_neg q5, x_MisSound_c_26, eN26])
            · refine sw_aload_n O (xx_dt dd_X14_isSoundNow 41 rfl) rfl ?_
              refine sw_get (v := .ref 5005) O (xx_dt dd_X14_isSoundNow 42 rfl) cl_X14 fl_X14_36 (lm_modC (σ := σ) (fl1 hf5)) (by decide) rfl ?_
              refine sw_iload_n O (xx_dt dd_X14_isSoundNow 43 rfl) rfl ?_
              refine sw_iaload (v := .int (σ 5005 i2)) O (xx_dt dd_X14_isSoundNow 44 rfl) ((im_5005 (z := z) (σ := σ)).get _) (pk_in i2 _ (by omega)) (by rw [nI_clamp (by omega)]; try exact rfl) ?_
              refine sw_iconst (x := (-1)) O (xx_dt dd_X14_isSoundNow 45 rfl) (by decide) ?_
              refine sw_icmp_eq (tgt := 120) O (xx_dt dd_X14_isSoundNow 46 rfl) (by decide) (fun q6 => ?_) (fun q6 => ?_)
              · refine sw_iinc (y := nI (i2 + 1)) (ls2 := [.ref 5000, .int (nI (i2 + 1)), .int (nI R)]) O (xx_dt dd_X14_isSoundNow 64 rfl) rfl (nI_1 _) (by decide) rfl ?_
                refine sw_goto (tgt := 2) O (xx_dt dd_X14_isSoundNow 65 rfl) (by decide) ?_
                refine sw_dum (ls2 := [.ref 5000, .int (nI (i2 + 1)), xx_d]) ⟨.inr rfl, .inr rfl, .inl rfl, trivial⟩ ?_
                exact kk2 () (by simp only [if_pos q2, if_pos q5, if_pos q6, x_MisSound_c_26, eN26])
              · have hc86 := (kept_nat (hkp q5 _ (by omega)) q6 (by have := (hpk i2 (by omega)).2; omega))
                have hd86 := hc86.2
                refine sw_aload_n O (xx_dt dd_X14_isSoundNow 47 rfl) rfl ?_
                refine sw_get (v := .ref 5006) O (xx_dt dd_X14_isSoundNow 48 rfl) cl_X14 fl_X14_40 (lm_modC (σ := σ) (fl1 hf5)) (by decide) rfl ?_
                refine sw_iload_n O (xx_dt dd_X14_isSoundNow 49 rfl) rfl ?_
                refine sw_iaload (v := .int (σ 5006 i2)) O (xx_dt dd_X14_isSoundNow 50 rfl) ((im_5006 (z := z) (σ := σ)).get _) (pk_in i2 _ (by omega)) (by rw [nI_clamp (by omega)]; try exact rfl) ?_
                refine sw_aload_n O (xx_dt dd_X14_isSoundNow 51 rfl) rfl ?_
                refine sw_get (v := .ref 5002) O (xx_dt dd_X14_isSoundNow 52 rfl) cl_X14 fl_X14_27 (lm_modC (σ := σ) (fl1 hf5)) (by decide) rfl ?_
                refine sw_iload_n O (xx_dt dd_X14_isSoundNow 53 rfl) rfl ?_
                refine sw_callVL (ci := 6) (as := [.int (nI i2)]) (st := [.int (σ 5006 i2)]) (st2 := [.ref (5020 + i2), .int (σ 5006 i2)]) O (ct_get hl hbs (lm_5002 (σ := σ) (B := B) hB (by omega)) (by omega) (i := i2) (x := 5020 + i2) (by omega) (by omega) rfl) ce_Jx4a65c_get_915e3 ml_X14_61 iv_Jx4a65c_get_915e3 cl_Jx4a65c rfl (lm_5002 (σ := σ) (B := B) hB (by omega)) (xx_dt dd_X14_isSoundNow 54 rfl) (by decide) rfl rfl (Nat.le_of_ble_eq_true rfl) rfl ?_
                refine sw_castO O (xx_dt dd_X14_isSoundNow 55 rfl) cl_X9 (lm_bid (σ := σ) (B := B) hB (by omega) (j := i2) (by omega)) cw_X14_118 ?_
                refine sw_aload_n O (xx_dt dd_X14_isSoundNow 56 rfl) rfl ?_
                refine sw_get (v := .ref 5005) O (xx_dt dd_X14_isSoundNow 57 rfl) cl_X14 fl_X14_36 (lm_modC (σ := σ) (fl1 hf5)) (by decide) rfl ?_
                refine sw_iload_n O (xx_dt dd_X14_isSoundNow 58 rfl) rfl ?_
                refine sw_iaload (v := .int (nI (cn (σ 5005 i2)))) O (xx_dt dd_X14_isSoundNow 59 rfl) ((im_5005 (z := z) (σ := σ)).get _) (pk_in i2 _ (by omega)) (by rw [nI_clamp (by omega)]; exact (congrArg Value.int hc86.1)) ?_
                refine sw_callVx (as := [.int (nI (cn (σ 5005 i2)))]) (st := [.int (σ 5006 i2)]) (st2 := [.int (f_Bamount σ i2 (cn (σ 5005 i2))), .int (σ 5006 i2)]) O (ct_X9_amount hl (z := z) (σ := σ) hbs (B := B) hB (by omega) (j := i2) (by omega) (p := pk i2) (hpk i2 (by omega)).1 (by have h9 := (hpk i2 (by omega)).2; omega) (k := cn (σ 5005 i2)) (by first | omega | (have h9 := (hpk i2 (by omega)).2; omega))) ce_X9_amount ml_X14_252 iv_X9_amount cl_X9 rfl (lm_bid (σ := σ) (B := B) hB (by omega) (j := i2) (by omega)) (xx_dt dd_X14_isSoundNow 60 rfl) (by decide) rfl rfl (Nat.le_of_ble_eq_true rfl) rfl ?_
                refine sw_icmp_le (tgt := 120) O (xx_dt dd_X14_isSoundNow 61 rfl) (by decide) (fun q7 => ?_) (fun q7 => ?_)
                · refine sw_iinc (y := nI (i2 + 1)) (ls2 := [.ref 5000, .int (nI (i2 + 1)), .int (nI R)]) O (xx_dt dd_X14_isSoundNow 64 rfl) rfl (nI_1 _) (by decide) rfl ?_
                  refine sw_goto (tgt := 2) O (xx_dt dd_X14_isSoundNow 65 rfl) (by decide) ?_
                  refine sw_dum (ls2 := [.ref 5000, .int (nI (i2 + 1)), xx_d]) ⟨.inr rfl, .inr rfl, .inl rfl, trivial⟩ ?_
                  exact kk2 () (by simp only [if_pos q2, if_pos q5, if_neg q6, if_pos q7, x_MisSound_c_26, eN26])
                · refine sw_iconst (x := 0) O (xx_dt dd_X14_isSoundNow 62 rfl) (by decide) ?_
                  exact sw_iret O (xx_dt dd_X14_isSoundNow 63 rfl) rfl rfl (by rw [hQ, kr2 0 (by simp only [if_pos q2, if_pos q5, if_neg q6, if_neg q7, x_MisSound_c_26, eN26])]; exact ⟨rfl, rfl⟩)
          · exact absurd (Int32.le_refl _) q3
        · exact kr2 r26 (by simp only [if_pos q2, x_MisSound_c_26, eN26])
      · refine sw_iconst (x := 0) O (xx_dt dd_X14_isSoundNow 12 rfl) (by decide) ?_
        exact sw_iret O (xx_dt dd_X14_isSoundNow 13 rfl) rfl rfl (by rw [hQ, kr2 0 (by simp only [if_neg q2])]; exact ⟨rfl, rfl⟩)
  · show SW Y _ _ (setM z σ h) 2 [.ref 5000, .int (nI B), xx_d] []
    refine sw_iload_n O (xx_dt dd_X14_isSoundNow 2 rfl) rfl ?_
    refine sw_aload_n O (xx_dt dd_X14_isSoundNow 3 rfl) rfl ?_
    refine sw_get (v := .ref 5002) O (xx_dt dd_X14_isSoundNow 4 rfl) cl_X14 fl_X14_27 (lm_modC (σ := σ) (fl1 hf5)) (by decide) rfl ?_
    refine sw_callVL (ci := 6) (as := []) (st := [.int (nI B)]) (st2 := [.int (nI B), .int (nI B)]) O (ct_AL_size hl (lm_5002 (σ := σ) (B := B) hB (by omega))) ce_Jx4a65c_size_8abf5 ml_X14_57 iv_Jx4a65c_size_8abf5 cl_Jx4a65c rfl (lm_5002 (σ := σ) (B := B) hB (by omega)) (xx_dt dd_X14_isSoundNow 5 rfl) (by decide) rfl rfl (Nat.le_of_ble_eq_true rfl) rfl ?_
    refine sw_icmp_ge (tgt := 126) O (xx_dt dd_X14_isSoundNow 6 rfl) (by decide) (fun q1 => ?_) (fun q1 => ?_)
    · refine sw_iconst (x := 0) O (xx_dt dd_X14_isSoundNow 66 rfl) (by decide) ?_
      refine sw_istore_n (ls2 := [.ref 5000, .int 0, xx_d]) O (xx_dt dd_X14_isSoundNow 67 rfl) (by decide) rfl ?_
      refine sw_forR (S := Unit) (R := Int32) (fun i128 s128 => (if (σ (5010 + i128) 2) ≤ (f_MofRegionNow σ i128 R B C g 3) then .inl () else .inr 0)) (fun _ _ => True) (FR := fun r9 => f_MisSound_c σ R B K C pk g tn sp = r9) (hp := fun _ => setM z σ h) (hd := 128) (lc := fun i128 s128 => [.ref 5000, .int (nI i128), xx_d]) (N := R) (fun i128 s128 hi128 hP128 => ⟨fun _ _ => trivial, fun kk128 kr128 => ?_⟩) R 0 () (by omega) (trivial) (fun sN128 eN128 hP128 => ?_) (fun r128 eN128 => ?_)
      · refine sw_iload_n O (xx_dt dd_X14_isSoundNow 68 rfl) rfl ?_
        refine sw_aload_n O (xx_dt dd_X14_isSoundNow 69 rfl) rfl ?_
        refine sw_get (v := .ref 5001) O (xx_dt dd_X14_isSoundNow 70 rfl) cl_X14 fl_X14_23 (lm_modC (σ := σ) (fl1 hf5)) (by decide) rfl ?_
        refine sw_callVL (ci := 6) (as := []) (st := [.int (nI i128)]) (st2 := [.int (nI R), .int (nI i128)]) O (ct_AL_size hl (lm_5001 (σ := σ) (R := R) hR (by omega))) ce_Jx4a65c_size_8abf5 ml_X14_57 iv_Jx4a65c_size_8abf5 cl_Jx4a65c rfl (lm_5001 (σ := σ) (R := R) hR (by omega)) (xx_dt dd_X14_isSoundNow 71 rfl) (by decide) rfl rfl (Nat.le_of_ble_eq_true rfl) rfl ?_
        refine sw_icmp_ge (tgt := 170) O (xx_dt dd_X14_isSoundNow 72 rfl) (by decide) (fun q8 => ?_) (fun q8 => ?_)
        · exact absurd q8 (nI_ge (b := R) hi128 (by omega))
        · refine sw_aload_n O (xx_dt dd_X14_isSoundNow 73 rfl) rfl ?_
          refine sw_iload_n O (xx_dt dd_X14_isSoundNow 74 rfl) rfl ?_
          refine sw_iconst (x := 3) O (xx_dt dd_X14_isSoundNow 75 rfl) (by decide) ?_
          refine sw_callVx (as := [.int (nI i128), .int 3]) (st := []) (st2 := [.int (f_MofRegionNow σ i128 R B C g 3)]) O ((show XEx _ _ _ _ _ [_, _, .int 3] _ _ _ from ct_X14_ofRegionNow hl (z := z) (σ := σ) hbs (R := R) hR (by omega) (B := B) hB (by omega) (C := C) hS (by omega) (r := i128) (by omega) hfl (g := g) hg (by omega) (w := w) hw (by omega) (v := 3) (by omega))) ce_X14_ofRegionNow ml_X14_299 iv_X14_ofRegionNow cl_X14 rfl (lm_modC (σ := σ) (fl1 hf5)) (xx_dt dd_X14_isSoundNow 76 rfl) (by decide) rfl rfl (Nat.le_of_ble_eq_true rfl) rfl ?_
          refine sw_aload_n O (xx_dt dd_X14_isSoundNow 77 rfl) rfl ?_
          refine sw_get (v := .ref 5001) O (xx_dt dd_X14_isSoundNow 78 rfl) cl_X14 fl_X14_23 (lm_modC (σ := σ) (fl1 hf5)) (by decide) rfl ?_
          refine sw_iload_n O (xx_dt dd_X14_isSoundNow 79 rfl) rfl ?_
          refine sw_callVL (ci := 6) (as := [.int (nI i128)]) (st := [.int (f_MofRegionNow σ i128 R B C g 3)]) (st2 := [.ref (5010 + i128), .int (f_MofRegionNow σ i128 R B C g 3)]) O (ct_get hl hbs (lm_5001 (σ := σ) (R := R) hR (by omega)) (by omega) (i := i128) (x := 5010 + i128) (by omega) (by omega) rfl) ce_Jx4a65c_get_915e3 ml_X14_61 iv_Jx4a65c_get_915e3 cl_Jx4a65c rfl (lm_5001 (σ := σ) (R := R) hR (by omega)) (xx_dt dd_X14_isSoundNow 80 rfl) (by decide) rfl rfl (Nat.le_of_ble_eq_true rfl) rfl ?_
          refine sw_castO O (xx_dt dd_X14_isSoundNow 81 rfl) cl_X12 (lm_reg (σ := σ) (R := R) hR (by omega) (j := i128) (by omega)) cw_X14_65 ?_
          refine sw_get (v := .int (σ (5010 + i128) 2)) O (xx_dt dd_X14_isSoundNow 82 rfl) cl_X12 fl_X14_84 (lm_reg (σ := σ) (R := R) hR (by omega) (j := i128) (by omega)) (by decide) rfl ?_
          refine sw_icmp_ge (tgt := 164) O (xx_dt dd_X14_isSoundNow 83 rfl) (by decide) (fun q9 => ?_) (fun q9 => ?_)
          · refine sw_iinc (y := nI (i128 + 1)) (ls2 := [.ref 5000, .int (nI (i128 + 1)), xx_d]) O (xx_dt dd_X14_isSoundNow 86 rfl) rfl (nI_1 _) (by decide) rfl ?_
            refine sw_goto (tgt := 128) O (xx_dt dd_X14_isSoundNow 87 rfl) (by decide) ?_
            exact kk128 () (by simp only [if_pos q9])
          · refine sw_iconst (x := 0) O (xx_dt dd_X14_isSoundNow 84 rfl) (by decide) ?_
            exact sw_iret O (xx_dt dd_X14_isSoundNow 85 rfl) rfl rfl (by rw [hQ, kr128 0 (by simp only [if_neg q9])]; exact ⟨rfl, rfl⟩)
      · show SW Y _ _ (setM z σ h) 128 [.ref 5000, .int (nI R), xx_d] []
        refine sw_iload_n O (xx_dt dd_X14_isSoundNow 68 rfl) rfl ?_
        refine sw_aload_n O (xx_dt dd_X14_isSoundNow 69 rfl) rfl ?_
        refine sw_get (v := .ref 5001) O (xx_dt dd_X14_isSoundNow 70 rfl) cl_X14 fl_X14_23 (lm_modC (σ := σ) (fl1 hf5)) (by decide) rfl ?_
        refine sw_callVL (ci := 6) (as := []) (st := [.int (nI R)]) (st2 := [.int (nI R), .int (nI R)]) O (ct_AL_size hl (lm_5001 (σ := σ) (R := R) hR (by omega))) ce_Jx4a65c_size_8abf5 ml_X14_57 iv_Jx4a65c_size_8abf5 cl_Jx4a65c rfl (lm_5001 (σ := σ) (R := R) hR (by omega)) (xx_dt dd_X14_isSoundNow 71 rfl) (by decide) rfl rfl (Nat.le_of_ble_eq_true rfl) rfl ?_
        refine sw_icmp_ge (tgt := 170) O (xx_dt dd_X14_isSoundNow 72 rfl) (by decide) (fun q8 => ?_) (fun q8 => ?_)
        · refine sw_aload_n O (xx_dt dd_X14_isSoundNow 88 rfl) rfl ?_
          refine sw_get (v := .int (σ 5000 1)) O (xx_dt dd_X14_isSoundNow 89 rfl) cl_X14 fl_X14_77 (lm_modC (σ := σ) (fl1 hf5)) (by decide) rfl ?_
          refine sw_iconst (x := 3) O (xx_dt dd_X14_isSoundNow 90 rfl) (by decide) ?_
          refine sw_icmp_ne (tgt := 187) O (xx_dt dd_X14_isSoundNow 91 rfl) (by decide) (fun q10 => ?_) (fun q10 => ?_)
          · refine sw_aload_n O (xx_dt dd_X14_isSoundNow 97 rfl) rfl ?_
            refine sw_get (v := .ref 7000) O (xx_dt dd_X14_isSoundNow 98 rfl) cl_X14 fl_X14_141 (lm_modC (σ := σ) (fl1 hf5)) (by decide) rfl ?_
            refine sw_ifnull O (xx_dt dd_X14_isSoundNow 99 rfl) ?_
            refine sw_aload_n O (xx_dt dd_X14_isSoundNow 100 rfl) rfl ?_
            refine sw_callVx (as := []) (st := []) (st2 := [.int (f_MisLogged σ R B K)]) O (ct_isLogged hl (z := z) (σ := σ) hbs hfr hme hR hR5 hB hB6 hK hK60 hf hf5 hg hg1 hw hw1 ha) ce_X14_isLogged ml_X14_397 iv_X14_isLogged cl_X14 rfl (lm_modC (σ := σ) (fl1 hf5)) (xx_dt dd_X14_isSoundNow 101 rfl) (by decide) rfl rfl (Nat.le_of_ble_eq_true rfl) rfl ?_
            refine sw_if_eq (tgt := 205) O (xx_dt dd_X14_isSoundNow 102 rfl) (by decide) (fun q11 => ?_) (fun q11 => ?_)
            · refine sw_iconst (x := 0) O (xx_dt dd_X14_isSoundNow 105 rfl) (by decide) ?_
              exact sw_iret O (xx_dt dd_X14_isSoundNow 106 rfl) rfl rfl (by rw [hQ]; exact ⟨by unfold f_MisSound_c; simp only [if_neg q10, if_pos q11, show x_MisSound_c_2 σ R B K C pk g tn sp () = .inl sN2 from eN2, show x_MisSound_c_128 σ R B K C pk g tn sp () = .inl sN128 from eN128], rfl⟩)
            · refine sw_iconst (x := 1) O (xx_dt dd_X14_isSoundNow 103 rfl) (by decide) ?_
              refine sw_goto (tgt := 206) O (xx_dt dd_X14_isSoundNow 104 rfl) (by decide) ?_
              exact sw_iret O (xx_dt dd_X14_isSoundNow 106 rfl) rfl rfl (by rw [hQ]; exact ⟨by unfold f_MisSound_c; simp only [if_neg q10, if_neg q11, show x_MisSound_c_2 σ R B K C pk g tn sp () = .inl sN2 from eN2, show x_MisSound_c_128 σ R B K C pk g tn sp () = .inl sN128 from eN128], rfl⟩)
          · refine sw_aload_n O (xx_dt dd_X14_isSoundNow 92 rfl) rfl ?_
            refine sw_callVx (as := []) (st := []) (st2 := [.int (f_MareNamed σ R B sp tn pk)]) O (ct_X14_areNamed hl (z := z) (σ := σ) hbs hfr hme hR hR5 hB hB6 hpk (hkp q10) htn hsp hho) ce_X14_areNamed ml_X14_394 iv_X14_areNamed cl_X14 rfl (lm_modC (σ := σ) (fl1 hf5)) (xx_dt dd_X14_isSoundNow 93 rfl) (by decide) rfl rfl (Nat.le_of_ble_eq_true rfl) rfl ?_
            refine sw_if_ne (tgt := 187) O (xx_dt dd_X14_isSoundNow 94 rfl) (by decide) (fun q12 => ?_) (fun q12 => ?_)
            · refine sw_aload_n O (xx_dt dd_X14_isSoundNow 97 rfl) rfl ?_
              refine sw_get (v := .ref 7000) O (xx_dt dd_X14_isSoundNow 98 rfl) cl_X14 fl_X14_141 (lm_modC (σ := σ) (fl1 hf5)) (by decide) rfl ?_
              refine sw_ifnull O (xx_dt dd_X14_isSoundNow 99 rfl) ?_
              refine sw_aload_n O (xx_dt dd_X14_isSoundNow 100 rfl) rfl ?_
              refine sw_callVx (as := []) (st := []) (st2 := [.int (f_MisLogged σ R B K)]) O (ct_isLogged hl (z := z) (σ := σ) hbs hfr hme hR hR5 hB hB6 hK hK60 hf hf5 hg hg1 hw hw1 ha) ce_X14_isLogged ml_X14_397 iv_X14_isLogged cl_X14 rfl (lm_modC (σ := σ) (fl1 hf5)) (xx_dt dd_X14_isSoundNow 101 rfl) (by decide) rfl rfl (Nat.le_of_ble_eq_true rfl) rfl ?_
              refine sw_if_eq (tgt := 205) O (xx_dt dd_X14_isSoundNow 102 rfl) (by decide) (fun q13 => ?_) (fun q13 => ?_)
              · refine sw_iconst (x := 0) O (xx_dt dd_X14_isSoundNow 105 rfl) (by decide) ?_
                exact sw_iret O (xx_dt dd_X14_isSoundNow 106 rfl) rfl rfl (by rw [hQ]; exact ⟨by unfold f_MisSound_c; simp only [if_pos q10, if_neg q12, if_pos q13, show x_MisSound_c_2 σ R B K C pk g tn sp () = .inl sN2 from eN2, show x_MisSound_c_128 σ R B K C pk g tn sp () = .inl sN128 from eN128], rfl⟩)
              · refine sw_iconst (x := 1) O (xx_dt dd_X14_isSoundNow 103 rfl) (by decide) ?_
                refine sw_goto (tgt := 206) O (xx_dt dd_X14_isSoundNow 104 rfl) (by decide) ?_
                exact sw_iret O (xx_dt dd_X14_isSoundNow 106 rfl) rfl rfl (by rw [hQ]; exact ⟨by unfold f_MisSound_c; simp only [if_pos q10, if_neg q12, if_neg q13, show x_MisSound_c_2 σ R B K C pk g tn sp () = .inl sN2 from eN2, show x_MisSound_c_128 σ R B K C pk g tn sp () = .inl sN128 from eN128], rfl⟩)
            · refine sw_iconst (x := 0) O (xx_dt dd_X14_isSoundNow 95 rfl) (by decide) ?_
              exact sw_iret O (xx_dt dd_X14_isSoundNow 96 rfl) rfl rfl (by rw [hQ]; exact ⟨by unfold f_MisSound_c; simp only [if_pos q10, if_pos q12, show x_MisSound_c_2 σ R B K C pk g tn sp () = .inl sN2 from eN2, show x_MisSound_c_128 σ R B K C pk g tn sp () = .inl sN128 from eN128], rfl⟩)
        · exact absurd (Int32.le_refl _) q8
      · unfold f_MisSound_c; simp only [x_MisSound_c_128, show x_MisSound_c_2 σ R B K C pk g tn sp () = .inl sN2 from eN2, eN128]
    · exact absurd (Int32.le_refl _) q1
  · unfold f_MisSound_c; simp only [x_MisSound_c_2, eN2]
def x_MisSound_n_26 (σ : XS9) (R B K C : Nat) (pk : Nat → Nat) (g : Nat) (tn sp : Nat → Nat) (i2 : Nat) (s0 : Unit) : Unit ⊕ Int32 := xitR (fun i26 s26 => (if (f_of (f_MheldCode_n σ i2) i26) ≤ (nI (sp i26)) then .inl () else .inr 0)) R 0 s0
def x_MisSound_n_2 (σ : XS9) (R B K C : Nat) (pk : Nat → Nat) (g : Nat) (tn sp : Nat → Nat) (s0 : Unit) : Unit ⊕ Int32 := xitR (fun i2 s2 => (if 0 ≤ (f_MofBidderNow σ i2 R B pk g 1) then (match (x_MisSound_n_26 σ R B K C pk g tn sp i2 ()) with | .inl s26 => (if (σ 5000 1) = 3 then (if (σ 5005 i2) = (-1) then .inl () else (if (σ 5006 i2) ≤ (f_Bamount σ i2 (cn (σ 5005 i2))) then .inl () else .inr 0)) else .inl ()) | .inr r26 => .inr r26) else .inr 0)) B 0 s0
def x_MisSound_n_128 (σ : XS9) (R B K C : Nat) (pk : Nat → Nat) (g : Nat) (tn sp : Nat → Nat) (s0 : Unit) : Unit ⊕ Int32 := xitR (fun i128 s128 => (if (σ (5010 + i128) 2) ≤ (f_MofRegionNow σ i128 R B C g 3) then .inl () else .inr 0)) R 0 s0
def f_MisSound_n (σ : XS9) (R B K C : Nat) (pk : Nat → Nat) (g : Nat) (tn sp : Nat → Nat) : Int32 := (match (x_MisSound_n_2 σ R B K C pk g tn sp ()) with | .inl s2 => (match (x_MisSound_n_128 σ R B K C pk g tn sp ()) with | .inl s128 => (if (σ 5000 1) = 3 then (if (f_MareNamed σ R B sp tn pk) = 0 then 0 else 1) else 1) | .inr r128 => r128) | .inr r2 => r2)
theorem ct_MisSound_n {l : Launch} {h : XH} (hl : l.stackTraces = false) {z : Int64} {σ : XS9} (hbs : xx_bs h) (hfr : ∀ r, 5000 ≤ r → r < 20010 → h r = none) (hme : mem_eq σ σ) {R : Nat} (hR : σ 5001 900 = nI R) (hR5 : R ≤ 5) {B : Nat} (hB : σ 5002 900 = nI B) (hB6 : B ≤ 6) {K : Nat} (hK : σ 5003 900 = nI K) (hK60 : K ≤ 60) {C : Nat} (hS : σ 5004 900 = nI (2 * C)) (hC10 : C ≤ 10) {pk : Nat → Nat} (hpk : ∀ j, j < B → σ (5030 + j) 900 = nI (2 * pk j) ∧ pk j ≤ 6) (hkp : σ 5000 1 = 3 → ∀ j, j < B → σ 5005 j = -1 ∨ ∃ n, n < pk j ∧ σ 5005 j = nI n) {tn : Nat → Nat} (htn : ∀ r, r < 5 → σ 5007 r = nI (tn r) ∧ tn r < 6) {sp : Nat → Nat} (hsp : ∀ r, r < R → σ (5010 + r) 0 = nI (sp r) ∧ sp r ≤ 5) (hho : ∀ (s : XS9) i j, (∀ q, q ≠ 20000 → s q = σ q) → i < R → j < sp i → f_MholderNow s i (nI j) B tn = -1 ∨ n_lt (f_MholderNow s i (nI j) B tn) 6) {g : Nat} (hg : σ 7000 23 = nI g) (hg1 : g < 200) {w : Nat} (hw : σ 7000 24 = nI w) (hw1 : w < 200) (hf5 : σ 7000 25 = nI 0)  : XEx l m_X14_isSoundNow 12 495 8668 [.ref 5000] (setM z σ h) (some (.int (f_MisSound_n σ R B K C pk g tn sp))) (setM z σ h) := by
  refine XMet.of hl rfl rfl (Nat.le_of_ble_eq_true rfl) (fun Y O hh hQ => ?_)
  have hfl : σ 7000 25 = nI 0 ∨ (σ 7000 25 = nI 1 ∧ σ 7000 20 = nI 1) := .inl hf5
  show SW Y 495 8668 (setM z σ h) 0 [.ref 5000, xx_d, xx_d] []
  refine sw_iconst (x := 0) O (xx_dt dd_X14_isSoundNow 0 rfl) (by decide) ?_
  refine sw_istore_n (ls2 := [.ref 5000, .int 0, xx_d]) O (xx_dt dd_X14_isSoundNow 1 rfl) (by decide) rfl ?_
  refine sw_forR (S := Unit) (R := Int32) (fun i2 s2 => (if 0 ≤ (f_MofBidderNow σ i2 R B pk g 1) then (match (x_MisSound_n_26 σ R B K C pk g tn sp i2 ()) with | .inl s26 => (if (σ 5000 1) = 3 then (if (σ 5005 i2) = (-1) then .inl () else (if (σ 5006 i2) ≤ (f_Bamount σ i2 (cn (σ 5005 i2))) then .inl () else .inr 0)) else .inl ()) | .inr r26 => .inr r26) else .inr 0)) (fun _ _ => True) (FR := fun r9 => f_MisSound_n σ R B K C pk g tn sp = r9) (hp := fun _ => setM z σ h) (hd := 2) (lc := fun i2 s2 => [.ref 5000, .int (nI i2), xx_d]) (N := B) (fun i2 s2 hi2 hP2 => ⟨fun _ _ => trivial, fun kk2 kr2 => ?_⟩) B 0 () (by omega) (trivial) (fun sN2 eN2 hP2 => ?_) (fun r2 eN2 => ?_)
  · refine sw_iload_n O (xx_dt dd_X14_isSoundNow 2 rfl) rfl ?_
    refine sw_aload_n O (xx_dt dd_X14_isSoundNow 3 rfl) rfl ?_
    refine sw_get (v := .ref 5002) O (xx_dt dd_X14_isSoundNow 4 rfl) cl_X14 fl_X14_27 (lm_modN (σ := σ) hf5) (by decide) rfl ?_
    refine sw_callVL (ci := 6) (as := []) (st := [.int (nI i2)]) (st2 := [.int (nI B), .int (nI i2)]) O (ct_AL_size hl (lm_5002 (σ := σ) (B := B) hB (by omega))) ce_Jx4a65c_size_8abf5 ml_X14_57 iv_Jx4a65c_size_8abf5 cl_Jx4a65c rfl (lm_5002 (σ := σ) (B := B) hB (by omega)) (xx_dt dd_X14_isSoundNow 5 rfl) (by decide) rfl rfl (Nat.le_of_ble_eq_true rfl) rfl ?_
    refine sw_icmp_ge (tgt := 126) O (xx_dt dd_X14_isSoundNow 6 rfl) (by decide) (fun q1 => ?_) (fun q1 => ?_)
    · exact absurd q1 (nI_ge (b := B) hi2 (by omega))
    · refine sw_aload_n O (xx_dt dd_X14_isSoundNow 7 rfl) rfl ?_
      refine sw_iload_n O (xx_dt dd_X14_isSoundNow 8 rfl) rfl ?_
      refine sw_iconst (x := 1) O (xx_dt dd_X14_isSoundNow 9 rfl) (by decide) ?_
      refine sw_callVx (as := [.int (nI i2), .int 1]) (st := []) (st2 := [.int (f_MofBidderNow σ i2 R B pk g 1)]) O ((show XEx _ _ _ _ _ [_, _, .int 1] _ _ _ from ct_X14_ofBidderNow hl (z := z) (σ := σ) hbs (R := R) hR (by omega) (B := B) hB (by omega) (pk := pk) hpk (i := i2) (by omega) hfl (g := g) hg (by omega) (w := w) hw (by omega) (v := 1) (by omega))) ce_X14_ofBidderNow ml_X14_311 iv_X14_ofBidderNow cl_X14 rfl (lm_modN (σ := σ) hf5) (xx_dt dd_X14_isSoundNow 10 rfl) (by decide) rfl rfl (Nat.le_of_ble_eq_true rfl) rfl ?_
      refine sw_if_ge (tgt := 24) O (xx_dt dd_X14_isSoundNow 11 rfl) (by decide) (fun q2 => ?_) (fun q2 => ?_)
      · refine sw_iconst (x := 0) O (xx_dt dd_X14_isSoundNow 14 rfl) (by decide) ?_
        refine sw_istore_n (ls2 := [.ref 5000, .int (nI i2), .int 0]) O (xx_dt dd_X14_isSoundNow 15 rfl) (by decide) rfl ?_
        refine sw_forR (S := Unit) (R := Int32) (fun i26 s26 => (if (f_of (f_MheldCode_n σ i2) i26) ≤ (nI (sp i26)) then .inl () else .inr 0)) (fun _ _ => True) (FR := fun r9 => f_MisSound_n σ R B K C pk g tn sp = r9) (hp := fun _ => setM z σ h) (hd := 26) (lc := fun i26 s26 => [.ref 5000, .int (nI i2), .int (nI i26)]) (N := R) (fun i26 s26 hi26 hP26 => ⟨fun _ _ => trivial, fun kk26 kr26 => ?_⟩) R 0 () (by omega) (trivial) (fun sN26 eN26 hP26 => ?_) (fun r26 eN26 => ?_)
        · refine sw_iload_n O (xx_dt dd_X14_isSoundNow 16 rfl) rfl ?_
          refine sw_aload_n O (xx_dt dd_X14_isSoundNow 17 rfl) rfl ?_
          refine sw_get (v := .ref 5001) O (xx_dt dd_X14_isSoundNow 18 rfl) cl_X14 fl_X14_23 (lm_modN (σ := σ) hf5) (by decide) rfl ?_
          refine sw_callVL (ci := 6) (as := []) (st := [.int (nI i26)]) (st2 := [.int (nI R), .int (nI i26)]) O (ct_AL_size hl (lm_5001 (σ := σ) (R := R) hR (by omega))) ce_Jx4a65c_size_8abf5 ml_X14_57 iv_Jx4a65c_size_8abf5 cl_Jx4a65c rfl (lm_5001 (σ := σ) (R := R) hR (by omega)) (xx_dt dd_X14_isSoundNow 19 rfl) (by decide) rfl rfl (Nat.le_of_ble_eq_true rfl) rfl ?_
          refine sw_icmp_ge (tgt := 71) O (xx_dt dd_X14_isSoundNow 20 rfl) (by decide) (fun q3 => ?_) (fun q3 => ?_)
          · exact absurd q3 (nI_ge (b := R) hi26 (by omega))
          · refine sw_aload_n O (xx_dt dd_X14_isSoundNow 21 rfl) rfl ?_
            refine sw_iload_n O (xx_dt dd_X14_isSoundNow 22 rfl) rfl ?_
            refine sw_callVx (as := [.int (nI i2)]) (st := []) (st2 := [.int (f_MheldCode_n σ i2)]) O (ct_MheldCode_n hl (z := z) (σ := σ) hbs (i := i2) (by omega) hf5) ce_X14_heldCode ml_X14_302 iv_X14_heldCode cl_X14 rfl (lm_modN (σ := σ) hf5) (xx_dt dd_X14_isSoundNow 23 rfl) (by decide) rfl rfl (Nat.le_of_ble_eq_true rfl) rfl ?_
            refine sw_iload_n O (xx_dt dd_X14_isSoundNow 24 rfl) rfl ?_
            refine sw_callSx (as := [.int (f_MheldCode_n σ i2), .int (nI i26)]) (st := []) (st2 := [.int (f_of (f_MheldCode_n σ i2) i26)]) O (ct_X14_of hl (c := f_MheldCode_n σ i2) (r := i26) (by omega)) ce_X14_of ml_X14_53 st_X14_of (xx_dt dd_X14_isSoundNow 25 rfl) (by decide) rfl rfl (Nat.le_of_ble_eq_true rfl) rfl ?_
            refine sw_aload_n O (xx_dt dd_X14_isSoundNow 26 rfl) rfl ?_
            refine sw_get (v := .ref 5001) O (xx_dt dd_X14_isSoundNow 27 rfl) cl_X14 fl_X14_23 (lm_modN (σ := σ) hf5) (by decide) rfl ?_
            refine sw_iload_n O (xx_dt dd_X14_isSoundNow 28 rfl) rfl ?_
            refine sw_callVL (ci := 6) (as := [.int (nI i26)]) (st := [.int (f_of (f_MheldCode_n σ i2) i26)]) (st2 := [.ref (5010 + i26), .int (f_of (f_MheldCode_n σ i2) i26)]) O (ct_get hl hbs (lm_5001 (σ := σ) (R := R) hR (by omega)) (by omega) (i := i26) (x := 5010 + i26) (by omega) (by omega) rfl) ce_Jx4a65c_get_915e3 ml_X14_61 iv_Jx4a65c_get_915e3 cl_Jx4a65c rfl (lm_5001 (σ := σ) (R := R) hR (by omega)) (xx_dt dd_X14_isSoundNow 29 rfl) (by decide) rfl rfl (Nat.le_of_ble_eq_true rfl) rfl ?_
            refine sw_castO O (xx_dt dd_X14_isSoundNow 30 rfl) cl_X12 (lm_reg (σ := σ) (R := R) hR (by omega) (j := i26) (by omega)) cw_X14_65 ?_
            have hz57 := (hsp i26 (by omega)).2
            refine sw_get (v := .int (nI (sp i26))) O (xx_dt dd_X14_isSoundNow 31 rfl) cl_X12 fl_X14_81 (lm_reg (σ := σ) (R := R) hR (by omega) (j := i26) (by omega)) (by decide) (congrArg Value.int (hsp i26 (by omega)).1) ?_
            refine sw_icmp_le (tgt := 65) O (xx_dt dd_X14_isSoundNow 32 rfl) (by decide) (fun q4 => ?_) (fun q4 => ?_)
            · refine sw_iinc (y := nI (i26 + 1)) (ls2 := [.ref 5000, .int (nI i2), .int (nI (i26 + 1))]) O (xx_dt dd_X14_isSoundNow 35 rfl) rfl (nI_1 _) (by decide) rfl ?_
              refine sw_goto (tgt := 26) O (xx_dt dd_X14_isSoundNow 36 rfl) (by decide) ?_
              exact kk26 () (by simp only [if_pos q4])
            · refine sw_iconst (x := 0) O (xx_dt dd_X14_isSoundNow 33 rfl) (by decide) ?_
              exact sw_iret O (xx_dt dd_X14_isSoundNow 34 rfl) rfl rfl (by rw [hQ, kr26 0 (by simp only [if_neg q4])]; exact ⟨rfl, rfl⟩)
        · show SW Y _ _ (setM z σ h) 26 [.ref 5000, .int (nI i2), .int (nI R)] []
          refine sw_iload_n O (xx_dt dd_X14_isSoundNow 16 rfl) rfl ?_
          refine sw_aload_n O (xx_dt dd_X14_isSoundNow 17 rfl) rfl ?_
          refine sw_get (v := .ref 5001) O (xx_dt dd_X14_isSoundNow 18 rfl) cl_X14 fl_X14_23 (lm_modN (σ := σ) hf5) (by decide) rfl ?_
          refine sw_callVL (ci := 6) (as := []) (st := [.int (nI R)]) (st2 := [.int (nI R), .int (nI R)]) O (ct_AL_size hl (lm_5001 (σ := σ) (R := R) hR (by omega))) ce_Jx4a65c_size_8abf5 ml_X14_57 iv_Jx4a65c_size_8abf5 cl_Jx4a65c rfl (lm_5001 (σ := σ) (R := R) hR (by omega)) (xx_dt dd_X14_isSoundNow 19 rfl) (by decide) rfl rfl (Nat.le_of_ble_eq_true rfl) rfl ?_
          refine sw_icmp_ge (tgt := 71) O (xx_dt dd_X14_isSoundNow 20 rfl) (by decide) (fun q3 => ?_) (fun q3 => ?_)
          · refine sw_aload_n O (xx_dt dd_X14_isSoundNow 37 rfl) rfl ?_
            refine sw_get (v := .int (σ 5000 1)) O (xx_dt dd_X14_isSoundNow 38 rfl) cl_X14 fl_X14_77 (lm_modN (σ := σ) hf5) (by decide) rfl ?_
            refine sw_iconst (x := 3) O (xx_dt dd_X14_isSoundNow 39 rfl) (by decide) ?_
            refine sw_icmp_ne (tgt := 120) O (xx_dt dd_X14_isSoundNow 40 rfl) (by decide) (fun q5 => ?_) (fun q5 => ?_)
            · refine sw_iinc (y := nI (i2 + 1)) (ls2 := [.ref 5000, .int (nI (i2 + 1)), .int (nI R)]) O (xx_dt dd_X14_isSoundNow 64 rfl) rfl (nI_1 _) (by decide) rfl ?_
              refine sw_goto (tgt := 2) O (xx_dt dd_X14_isSoundNow 65 rfl) (by decide) ?_
              refine sw_dum (ls2 := [.ref 5000, .int (nI (i2 + 1)), xx_d]) ⟨.inr rfl, .inr rfl, .inl rfl, trivial⟩ ?_
              exact kk2 () (by simp only [if_pos q2, if_neg q5, x_MisSound_n_26, eN26])
            · refine sw_aload_n O (xx_dt dd_X14_isSoundNow 41 rfl) rfl ?_
              refine sw_get (v := .ref 5005) O (xx_dt dd_X14_isSoundNow 42 rfl) cl_X14 fl_X14_36 (lm_modN (σ := σ) hf5) (by decide) rfl ?_
              refine sw_iload_n O (xx_dt dd_X14_isSoundNow 43 rfl) rfl ?_
              refine sw_iaload (v := .int (σ 5005 i2)) O (xx_dt dd_X14_isSoundNow 44 rfl) ((im_5005 (z := z) (σ := σ)).get _) (pk_in i2 _ (by omega)) (by rw [nI_clamp (by omega)]; try exact rfl) ?_
              refine sw_iconst (x := (-1)) O (xx_dt dd_X14_isSoundNow 45 rfl) (by decide) ?_
              refine sw_icmp_eq (tgt := 120) O (xx_dt dd_X14_isSoundNow 46 rfl) (by decide) (fun q6 => ?_) (fun q6 => ?_)
              · refine sw_iinc (y := nI (i2 + 1)) (ls2 := [.ref 5000, .int (nI (i2 + 1)), .int (nI R)]) O (xx_dt dd_X14_isSoundNow 64 rfl) rfl (nI_1 _) (by decide) rfl ?_
                refine sw_goto (tgt := 2) O (xx_dt dd_X14_isSoundNow 65 rfl) (by decide) ?_
                refine sw_dum (ls2 := [.ref 5000, .int (nI (i2 + 1)), xx_d]) ⟨.inr rfl, .inr rfl, .inl rfl, trivial⟩ ?_
                exact kk2 () (by simp only [if_pos q2, if_pos q5, if_pos q6, x_MisSound_n_26, eN26])
              · have hc86 := (kept_nat (hkp q5 _ (by omega)) q6 (by have := (hpk i2 (by omega)).2; omega))
                have hd86 := hc86.2
                refine sw_aload_n O (xx_dt dd_X14_isSoundNow 47 rfl) rfl ?_
                refine sw_get (v := .ref 5006) O (xx_dt dd_X14_isSoundNow 48 rfl) cl_X14 fl_X14_40 (lm_modN (σ := σ) hf5) (by decide) rfl ?_
                refine sw_iload_n O (xx_dt dd_X14_isSoundNow 49 rfl) rfl ?_
                refine sw_iaload (v := .int (σ 5006 i2)) O (xx_dt dd_X14_isSoundNow 50 rfl) ((im_5006 (z := z) (σ := σ)).get _) (pk_in i2 _ (by omega)) (by rw [nI_clamp (by omega)]; try exact rfl) ?_
                refine sw_aload_n O (xx_dt dd_X14_isSoundNow 51 rfl) rfl ?_
                refine sw_get (v := .ref 5002) O (xx_dt dd_X14_isSoundNow 52 rfl) cl_X14 fl_X14_27 (lm_modN (σ := σ) hf5) (by decide) rfl ?_
                refine sw_iload_n O (xx_dt dd_X14_isSoundNow 53 rfl) rfl ?_
                refine sw_callVL (ci := 6) (as := [.int (nI i2)]) (st := [.int (σ 5006 i2)]) (st2 := [.ref (5020 + i2), .int (σ 5006 i2)]) O (ct_get hl hbs (lm_5002 (σ := σ) (B := B) hB (by omega)) (by omega) (i := i2) (x := 5020 + i2) (by omega) (by omega) rfl) ce_Jx4a65c_get_915e3 ml_X14_61 iv_Jx4a65c_get_915e3 cl_Jx4a65c rfl (lm_5002 (σ := σ) (B := B) hB (by omega)) (xx_dt dd_X14_isSoundNow 54 rfl) (by decide) rfl rfl (Nat.le_of_ble_eq_true rfl) rfl ?_
                refine sw_castO O (xx_dt dd_X14_isSoundNow 55 rfl) cl_X9 (lm_bid (σ := σ) (B := B) hB (by omega) (j := i2) (by omega)) cw_X14_118 ?_
                refine sw_aload_n O (xx_dt dd_X14_isSoundNow 56 rfl) rfl ?_
                refine sw_get (v := .ref 5005) O (xx_dt dd_X14_isSoundNow 57 rfl) cl_X14 fl_X14_36 (lm_modN (σ := σ) hf5) (by decide) rfl ?_
                refine sw_iload_n O (xx_dt dd_X14_isSoundNow 58 rfl) rfl ?_
                refine sw_iaload (v := .int (nI (cn (σ 5005 i2)))) O (xx_dt dd_X14_isSoundNow 59 rfl) ((im_5005 (z := z) (σ := σ)).get _) (pk_in i2 _ (by omega)) (by rw [nI_clamp (by omega)]; exact (congrArg Value.int hc86.1)) ?_
                refine sw_callVx (as := [.int (nI (cn (σ 5005 i2)))]) (st := [.int (σ 5006 i2)]) (st2 := [.int (f_Bamount σ i2 (cn (σ 5005 i2))), .int (σ 5006 i2)]) O (ct_X9_amount hl (z := z) (σ := σ) hbs (B := B) hB (by omega) (j := i2) (by omega) (p := pk i2) (hpk i2 (by omega)).1 (by have h9 := (hpk i2 (by omega)).2; omega) (k := cn (σ 5005 i2)) (by first | omega | (have h9 := (hpk i2 (by omega)).2; omega))) ce_X9_amount ml_X14_252 iv_X9_amount cl_X9 rfl (lm_bid (σ := σ) (B := B) hB (by omega) (j := i2) (by omega)) (xx_dt dd_X14_isSoundNow 60 rfl) (by decide) rfl rfl (Nat.le_of_ble_eq_true rfl) rfl ?_
                refine sw_icmp_le (tgt := 120) O (xx_dt dd_X14_isSoundNow 61 rfl) (by decide) (fun q7 => ?_) (fun q7 => ?_)
                · refine sw_iinc (y := nI (i2 + 1)) (ls2 := [.ref 5000, .int (nI (i2 + 1)), .int (nI R)]) O (xx_dt dd_X14_isSoundNow 64 rfl) rfl (nI_1 _) (by decide) rfl ?_
                  refine sw_goto (tgt := 2) O (xx_dt dd_X14_isSoundNow 65 rfl) (by decide) ?_
                  refine sw_dum (ls2 := [.ref 5000, .int (nI (i2 + 1)), xx_d]) ⟨.inr rfl, .inr rfl, .inl rfl, trivial⟩ ?_
                  exact kk2 () (by simp only [if_pos q2, if_pos q5, if_neg q6, if_pos q7, x_MisSound_n_26, eN26])
                · refine sw_iconst (x := 0) O (xx_dt dd_X14_isSoundNow 62 rfl) (by decide) ?_
                  exact sw_iret O (xx_dt dd_X14_isSoundNow 63 rfl) rfl rfl (by rw [hQ, kr2 0 (by simp only [if_pos q2, if_pos q5, if_neg q6, if_neg q7, x_MisSound_n_26, eN26])]; exact ⟨rfl, rfl⟩)
          · exact absurd (Int32.le_refl _) q3
        · exact kr2 r26 (by simp only [if_pos q2, x_MisSound_n_26, eN26])
      · refine sw_iconst (x := 0) O (xx_dt dd_X14_isSoundNow 12 rfl) (by decide) ?_
        exact sw_iret O (xx_dt dd_X14_isSoundNow 13 rfl) rfl rfl (by rw [hQ, kr2 0 (by simp only [if_neg q2])]; exact ⟨rfl, rfl⟩)
  · show SW Y _ _ (setM z σ h) 2 [.ref 5000, .int (nI B), xx_d] []
    refine sw_iload_n O (xx_dt dd_X14_isSoundNow 2 rfl) rfl ?_
    refine sw_aload_n O (xx_dt dd_X14_isSoundNow 3 rfl) rfl ?_
    refine sw_get (v := .ref 5002) O (xx_dt dd_X14_isSoundNow 4 rfl) cl_X14 fl_X14_27 (lm_modN (σ := σ) hf5) (by decide) rfl ?_
    refine sw_callVL (ci := 6) (as := []) (st := [.int (nI B)]) (st2 := [.int (nI B), .int (nI B)]) O (ct_AL_size hl (lm_5002 (σ := σ) (B := B) hB (by omega))) ce_Jx4a65c_size_8abf5 ml_X14_57 iv_Jx4a65c_size_8abf5 cl_Jx4a65c rfl (lm_5002 (σ := σ) (B := B) hB (by omega)) (xx_dt dd_X14_isSoundNow 5 rfl) (by decide) rfl rfl (Nat.le_of_ble_eq_true rfl) rfl ?_
    refine sw_icmp_ge (tgt := 126) O (xx_dt dd_X14_isSoundNow 6 rfl) (by decide) (fun q1 => ?_) (fun q1 => ?_)
    · refine sw_iconst (x := 0) O (xx_dt dd_X14_isSoundNow 66 rfl) (by decide) ?_
      refine sw_istore_n (ls2 := [.ref 5000, .int 0, xx_d]) O (xx_dt dd_X14_isSoundNow 67 rfl) (by decide) rfl ?_
      refine sw_forR (S := Unit) (R := Int32) (fun i128 s128 => (if (σ (5010 + i128) 2) ≤ (f_MofRegionNow σ i128 R B C g 3) then .inl () else .inr 0)) (fun _ _ => True) (FR := fun r9 => f_MisSound_n σ R B K C pk g tn sp = r9) (hp := fun _ => setM z σ h) (hd := 128) (lc := fun i128 s128 => [.ref 5000, .int (nI i128), xx_d]) (N := R) (fun i128 s128 hi128 hP128 => ⟨fun _ _ => trivial, fun kk128 kr128 => ?_⟩) R 0 () (by omega) (trivial) (fun sN128 eN128 hP128 => ?_) (fun r128 eN128 => ?_)
      · refine sw_iload_n O (xx_dt dd_X14_isSoundNow 68 rfl) rfl ?_
        refine sw_aload_n O (xx_dt dd_X14_isSoundNow 69 rfl) rfl ?_
        refine sw_get (v := .ref 5001) O (xx_dt dd_X14_isSoundNow 70 rfl) cl_X14 fl_X14_23 (lm_modN (σ := σ) hf5) (by decide) rfl ?_
        refine sw_callVL (ci := 6) (as := []) (st := [.int (nI i128)]) (st2 := [.int (nI R), .int (nI i128)]) O (ct_AL_size hl (lm_5001 (σ := σ) (R := R) hR (by omega))) ce_Jx4a65c_size_8abf5 ml_X14_57 iv_Jx4a65c_size_8abf5 cl_Jx4a65c rfl (lm_5001 (σ := σ) (R := R) hR (by omega)) (xx_dt dd_X14_isSoundNow 71 rfl) (by decide) rfl rfl (Nat.le_of_ble_eq_true rfl) rfl ?_
        refine sw_icmp_ge (tgt := 170) O (xx_dt dd_X14_isSoundNow 72 rfl) (by decide) (fun q8 => ?_) (fun q8 => ?_)
        · exact absurd q8 (nI_ge (b := R) hi128 (by omega))
        · refine sw_aload_n O (xx_dt dd_X14_isSoundNow 73 rfl) rfl ?_
          refine sw_iload_n O (xx_dt dd_X14_isSoundNow 74 rfl) rfl ?_
          refine sw_iconst (x := 3) O (xx_dt dd_X14_isSoundNow 75 rfl) (by decide) ?_
          refine sw_callVx (as := [.int (nI i128), .int 3]) (st := []) (st2 := [.int (f_MofRegionNow σ i128 R B C g 3)]) O ((show XEx _ _ _ _ _ [_, _, .int 3] _ _ _ from ct_X14_ofRegionNow hl (z := z) (σ := σ) hbs (R := R) hR (by omega) (B := B) hB (by omega) (C := C) hS (by omega) (r := i128) (by omega) hfl (g := g) hg (by omega) (w := w) hw (by omega) (v := 3) (by omega))) ce_X14_ofRegionNow ml_X14_299 iv_X14_ofRegionNow cl_X14 rfl (lm_modN (σ := σ) hf5) (xx_dt dd_X14_isSoundNow 76 rfl) (by decide) rfl rfl (Nat.le_of_ble_eq_true rfl) rfl ?_
          refine sw_aload_n O (xx_dt dd_X14_isSoundNow 77 rfl) rfl ?_
          refine sw_get (v := .ref 5001) O (xx_dt dd_X14_isSoundNow 78 rfl) cl_X14 fl_X14_23 (lm_modN (σ := σ) hf5) (by decide) rfl ?_
          refine sw_iload_n O (xx_dt dd_X14_isSoundNow 79 rfl) rfl ?_
          refine sw_callVL (ci := 6) (as := [.int (nI i128)]) (st := [.int (f_MofRegionNow σ i128 R B C g 3)]) (st2 := [.ref (5010 + i128), .int (f_MofRegionNow σ i128 R B C g 3)]) O (ct_get hl hbs (lm_5001 (σ := σ) (R := R) hR (by omega)) (by omega) (i := i128) (x := 5010 + i128) (by omega) (by omega) rfl) ce_Jx4a65c_get_915e3 ml_X14_61 iv_Jx4a65c_get_915e3 cl_Jx4a65c rfl (lm_5001 (σ := σ) (R := R) hR (by omega)) (xx_dt dd_X14_isSoundNow 80 rfl) (by decide) rfl rfl (Nat.le_of_ble_eq_true rfl) rfl ?_
          refine sw_castO O (xx_dt dd_X14_isSoundNow 81 rfl) cl_X12 (lm_reg (σ := σ) (R := R) hR (by omega) (j := i128) (by omega)) cw_X14_65 ?_
          refine sw_get (v := .int (σ (5010 + i128) 2)) O (xx_dt dd_X14_isSoundNow 82 rfl) cl_X12 fl_X14_84 (lm_reg (σ := σ) (R := R) hR (by omega) (j := i128) (by omega)) (by decide) rfl ?_
          refine sw_icmp_ge (tgt := 164) O (xx_dt dd_X14_isSoundNow 83 rfl) (by decide) (fun q9 => ?_) (fun q9 => ?_)
          · refine sw_iinc (y := nI (i128 + 1)) (ls2 := [.ref 5000, .int (nI (i128 + 1)), xx_d]) O (xx_dt dd_X14_isSoundNow 86 rfl) rfl (nI_1 _) (by decide) rfl ?_
            refine sw_goto (tgt := 128) O (xx_dt dd_X14_isSoundNow 87 rfl) (by decide) ?_
            exact kk128 () (by simp only [if_pos q9])
          · refine sw_iconst (x := 0) O (xx_dt dd_X14_isSoundNow 84 rfl) (by decide) ?_
            exact sw_iret O (xx_dt dd_X14_isSoundNow 85 rfl) rfl rfl (by rw [hQ, kr128 0 (by simp only [if_neg q9])]; exact ⟨rfl, rfl⟩)
      · show SW Y _ _ (setM z σ h) 128 [.ref 5000, .int (nI R), xx_d] []
        refine sw_iload_n O (xx_dt dd_X14_isSoundNow 68 rfl) rfl ?_
        refine sw_aload_n O (xx_dt dd_X14_isSoundNow 69 rfl) rfl ?_
        refine sw_get (v := .ref 5001) O (xx_dt dd_X14_isSoundNow 70 rfl) cl_X14 fl_X14_23 (lm_modN (σ := σ) hf5) (by decide) rfl ?_
        refine sw_callVL (ci := 6) (as := []) (st := [.int (nI R)]) (st2 := [.int (nI R), .int (nI R)]) O (ct_AL_size hl (lm_5001 (σ := σ) (R := R) hR (by omega))) ce_Jx4a65c_size_8abf5 ml_X14_57 iv_Jx4a65c_size_8abf5 cl_Jx4a65c rfl (lm_5001 (σ := σ) (R := R) hR (by omega)) (xx_dt dd_X14_isSoundNow 71 rfl) (by decide) rfl rfl (Nat.le_of_ble_eq_true rfl) rfl ?_
        refine sw_icmp_ge (tgt := 170) O (xx_dt dd_X14_isSoundNow 72 rfl) (by decide) (fun q8 => ?_) (fun q8 => ?_)
        · refine sw_aload_n O (xx_dt dd_X14_isSoundNow 88 rfl) rfl ?_
          refine sw_get (v := .int (σ 5000 1)) O (xx_dt dd_X14_isSoundNow 89 rfl) cl_X14 fl_X14_77 (lm_modN (σ := σ) hf5) (by decide) rfl ?_
          refine sw_iconst (x := 3) O (xx_dt dd_X14_isSoundNow 90 rfl) (by decide) ?_
          refine sw_icmp_ne (tgt := 187) O (xx_dt dd_X14_isSoundNow 91 rfl) (by decide) (fun q10 => ?_) (fun q10 => ?_)
          · refine sw_aload_n O (xx_dt dd_X14_isSoundNow 97 rfl) rfl ?_
            refine sw_get (v := .null) O (xx_dt dd_X14_isSoundNow 98 rfl) cl_X14 fl_X14_141 (lm_modN (σ := σ) hf5) (by decide) rfl ?_
            refine sw_ifnullN (tgt := 201) O (xx_dt dd_X14_isSoundNow 99 rfl) (by decide) ?_
            refine sw_iconst (x := 1) O (xx_dt dd_X14_isSoundNow 103 rfl) (by decide) ?_
            refine sw_goto (tgt := 206) O (xx_dt dd_X14_isSoundNow 104 rfl) (by decide) ?_
            exact sw_iret O (xx_dt dd_X14_isSoundNow 106 rfl) rfl rfl (by rw [hQ]; exact ⟨by unfold f_MisSound_n; simp only [if_neg q10, show x_MisSound_n_2 σ R B K C pk g tn sp () = .inl sN2 from eN2, show x_MisSound_n_128 σ R B K C pk g tn sp () = .inl sN128 from eN128], rfl⟩)
          · refine sw_aload_n O (xx_dt dd_X14_isSoundNow 92 rfl) rfl ?_
            refine sw_callVx (as := []) (st := []) (st2 := [.int (f_MareNamed σ R B sp tn pk)]) O (ct_X14_areNamed hl (z := z) (σ := σ) hbs hfr hme hR hR5 hB hB6 hpk (hkp q10) htn hsp hho) ce_X14_areNamed ml_X14_394 iv_X14_areNamed cl_X14 rfl (lm_modN (σ := σ) hf5) (xx_dt dd_X14_isSoundNow 93 rfl) (by decide) rfl rfl (Nat.le_of_ble_eq_true rfl) rfl ?_
            refine sw_if_ne (tgt := 187) O (xx_dt dd_X14_isSoundNow 94 rfl) (by decide) (fun q11 => ?_) (fun q11 => ?_)
            · refine sw_aload_n O (xx_dt dd_X14_isSoundNow 97 rfl) rfl ?_
              refine sw_get (v := .null) O (xx_dt dd_X14_isSoundNow 98 rfl) cl_X14 fl_X14_141 (lm_modN (σ := σ) hf5) (by decide) rfl ?_
              refine sw_ifnullN (tgt := 201) O (xx_dt dd_X14_isSoundNow 99 rfl) (by decide) ?_
              refine sw_iconst (x := 1) O (xx_dt dd_X14_isSoundNow 103 rfl) (by decide) ?_
              refine sw_goto (tgt := 206) O (xx_dt dd_X14_isSoundNow 104 rfl) (by decide) ?_
              exact sw_iret O (xx_dt dd_X14_isSoundNow 106 rfl) rfl rfl (by rw [hQ]; exact ⟨by unfold f_MisSound_n; simp only [if_pos q10, if_neg q11, show x_MisSound_n_2 σ R B K C pk g tn sp () = .inl sN2 from eN2, show x_MisSound_n_128 σ R B K C pk g tn sp () = .inl sN128 from eN128], rfl⟩)
            · refine sw_iconst (x := 0) O (xx_dt dd_X14_isSoundNow 95 rfl) (by decide) ?_
              exact sw_iret O (xx_dt dd_X14_isSoundNow 96 rfl) rfl rfl (by rw [hQ]; exact ⟨by unfold f_MisSound_n; simp only [if_pos q10, if_pos q11, show x_MisSound_n_2 σ R B K C pk g tn sp () = .inl sN2 from eN2, show x_MisSound_n_128 σ R B K C pk g tn sp () = .inl sN128 from eN128], rfl⟩)
        · exact absurd (Int32.le_refl _) q8
      · unfold f_MisSound_n; simp only [x_MisSound_n_128, show x_MisSound_n_2 σ R B K C pk g tn sp () = .inl sN2 from eN2, eN128]
    · exact absurd (Int32.le_refl _) q1
  · unfold f_MisSound_n; simp only [x_MisSound_n_2, eN2]
end
section
/-! ===== the reference: isSound, over what isSoundNow says ===== -/
def f_MisSound (σ : XS9) (v : Int32) : Int32 := v
def g_MisSound (σ : XS9) (v : Int32) : XS9 := u2 σ 5000 0 0
theorem ct_X14_isSound {l : Launch} {h : XH} (hl : l.stackTraces = false) {z : Int64} {σ : XS9} (hbs : xx_bs h) {v : Int32} (hv : v = 0 ∨ v = 1) (hs : XEx l m_X14_isSoundNow 12 495 8668 [.ref 5000] (setM z (u2 σ 5000 0 0) h) (some (.int v)) (setM z (u2 σ 5000 0 0) h))  : XEx l m_X14_isSound 13 495 8668 [.ref 5000] (setM z σ h) (some (.int (f_MisSound σ v))) (setM z (g_MisSound σ v) h) := by
  refine XMet.of hl rfl rfl (Nat.le_of_ble_eq_true rfl) (fun Y O hh hQ => ?_)
  show SW Y 495 8668 (setM z σ h) 0 [.ref 5000] []
  refine sw_aload_n O (xx_dt dd_X14_isSound 0 rfl) rfl ?_
  refine sw_iconst (x := 0) O (xx_dt dd_X14_isSound 1 rfl) (by decide) ?_
  refine sw_put (h2 := setM z (u2 σ 5000 0 0) h) O (xx_dt dd_X14_isSound 2 rfl) cl_X14 fl_X14_46 (lm_mod (σ := σ)) (by decide) (by omega) rfl (fun _ => ⟨rfl, rfl⟩) (pm_mod (σ := σ) (by omega)) ?_
  refine sw_aload_n O (xx_dt dd_X14_isSound 3 rfl) rfl ?_
  refine sw_callVx (as := []) (st := []) (st2 := [.int v]) O (hs) ce_X14_isSoundNow ml_X14_404 iv_X14_isSoundNow cl_X14 rfl (lm_mod (σ := u2 σ 5000 0 0)) (xx_dt dd_X14_isSound 4 rfl) (by decide) rfl rfl (Nat.le_of_ble_eq_true rfl) rfl ?_
  exact sw_iret O (xx_dt dd_X14_isSound 5 rfl) rfl (xx_bool hv) (by rw [hQ]; exact ⟨by unfold f_MisSound; rfl, by unfold g_MisSound; rfl⟩)
end
