/-! ===== the reference: anew ===== -/
theorem xitB_at {S : Type} {step : Nat → S → S ⊕ S} (P : Nat → S → Prop) {N : Nat} (h : ∀ i s, i < N → P i s → (∀ s', step i s = .inl s' → P (i + 1) s') ∧ ∀ s', step i s = .inr s' → P i s') : ∀ (f i : Nat) (s : S), i + f = N → P i s → ∃ m, m ≤ N ∧ P m (xitB step f i s)
  | 0, i, s, e, hP => ⟨i, by omega, hP⟩
  | f + 1, i, s, e, hP => by
    unfold xitB
    split
    · rename_i s' e'
      exact xitB_at P h f (i + 1) s' (by omega) ((h i s (by omega) hP).1 s' e')
    · rename_i s' e'
      exact ⟨i, by omega, (h i s (by omega) hP).2 s' e'⟩
theorem drop8 {z : Int64} {τ : XS9} {h : XH} (hfr : ∀ r, 5000 ≤ r → r < 20010 → h r = none) : xx_sub (setM z (u2 τ 8000 20 0) h) (setM z τ h) := by
  intro r c hc
  by_cases e1 : 5000 ≤ r ∧ r < 20010
  · have hn := hfr r e1.1 e1.2
    unfold setM at hc ⊢
    rw [if_pos e1] at hc ⊢
    by_cases h9 : r < 8000 ∨ 9000 ≤ r
    · rw [u2_ne (by omega), lyQ_8 (C := ctl (u2 τ 8000 20 0)) (C' := ctl τ) (fun q i hq => by unfold ctl; rw [u2_ne hq]) h9] at hc
      exact hc
    · have f1 : lyQ z (ctl (u2 τ 8000 20 0)) r (u2 τ 8000 20 0 r) = none := by
        have e9 : ctl (u2 τ 8000 20 0) 8000 20 = 0 := rfl
        unfold lyQ
        rw [if_neg (by omega), if_neg (by omega), if_neg (by omega), if_neg (by omega), if_neg (by omega), if_neg (by omega), if_neg (by omega), if_neg (by omega), if_neg (by omega), if_neg (by omega), if_neg (by omega), if_neg (by omega), if_neg (by omega), if_pos (show r < 9000 by omega), if_pos e9]
      rw [f1, hn] at hc
      cases hc
  · rw [setM_out e1] at hc ⊢
    exact hc
theorem mem_eq.frame8 {σ τ0 τ' : XS9} (h : mem_eq σ τ0) (hf : ∀ q, (q < 8000 ∨ 9000 ≤ q) → τ' q = τ0 q) (h8 : τ' 8000 20 = 0) : mem_eq σ τ' := by
  refine ⟨fun q i h1 h2 h3 => ?_, ⟨⟨by rw [hf 9000 (by omega)]; exact h.2.1.1.1, h.2.1.1.2⟩, h8, h.2.1.2.2⟩, fun q h1 h2 => by rw [hf q (by omega)]; exact h.2.2 q h1 h2⟩
  rw [← h.1 q i h1 h2 h3]
  unfold ctl
  by_cases e : q < 8000 ∨ 9000 ≤ q
  · rw [hf q e]
  · rw [show isCtl q i = false from notCtl (by omega) i]
    rfl
def AH (GA : Nat → XS9 → Prop) (σ : XS9) (x : Int32) (j r : Nat) (u : Int32) (R B K : Nat) : Prop := (∀ i j, i < K → j < 6 → σ (6300 + i) j = 0 ∨ σ (6300 + i) j = 1) ∧ GA 0 (g_Kinit σ 8000 R B) ∧ (∀ (i : Nat) (s s9 : XS9), i < K → GA i s → st_anew σ x j r u R B K i s = .inl s9 → GA (i + 1) s9) ∧ (∀ (i13 : Nat) (s13 : XS9), i13 < K → GA i13 s13 → ∀ i9 r9, i9 < B → r9 < R → 0 ≤ (f_of (x_Kclose_2 (u2 (uR (u2 (uR s13 (8000 + 500 + (2 * i13 + 1)) (s13 (6100 + i13))) 8000 23 (nI (2 * i13 + 1))) (8000 + 700 + (2 * i13 + 1)) ((u2 (uR s13 (8000 + 500 + (2 * i13 + 1)) (s13 (6100 + i13))) 8000 23 (nI (2 * i13 + 1))) (6300 + i13))) 8000 24 (nI (2 * i13 + 1))) 8000 R B (2 * i13 + 1) (2 * i13 + 1) i13 (u2 (uR (u2 (uR s13 (8000 + 500 + (2 * i13 + 1)) (s13 (6100 + i13))) 8000 23 (nI (2 * i13 + 1))) (8000 + 700 + (2 * i13 + 1)) ((u2 (uR s13 (8000 + 500 + (2 * i13 + 1)) (s13 (6100 + i13))) 8000 23 (nI (2 * i13 + 1))) (6300 + i13))) 8000 24 (nI (2 * i13 + 1))) (8000 + 500 + (2 * i13 + 1)) i9) r9).toInt) ∧ (∀ (i13 : Nat) (s13 : XS9), i13 < K → GA i13 s13 → ∀ i9 r9, i9 < B → r9 < R → 0 ≤ (f_of (x_Kclose_2 (u2 (u2 (uR (u2 (uR s13 (8000 + 500 + (2 * i13 + 1)) (s13 (6100 + i13))) 8000 23 (nI (2 * i13 + 1))) (8000 + 700 + (2 * i13 + 1)) ((u2 (uR s13 (8000 + 500 + (2 * i13 + 1)) (s13 (6100 + i13))) 8000 23 (nI (2 * i13 + 1))) (6300 + i13))) 8000 24 (nI (2 * i13 + 1))) (8000 + 500 + (2 * i13 + 1)) j (f_with ((uR s13 (8000 + 500 + (2 * i13 + 1)) (s13 (6100 + i13))) (8000 + 500 + (2 * i13 + 1)) j) r u)) 8000 R B (2 * i13 + 1) (2 * i13 + 1) i13 (u2 (u2 (uR (u2 (uR s13 (8000 + 500 + (2 * i13 + 1)) (s13 (6100 + i13))) 8000 23 (nI (2 * i13 + 1))) (8000 + 700 + (2 * i13 + 1)) ((u2 (uR s13 (8000 + 500 + (2 * i13 + 1)) (s13 (6100 + i13))) 8000 23 (nI (2 * i13 + 1))) (6300 + i13))) 8000 24 (nI (2 * i13 + 1))) (8000 + 500 + (2 * i13 + 1)) j (f_with ((uR s13 (8000 + 500 + (2 * i13 + 1)) (s13 (6100 + i13))) (8000 + 500 + (2 * i13 + 1)) j) r u)) (8000 + 500 + (2 * i13 + 1)) i9) r9).toInt)
theorem ct_anewH {l : Launch} {h : XH} (hl : l.stackTraces = false) {z : Int64} {σ : XS9} {x u : Int32} {j r R B K : Nat} {GA : Nat → XS9 → Prop} (hbs : xx_bs h) (hfr : ∀ r, 5000 ≤ r → r < 20010 → h r = none) (hR : σ 5001 900 = nI R) (hR5 : R ≤ 5) (hB : σ 5002 900 = nI B) (hB6 : B ≤ 6) (hK : σ 5003 900 = nI K) (hK60 : K ≤ 60) (hk8 : σ 8000 20 = 0) (hj : j < 6) (hr : r < 6) (ha : AH GA σ x j r u R B K) : XEx l m_X14_runAnew 10 490 8638 [.ref 5000, .int x, .int (nI j), .int (nI r), .int u] (setM z σ h) (some (.ref 8000)) (setM z (g_MrunAnew σ x j r u R B K) h) := ct_X14_runAnew hl hbs hfr hR hR5 hB hB6 hK hK60 hk8 hj hr ha.1 ha.2.1 ha.2.2.1 ha.2.2.2.1 ha.2.2.2.2
def PA9 (S0 : XS9) (I : Nat) (s : XS9) : Prop := s 8000 20 = nI 1 ∧ s 8000 21 = nI I ∧ s 8000 22 = nI I ∧ s 8000 23 = nI (2 * I) ∧ s 8000 24 = nI (2 * I) ∧ ∀ q, (q < 8000 ∨ 9000 ≤ q) → s q = S0 q
theorem fr_Kinit8 {σ : XS9} {R B q : Nat} (h : q < 8000 ∨ 9000 ≤ q) : g_Kinit σ 8000 R B q = σ q := fr_Kinit (by omega)
theorem anew_out {σ : XS9} {x u : Int32} {j r R B K : Nat} {GA : Nat → XS9 → Prop} (hK60 : K ≤ 60) (ha : AH GA σ x j r u R B K) : ∃ m, m ≤ K ∧ PA9 σ m (g_MrunAnew σ x j r u R B K) := by
  obtain ⟨a1, hG0, hG, a2, a3⟩ := ha
  have t := xitB_at (step := st_anew σ x j r u R B K) (fun I s => s 8000 20 = nI 1 ∧ s 8000 21 = nI I ∧ s 8000 22 = nI I ∧ s 8000 23 = nI (2 * I) ∧ s 8000 24 = nI (2 * I) ∧ (∀ q, (q < 8000 ∨ 9000 ≤ q) → s q = (g_Kinit σ 8000 R B) q) ∧ GA I s) (N := K) (fun i13 s13 hi13 hP13 => ⟨fun s' e' => by
    have hg9 := hG i13 s13 s' hi13 hP13.2.2.2.2.2.2 e'
    revert e'
    unfold st_anew
    (try dsimp only)
    (repeat' split) <;> intro e' <;> first | (cases e'; done) | (have e9 := Sum.inl.inj e'; subst e9; exact anew_step (by omega) (by simp (disch := omega) only [u2_ne, uR_ne, u2_nj]; exact hP13.1) (fun q hq => by simp (disch := omega) only [u2_ne, uR_ne]; exact hP13.2.2.2.2.2.1 q hq) hg9), fun s' e' => by
    revert e'
    unfold st_anew
    (try dsimp only)
    (repeat' split) <;> intro e' <;> first | (cases e'; done) | (have e9 := Sum.inr.inj e'; subst e9; exact hP13)⟩) K 0 (g_Kinit σ 8000 R B) (by omega) ⟨(Kinit_c (σ := σ) (R := R) (B := B)).1, (Kinit_c (σ := σ) (R := R) (B := B)).2.1, (Kinit_c (σ := σ) (R := R) (B := B)).2.2.1, (Kinit_c (σ := σ) (R := R) (B := B)).2.2.2.1, (Kinit_c (σ := σ) (R := R) (B := B)).2.2.2.2, fun _ _ => rfl, hG0⟩
  obtain ⟨m, hm, b1, b2, b3, b4, b5, b6, b7⟩ := t
  exact ⟨m, hm, b1, b2, b3, b4, b5, fun q hq => (b6 q hq).trans (fr_Kinit8 hq)⟩
theorem fr_MrunAnew {σ : XS9} {x u : Int32} {j r R B K : Nat} {m9 q : Nat} (hc : PA9 σ m9 (g_MrunAnew σ x j r u R B K)) (h : q < 8000 ∨ 9000 ≤ q) : g_MrunAnew σ x j r u R B K q = σ q := hc.2.2.2.2.2 q h
def x_Manew_76 (σ : XS9) (x y v u : Int32) (R B K : Nat) (s0 : Int32) : Int32 := xit (fun i76 s76 => s76 + ((g_MrunAnew (u2 σ 5000 0 0) (nI (rn x + 1)) (cn y) (cn v) u R B K) (8000 + 1) i76)) R 0 s0
def f_Manew (σ : XS9) (x y v u : Int32) (R B K : Nat) : Int32 := (if n_rd x K then (if n_lt y B then (if n_lt v R then (if n_bt u 0 5 then (x_Manew_76 σ x y v u R B K 0) else 0) else 0) else 0) else 0)
def g_Manew (σ : XS9) (x y v u : Int32) (R B K : Nat) : XS9 := (if n_rd x K then (if n_lt y B then (if n_lt v R then (if n_bt u 0 5 then u2 (g_MrunAnew (u2 σ 5000 0 0) (nI (rn x + 1)) (cn y) (cn v) u R B K) 8000 20 0 else u2 (u2 σ 5000 0 0) 5000 0 2) else u2 (u2 σ 5000 0 0) 5000 0 1) else u2 (u2 σ 5000 0 0) 5000 0 1) else u2 (u2 σ 5000 0 0) 5000 0 1)
theorem ct_X14_anew {l : Launch} {h : XH} (hl : l.stackTraces = false) {z : Int64} {σ : XS9} (hbs : xx_bs h) (hfr : ∀ r, 5000 ≤ r → r < 20010 → h r = none) (hme : mem_eq σ σ) {R : Nat} (hR : σ 5001 900 = nI R) (hR5 : R ≤ 5) {B : Nat} (hB : σ 5002 900 = nI B) (hB6 : B ≤ 6) {K : Nat} (hK : σ 5003 900 = nI K) (hK60 : K ≤ 60) {x y v u : Int32} {GA : Nat → XS9 → Prop} (ha9 : n_rd x K → n_lt y B → n_lt v R → n_bt u 0 5 → AH GA (u2 σ 5000 0 0) (nI (rn x + 1)) (cn y) (cn v) u R B K)  : XEx l m_X14_anew 11 490 8638 [.ref 5000, .int x, .int y, .int v, .int u] (setM z σ h) (some (.int (f_Manew σ x y v u R B K))) (setM z (g_Manew σ x y v u R B K) h) := by
  refine XMet.of hl rfl rfl (Nat.le_of_ble_eq_true rfl) (fun Y O hh hQ => ?_)
  refine sw_cls (fun hcl => ?_)
  show SW Y 490 8638 (setM z σ h) 0 [.ref 5000, .int x, .int y, .int v, .int u, xx_d, xx_d, xx_d, xx_d, xx_d] []
  refine sw_aload_n O (xx_dt dd_X14_anew 0 rfl) rfl ?_
  refine sw_iconst (x := 0) O (xx_dt dd_X14_anew 1 rfl) (by decide) ?_
  refine sw_put (h2 := setM z (u2 σ 5000 0 0) h) O (xx_dt dd_X14_anew 2 rfl) cl_X14 fl_X14_46 (lm_mod (σ := σ)) (by decide) (by omega) rfl (fun _ => ⟨rfl, rfl⟩) (pm_mod (σ := σ) (by omega)) ?_
  refine sw_aload_n O (xx_dt dd_X14_anew 3 rfl) rfl ?_
  refine sw_iload_n O (xx_dt dd_X14_anew 4 rfl) rfl ?_
  refine sw_callVx (as := [.int x]) (st := []) (st2 := [.int (bZ (n_rd x K))]) O (ct_X14_isRound hl (z := z) (σ := u2 σ 5000 0 0) hbs (K := K) hK (by omega) (x := x)) ce_X14_isRound ml_X14_314 iv_X14_isRound cl_X14 rfl (lm_mod (σ := u2 σ 5000 0 0)) (xx_dt dd_X14_anew 5 rfl) (by decide) rfl rfl (Nat.le_of_ble_eq_true rfl) rfl ?_
  refine sw_if_eqB (tgt := 29) O (xx_dt dd_X14_anew 6 rfl) (by decide) (fun q1 => ?_) (fun q1 => ?_)
  · refine sw_aload_n O (xx_dt dd_X14_anew 15 rfl) rfl ?_
    refine sw_iconst (x := 1) O (xx_dt dd_X14_anew 16 rfl) (by decide) ?_
    refine sw_callVx (as := [.int 1]) (st := []) (st2 := [.int 0]) O (ct_X14_refuse hl (z := z) (σ := u2 σ 5000 0 0) hbs (x := 1)) ce_X14_refuse ml_X14_74 iv_X14_refuse cl_X14 rfl (lm_mod (σ := u2 σ 5000 0 0)) (xx_dt dd_X14_anew 17 rfl) (by decide) rfl rfl (Nat.le_of_ble_eq_true rfl) rfl ?_
    exact sw_iret O (xx_dt dd_X14_anew 18 rfl) rfl rfl (by rw [hQ]; exact ⟨by unfold f_Manew; simp only [if_neg q1], by unfold g_Manew; simp only [if_neg q1]⟩)
  · have hc10 := q1
    refine sw_lsE (ls2 := [.ref 5000, .int (nI (rn x + 1)), .int y, .int v, .int u, xx_d, xx_d, xx_d, xx_d, xx_d]) (by rw [← hc10.1]) ?_
    have hd10 := hc10.2
    refine sw_aload_n O (xx_dt dd_X14_anew 7 rfl) rfl ?_
    refine sw_iload_n O (xx_dt dd_X14_anew 8 rfl) rfl ?_
    refine sw_callVx (as := [.int y]) (st := []) (st2 := [.int (bZ (n_lt y B))]) O (ct_X14_isBidder hl (z := z) (σ := u2 σ 5000 0 0) hbs (B := B) hB (by omega) (x := y)) ce_X14_isBidder ml_X14_156 iv_X14_isBidder cl_X14 rfl (lm_mod (σ := u2 σ 5000 0 0)) (xx_dt dd_X14_anew 9 rfl) (by decide) rfl rfl (Nat.le_of_ble_eq_true rfl) rfl ?_
    refine sw_if_eqB (tgt := 29) O (xx_dt dd_X14_anew 10 rfl) (by decide) (fun q2 => ?_) (fun q2 => ?_)
    · refine sw_aload_n O (xx_dt dd_X14_anew 15 rfl) rfl ?_
      refine sw_iconst (x := 1) O (xx_dt dd_X14_anew 16 rfl) (by decide) ?_
      refine sw_callVx (as := [.int 1]) (st := []) (st2 := [.int 0]) O (ct_X14_refuse hl (z := z) (σ := u2 σ 5000 0 0) hbs (x := 1)) ce_X14_refuse ml_X14_74 iv_X14_refuse cl_X14 rfl (lm_mod (σ := u2 σ 5000 0 0)) (xx_dt dd_X14_anew 17 rfl) (by decide) rfl rfl (Nat.le_of_ble_eq_true rfl) rfl ?_
      exact sw_iret O (xx_dt dd_X14_anew 18 rfl) rfl rfl (by rw [hQ]; exact ⟨by unfold f_Manew; simp only [if_pos q1, if_neg q2], by unfold g_Manew; simp only [if_pos q1, if_neg q2]⟩)
    · have hc18 := q2
      refine sw_lsE (ls2 := [.ref 5000, .int (nI (rn x + 1)), .int (nI (cn y)), .int v, .int u, xx_d, xx_d, xx_d, xx_d, xx_d]) (by rw [← hc18.1]) ?_
      have hd18 := hc18.2
      refine sw_aload_n O (xx_dt dd_X14_anew 11 rfl) rfl ?_
      refine sw_iload_n O (xx_dt dd_X14_anew 12 rfl) rfl ?_
      refine sw_callVx (as := [.int v]) (st := []) (st2 := [.int (bZ (n_lt v R))]) O (ct_X14_isRegion hl (z := z) (σ := u2 σ 5000 0 0) hbs (R := R) hR (by omega) (x := v)) ce_X14_isRegion ml_X14_91 iv_X14_isRegion cl_X14 rfl (lm_mod (σ := u2 σ 5000 0 0)) (xx_dt dd_X14_anew 13 rfl) (by decide) rfl rfl (Nat.le_of_ble_eq_true rfl) rfl ?_
      refine sw_if_neB (tgt := 35) O (xx_dt dd_X14_anew 14 rfl) (by decide) (fun q3 => ?_) (fun q3 => ?_)
      · have hc26 := q3
        refine sw_lsE (ls2 := [.ref 5000, .int (nI (rn x + 1)), .int (nI (cn y)), .int (nI (cn v)), .int u, xx_d, xx_d, xx_d, xx_d, xx_d]) (by rw [← hc26.1]) ?_
        have hd26 := hc26.2
        refine sw_iload O (xx_dt dd_X14_anew 19 rfl) rfl ?_
        refine sw_iconst (x := 0) O (xx_dt dd_X14_anew 20 rfl) (by decide) ?_
        refine sw_iconst (x := 5) O (xx_dt dd_X14_anew 21 rfl) (by decide) ?_
        refine sw_callSx (as := [.int u, .int 0, .int 5]) (st := []) (st2 := [.int (bZ (n_bt u 0 5))]) O (ct_X14_is hl) ce_X14_is ml_X14_70 st_X14_is (xx_dt dd_X14_anew 22 rfl) (by decide) rfl rfl (Nat.le_of_ble_eq_true rfl) rfl ?_
        refine sw_if_neB (tgt := 51) O (xx_dt dd_X14_anew 23 rfl) (by decide) (fun q4 => ?_) (fun q4 => ?_)
        · refine sw_iconst (x := 0) O (xx_dt dd_X14_anew 28 rfl) (by decide) ?_
          refine sw_istore (ls2 := [.ref 5000, .int (nI (rn x + 1)), .int (nI (cn y)), .int (nI (cn v)), .int u, .int 0, xx_d, xx_d, xx_d, xx_d]) O (xx_dt dd_X14_anew 29 rfl) (by decide) rfl ?_
          refine sw_aload_n O (xx_dt dd_X14_anew 30 rfl) rfl ?_
          refine sw_iload_n O (xx_dt dd_X14_anew 31 rfl) rfl ?_
          refine sw_iload_n O (xx_dt dd_X14_anew 32 rfl) rfl ?_
          refine sw_iload_n O (xx_dt dd_X14_anew 33 rfl) rfl ?_
          refine sw_iload O (xx_dt dd_X14_anew 34 rfl) rfl ?_
          have ha := ha9 q1 q2 q3 q4
          obtain ⟨m9, hm9, hc9⟩ := anew_out hK60 ha
          refine sw_callVx (as := [.int (nI (rn x + 1)), .int (nI (cn y)), .int (nI (cn v)), .int u]) (st := []) (st2 := [.ref 8000]) O (ct_anewH hl (z := z) (σ := u2 σ 5000 0 0) hbs hfr  hR (by omega)  hB (by omega)  hK (by omega) hme.2.1.2.2 (j := cn y) (by omega) (r := cn v) (by omega) ha) ce_X14_runAnew ml_X14_390 iv_X14_runAnew cl_X14 rfl (lm_mod (σ := u2 σ 5000 0 0)) (xx_dt dd_X14_anew 35 rfl) (by decide) rfl rfl (Nat.le_of_ble_eq_true rfl) rfl ?_
          refine sw_get (v := .ref (8000 + 1)) O (xx_dt dd_X14_anew 36 rfl) cl_X11 fl_X14_176 (lm_clk (σ := g_MrunAnew (u2 σ 5000 0 0) (nI (rn x + 1)) (cn y) (cn v) u R B K) (b := 8000) (.inr rfl) (fl1 hc9.1) (g := 2 * m9) hc9.2.2.2.1 (by omega) (w := 2 * m9) hc9.2.2.2.2.1 (by omega)) (by decide) rfl ?_
          refine sw_astore (ls2 := [.ref 5000, .int (nI (rn x + 1)), .int (nI (cn y)), .int (nI (cn v)), .int u, .int 0, .ref (8000 + 1), xx_d, xx_d, xx_d]) O (xx_dt dd_X14_anew 37 rfl) (by decide) rfl ?_
          refine sw_aload O (xx_dt dd_X14_anew 38 rfl) rfl ?_
          refine sw_alen O (xx_dt dd_X14_anew 39 rfl) (by omega) (by omega) ((im_kpr (z := z) (σ := g_MrunAnew (u2 σ 5000 0 0) (nI (rn x + 1)) (cn y) (cn v) u R B K) (b := 8000) (.inr rfl) hc9.1 (R := R) ((congrFun (fr_MrunAnew hc9 (by omega)) 900).trans hR) (by omega)).get _) ?_
          refine sw_istore (ls2 := [.ref 5000, .int (nI (rn x + 1)), .int (nI (cn y)), .int (nI (cn v)), .int u, .int 0, .ref (8000 + 1), .int (nI R), xx_d, xx_d]) O (xx_dt dd_X14_anew 40 rfl) (by decide) rfl ?_
          refine sw_iconst (x := 0) O (xx_dt dd_X14_anew 41 rfl) (by decide) ?_
          refine sw_istore (ls2 := [.ref 5000, .int (nI (rn x + 1)), .int (nI (cn y)), .int (nI (cn v)), .int u, .int 0, .ref (8000 + 1), .int (nI R), .int 0, xx_d]) O (xx_dt dd_X14_anew 42 rfl) (by decide) rfl ?_
          refine sw_for (S := Int32) (fun i76 s76 => s76 + ((g_MrunAnew (u2 σ 5000 0 0) (nI (rn x + 1)) (cn y) (cn v) u R B K) (8000 + 1) i76)) (fun _ _ => True) (hp := fun _ => setM z (g_MrunAnew (u2 σ 5000 0 0) (nI (rn x + 1)) (cn y) (cn v) u R B K) h) (hd := 76) (lc := fun i76 s76 => [.ref 5000, .int (nI (rn x + 1)), .int (nI (cn y)), .int (nI (cn v)), .int u, .int s76, .ref (8000 + 1), .int (nI R), .int (nI i76), xx_d]) (N := R) (fun i76 s76 hi76 hP76 => ⟨trivial, fun kk76 => ?_⟩) R 0 0 (by omega) (trivial) (fun hP76 => ?_)
          · refine sw_iload O (xx_dt dd_X14_anew 43 rfl) rfl ?_
            refine sw_iload O (xx_dt dd_X14_anew 44 rfl) rfl ?_
            refine sw_icmp_ge (tgt := 103) O (xx_dt dd_X14_anew 45 rfl) (by decide) (fun q5 => ?_) (fun q5 => ?_)
            · exact absurd q5 (nI_ge (b := R) hi76 (by omega))
            · refine sw_aload O (xx_dt dd_X14_anew 46 rfl) rfl ?_
              refine sw_iload O (xx_dt dd_X14_anew 47 rfl) rfl ?_
              refine sw_iaload (v := .int ((g_MrunAnew (u2 σ 5000 0 0) (nI (rn x + 1)) (cn y) (cn v) u R B K) (8000 + 1) i76)) O (xx_dt dd_X14_anew 48 rfl) ((im_kpr (z := z) (σ := g_MrunAnew (u2 σ 5000 0 0) (nI (rn x + 1)) (cn y) (cn v) u R B K) (b := 8000) (.inr rfl) hc9.1 (R := R) ((congrFun (fr_MrunAnew hc9 (by omega)) 900).trans hR) (by omega)).get _) (pk_in i76 _ (by omega)) (by rw [nI_clamp (by omega)]; try exact rfl) ?_
              refine sw_istore (ls2 := [.ref 5000, .int (nI (rn x + 1)), .int (nI (cn y)), .int (nI (cn v)), .int u, .int s76, .ref (8000 + 1), .int (nI R), .int (nI i76), .int ((g_MrunAnew (u2 σ 5000 0 0) (nI (rn x + 1)) (cn y) (cn v) u R B K) (8000 + 1) i76)]) O (xx_dt dd_X14_anew 49 rfl) (by decide) rfl ?_
              refine sw_iload O (xx_dt dd_X14_anew 50 rfl) rfl ?_
              refine sw_iload O (xx_dt dd_X14_anew 51 rfl) rfl ?_
              refine sw_iadd O (xx_dt dd_X14_anew 52 rfl) ?_
              refine sw_istore (ls2 := [.ref 5000, .int (nI (rn x + 1)), .int (nI (cn y)), .int (nI (cn v)), .int u, .int (s76 + ((g_MrunAnew (u2 σ 5000 0 0) (nI (rn x + 1)) (cn y) (cn v) u R B K) (8000 + 1) i76)), .ref (8000 + 1), .int (nI R), .int (nI i76), .int ((g_MrunAnew (u2 σ 5000 0 0) (nI (rn x + 1)) (cn y) (cn v) u R B K) (8000 + 1) i76)]) O (xx_dt dd_X14_anew 53 rfl) (by decide) rfl ?_
              refine sw_iinc (y := nI (i76 + 1)) (ls2 := [.ref 5000, .int (nI (rn x + 1)), .int (nI (cn y)), .int (nI (cn v)), .int u, .int (s76 + ((g_MrunAnew (u2 σ 5000 0 0) (nI (rn x + 1)) (cn y) (cn v) u R B K) (8000 + 1) i76)), .ref (8000 + 1), .int (nI R), .int (nI (i76 + 1)), .int ((g_MrunAnew (u2 σ 5000 0 0) (nI (rn x + 1)) (cn y) (cn v) u R B K) (8000 + 1) i76)]) O (xx_dt dd_X14_anew 54 rfl) rfl (nI_1 _) (by decide) rfl ?_
              refine sw_goto (tgt := 76) O (xx_dt dd_X14_anew 55 rfl) (by decide) ?_
              refine sw_dum (ls2 := [.ref 5000, .int (nI (rn x + 1)), .int (nI (cn y)), .int (nI (cn v)), .int u, .int (s76 + ((g_MrunAnew (u2 σ 5000 0 0) (nI (rn x + 1)) (cn y) (cn v) u R B K) (8000 + 1) i76)), .ref (8000 + 1), .int (nI R), .int (nI (i76 + 1)), xx_d]) ⟨.inr rfl, .inr rfl, .inr rfl, .inr rfl, .inr rfl, .inr rfl, .inr rfl, .inr rfl, .inr rfl, .inl rfl, trivial⟩ ?_
              exact kk76
          · show SW Y _ _ (setM z (g_MrunAnew (u2 σ 5000 0 0) (nI (rn x + 1)) (cn y) (cn v) u R B K) h) 76 [.ref 5000, .int (nI (rn x + 1)), .int (nI (cn y)), .int (nI (cn v)), .int u, .int (x_Manew_76 σ x y v u R B K 0), .ref (8000 + 1), .int (nI R), .int (nI R), xx_d] []
            refine sw_iload O (xx_dt dd_X14_anew 43 rfl) rfl ?_
            refine sw_iload O (xx_dt dd_X14_anew 44 rfl) rfl ?_
            refine sw_icmp_ge (tgt := 103) O (xx_dt dd_X14_anew 45 rfl) (by decide) (fun q5 => ?_) (fun q5 => ?_)
            · refine sw_iload O (xx_dt dd_X14_anew 56 rfl) rfl ?_
              have me9 : mem_eq σ (u2 (g_MrunAnew (u2 σ 5000 0 0) (nI (rn x + 1)) (cn y) (cn v) u R B K) 8000 20 0) := (mem_eq.frame8 (τ0 := u2 σ 5000 0 0) (mem_eq.int (r := 5000) (i := 0) (x := 0) hme rfl) (fun q h9 => by rw [u2_ne (by omega)]; exact hc9.2.2.2.2.2 q h9) u2_v)
              exact sw_iretD (h' := setM z (u2 (g_MrunAnew (u2 σ 5000 0 0) (nI (rn x + 1)) (cn y) (cn v) u R B K) 8000 20 0) h) O (xx_dt dd_X14_anew 57 rfl) rfl rfl (drop8 hfr) (me9.cls hcl) (by rw [hh]; exact fun r hr => me9.dom hr) (by rw [hQ]; exact ⟨by unfold f_Manew; simp only [if_pos q1, if_pos q2, if_pos q3, if_pos q4], by unfold g_Manew; simp only [if_pos q1, if_pos q2, if_pos q3, if_pos q4]⟩)
            · exact absurd (Int32.le_refl _) q5
        · refine sw_aload_n O (xx_dt dd_X14_anew 24 rfl) rfl ?_
          refine sw_iconst (x := 2) O (xx_dt dd_X14_anew 25 rfl) (by decide) ?_
          refine sw_callVx (as := [.int 2]) (st := []) (st2 := [.int 0]) O (ct_X14_refuse hl (z := z) (σ := u2 σ 5000 0 0) hbs (x := 2)) ce_X14_refuse ml_X14_74 iv_X14_refuse cl_X14 rfl (lm_mod (σ := u2 σ 5000 0 0)) (xx_dt dd_X14_anew 26 rfl) (by decide) rfl rfl (Nat.le_of_ble_eq_true rfl) rfl ?_
          exact sw_iret O (xx_dt dd_X14_anew 27 rfl) rfl rfl (by rw [hQ]; exact ⟨by unfold f_Manew; simp only [if_pos q1, if_pos q2, if_pos q3, if_neg q4], by unfold g_Manew; simp only [if_pos q1, if_pos q2, if_pos q3, if_neg q4]⟩)
      · refine sw_aload_n O (xx_dt dd_X14_anew 15 rfl) rfl ?_
        refine sw_iconst (x := 1) O (xx_dt dd_X14_anew 16 rfl) (by decide) ?_
        refine sw_callVx (as := [.int 1]) (st := []) (st2 := [.int 0]) O (ct_X14_refuse hl (z := z) (σ := u2 σ 5000 0 0) hbs (x := 1)) ce_X14_refuse ml_X14_74 iv_X14_refuse cl_X14 rfl (lm_mod (σ := u2 σ 5000 0 0)) (xx_dt dd_X14_anew 17 rfl) (by decide) rfl rfl (Nat.le_of_ble_eq_true rfl) rfl ?_
        exact sw_iret O (xx_dt dd_X14_anew 18 rfl) rfl rfl (by rw [hQ]; exact ⟨by unfold f_Manew; simp only [if_pos q1, if_pos q2, if_neg q3], by unfold g_Manew; simp only [if_pos q1, if_pos q2, if_neg q3]⟩)
