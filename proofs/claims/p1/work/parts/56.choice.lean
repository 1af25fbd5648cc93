section
/-! ===== the reference's choice ===== -/
theorem div6 {a : Nat} (ha : a < 100000) : nI a / 6 = nI (a / 6) := by
  apply i_ext
  rw [Int32.toInt_div, toI_nI (by omega), toI_nI (by omega)]
  have : (6 : Int32).toInt = 6 := rfl
  rw [this, Int.tdiv_eq_ediv_of_nonneg (by omega), Int.bmod_def]
  omega
theorem pow6_step {a i : Nat} (hi : i < 5) (h : a < 6 ^ (5 - i)) : a / 6 < 6 ^ (5 - (i + 1)) := by
  have : ∀ k : Fin 5, a < 6 ^ (5 - k.1) → a / 6 < 6 ^ (5 - (k.1 + 1)) := by
    intro k hk
    match k with
    | ⟨0, _⟩ => show a / 6 < 1296; have : a < 7776 := hk; omega
    | ⟨1, _⟩ => show a / 6 < 216; have : a < 1296 := hk; omega
    | ⟨2, _⟩ => show a / 6 < 36; have : a < 216 := hk; omega
    | ⟨3, _⟩ => show a / 6 < 6; have : a < 36 := hk; omega
    | ⟨4, _⟩ => show a / 6 < 1; have : a < 6 := hk; omega
  exact this ⟨i, hi⟩ h
theorem pow6_le {a i : Nat} (h : a < 6 ^ (5 - i)) : a < 7776 := by
  have : 6 ^ (5 - i) ≤ 6 ^ 5 := Nat.pow_le_pow_right (by decide) (by omega)
  omega
theorem nI_le0 {a : Nat} (ha : a < 2147483648) : nI a ≤ 0 ↔ a = 0 := by
  rw [show (0 : Int32) = nI 0 from rfl, nI_leI ha (by omega)]
  omega
theorem grp_ix {g r : Nat} : nI g * 5 + nI r = nI (5 * g + r) := by
  unfold nI
  rw [show (5 : Int32) = Int32.ofNat 5 from rfl, ← Int32.ofNat_mul, ← Int32.ofNat_add, Nat.mul_comm]
theorem mod6x {a : Nat} (ha : a < 100000) : nI a - nI a / 6 * 6 = nI (a % 6) := by
  have h1 : (nI a / 6).toInt = ((a / 6 : Nat) : Int) := by rw [div6 ha, toI_nI (by omega)]
  apply i_ext
  rw [Int32.toInt_sub, Int32.toInt_mul, h1, toI_nI (by omega), toI_nI (by omega)]
  have : (6 : Int32).toInt = 6 := rfl
  rw [this, Int.bmod_def, Int.bmod_def]
  omega
def x_CcanTake_5 (σ : XS9) (j c gr : Nat) (s0 : Nat) : Nat ⊕ Int32 := xitR (fun i5 s5 => (if (nI s5) ≤ 0 then .inr 1 else (if (σ 9004 i5) < (nI (s5 % 6)) then .inr 0 else (if (nI gr) ≤ 0 then .inl (s5 / 6) else (if (nI (s5 % 6)) ≤ 0 then .inl (s5 / 6) else (if ((σ 9005 (5 * gr + i5)) + (nI (s5 % 6))) ≤ (σ 5000 2) then .inl (s5 / 6) else .inr 0)))))) 5 0 s0
def f_CcanTake (σ : XS9) (j c gr : Nat) : Int32 := (match (x_CcanTake_5 σ j c gr c) with | .inl s5 => 1 | .inr r5 => r5)
theorem ct_X10_canTake {l : Launch} {h : XH} (hl : l.stackTraces = false) {z : Int64} {σ : XS9} (hbs : xx_bs h) (hc : σ 9000 20 = nI 1) {B : Nat} (hB : σ 5002 900 = nI B) (hB6 : B ≤ 6) {j : Nat} (hj : j < B) {gr : Nat} (hgr : σ (5020 + j) 3 = nI gr) (hgr4 : gr < 4) {c : Nat} (hcd : c < 7776) : XEx l m_X10_canTake 1 0 0 [.ref 9000, .ref (5020 + j), .int (nI c)] (setM z σ h) (some (.int (f_CcanTake σ j c gr))) (setM z σ h) := by
  refine XMet.of hl rfl rfl (Nat.le_of_ble_eq_true rfl) (fun Y O hh hQ => ?_)
  show SW Y 0 0 (setM z σ h) 0 [.ref 9000, .ref (5020 + j), .int (nI c), xx_d, xx_d, xx_d] []
  refine sw_iload_n O (xx_dt dd_X10_canTake 0 rfl) rfl ?_
  refine sw_istore_n (ls2 := [.ref 9000, .ref (5020 + j), .int (nI c), .int (nI c), xx_d, xx_d]) O (xx_dt dd_X10_canTake 1 rfl) (by decide) rfl ?_
  refine sw_iconst (x := 0) O (xx_dt dd_X10_canTake 2 rfl) (by decide) ?_
  refine sw_istore (ls2 := [.ref 9000, .ref (5020 + j), .int (nI c), .int (nI c), .int 0, xx_d]) O (xx_dt dd_X10_canTake 3 rfl) (by decide) rfl ?_
  refine sw_forR (S := Nat) (R := Int32) (fun i5 s5 => (if (nI s5) ≤ 0 then .inr 1 else (if (σ 9004 i5) < (nI (s5 % 6)) then .inr 0 else (if (nI gr) ≤ 0 then .inl (s5 / 6) else (if (nI (s5 % 6)) ≤ 0 then .inl (s5 / 6) else (if ((σ 9005 (5 * gr + i5)) + (nI (s5 % 6))) ≤ (σ 5000 2) then .inl (s5 / 6) else .inr 0)))))) (fun i s => s < 6 ^ (5 - i)) (FR := fun r9 => f_CcanTake σ j c gr = r9) (hp := fun _ => setM z σ h) (hd := 5) (lc := fun i5 s5 => [.ref 9000, .ref (5020 + j), .int (nI c), .int (nI s5), .int (nI i5), xx_d]) (N := 5) (fun i5 s5 hi5 hP5 => ⟨(by intro s' e'; have hs := pow6_step hi5 hP5; revert e'; (try dsimp only); (repeat' split) <;> intro e' <;> first | (cases e'; done) | (have e9 := Sum.inl.inj e'; subst e9; exact hs)), fun kk5 kr5 => ?_⟩) 5 0 c (by omega) (hcd) (fun sN5 eN5 hP5 => ?_) (fun r5 eN5 => ?_)
  · refine sw_iload_n O (xx_dt dd_X10_canTake 4 rfl) rfl ?_
    have hp5 := pow6_le hP5
    refine sw_if_le (tgt := 79) O (xx_dt dd_X10_canTake 5 rfl) (by decide) (fun q2 => ?_) (fun q2 => ?_)
    · have hfq2 : s5 ≤ 0 := (nI_leI (a := s5) (b := 0) (by omega) (by omega)).mp q2
      refine sw_iconst (x := 1) O (xx_dt dd_X10_canTake 44 rfl) (by decide) ?_
      exact sw_iret O (xx_dt dd_X10_canTake 45 rfl) rfl rfl (by rw [hQ, kr5 1 (by simp only [if_pos q2])]; exact ⟨rfl, rfl⟩)
    · have hfq2 : ¬ s5 ≤ 0 := fun e => q2 ((nI_leI (a := s5) (b := 0) (by omega) (by omega)).mpr e)
      refine sw_iload_n O (xx_dt dd_X10_canTake 6 rfl) rfl ?_
      refine sw_bipush (x := 6) O (xx_dt dd_X10_canTake 7 rfl) (by decide) ?_
      refine sw_irem O (xx_dt dd_X10_canTake 8 rfl) (by first | decide | assumption) ?_
      have hx12 := Nat.mod_lt s5 (by decide : 6 > 0)
      rw [mod6x (by omega)]
      refine sw_istore (ls2 := [.ref 9000, .ref (5020 + j), .int (nI c), .int (nI s5), .int (nI i5), .int (nI (s5 % 6))]) O (xx_dt dd_X10_canTake 9 rfl) (by decide) rfl ?_
      refine sw_iload O (xx_dt dd_X10_canTake 10 rfl) rfl ?_
      refine sw_aload_n O (xx_dt dd_X10_canTake 11 rfl) rfl ?_
      refine sw_get (v := .ref 9004) O (xx_dt dd_X10_canTake 12 rfl) cl_X10 fl_X10_25 (lm_9000 (σ := σ) (fl1 hc)) (by decide) rfl ?_
      refine sw_iload O (xx_dt dd_X10_canTake 13 rfl) rfl ?_
      refine sw_iaload (v := .int (σ 9004 i5)) O (xx_dt dd_X10_canTake 14 rfl) ((im_9004 (z := z) (σ := σ) hc).get _) (pk_in i5 _ (by omega)) (by rw [nI_clamp (by omega)]; try exact rfl) ?_
      refine sw_icmp_gt (tgt := 66) O (xx_dt dd_X10_canTake 15 rfl) (by decide) (fun q3 => ?_) (fun q3 => ?_)
      · refine sw_iconst (x := 0) O (xx_dt dd_X10_canTake 36 rfl) (by decide) ?_
        exact sw_iret O (xx_dt dd_X10_canTake 37 rfl) rfl rfl (by rw [hQ, kr5 0 (by simp only [if_neg q2, if_pos q3])]; exact ⟨rfl, rfl⟩)
      · refine sw_aload_n O (xx_dt dd_X10_canTake 16 rfl) rfl ?_
        refine sw_get (v := .int (nI gr)) O (xx_dt dd_X10_canTake 17 rfl) cl_X9 fl_X10_100 (lm_bid (σ := σ) (B := B) hB (by omega) (j := j) (by omega)) (by decide) (congrArg Value.int hgr) ?_
        refine sw_if_le (tgt := 68) O (xx_dt dd_X10_canTake 18 rfl) (by decide) (fun q4 => ?_) (fun q4 => ?_)
        · refine sw_iload_n O (xx_dt dd_X10_canTake 38 rfl) rfl ?_
          refine sw_bipush (x := 6) O (xx_dt dd_X10_canTake 39 rfl) (by decide) ?_
          refine sw_idiv O (xx_dt dd_X10_canTake 40 rfl) (by first | decide | assumption) ?_
          have hx71 := trivial
          rw [div6 (by omega)]
          refine sw_istore_n (ls2 := [.ref 9000, .ref (5020 + j), .int (nI c), .int (nI (s5 / 6)), .int (nI i5), .int (nI (s5 % 6))]) O (xx_dt dd_X10_canTake 41 rfl) (by decide) rfl ?_
          refine sw_iinc (y := nI (i5 + 1)) (ls2 := [.ref 9000, .ref (5020 + j), .int (nI c), .int (nI (s5 / 6)), .int (nI (i5 + 1)), .int (nI (s5 % 6))]) O (xx_dt dd_X10_canTake 42 rfl) rfl (nI_1 _) (by decide) rfl ?_
          refine sw_goto (tgt := 5) O (xx_dt dd_X10_canTake 43 rfl) (by decide) ?_
          refine sw_dum (ls2 := [.ref 9000, .ref (5020 + j), .int (nI c), .int (nI (s5 / 6)), .int (nI (i5 + 1)), xx_d]) ⟨.inr rfl, .inr rfl, .inr rfl, .inr rfl, .inr rfl, .inl rfl, trivial⟩ ?_
          exact kk5 (s5 / 6) (by simp only [if_neg q2, if_neg q3, if_pos q4])
        · refine sw_iload O (xx_dt dd_X10_canTake 19 rfl) rfl ?_
          refine sw_if_le (tgt := 68) O (xx_dt dd_X10_canTake 20 rfl) (by decide) (fun q5 => ?_) (fun q5 => ?_)
          · refine sw_iload_n O (xx_dt dd_X10_canTake 38 rfl) rfl ?_
            refine sw_bipush (x := 6) O (xx_dt dd_X10_canTake 39 rfl) (by decide) ?_
            refine sw_idiv O (xx_dt dd_X10_canTake 40 rfl) (by first | decide | assumption) ?_
            have hx71 := trivial
            rw [div6 (by omega)]
            refine sw_istore_n (ls2 := [.ref 9000, .ref (5020 + j), .int (nI c), .int (nI (s5 / 6)), .int (nI i5), .int (nI (s5 % 6))]) O (xx_dt dd_X10_canTake 41 rfl) (by decide) rfl ?_
            refine sw_iinc (y := nI (i5 + 1)) (ls2 := [.ref 9000, .ref (5020 + j), .int (nI c), .int (nI (s5 / 6)), .int (nI (i5 + 1)), .int (nI (s5 % 6))]) O (xx_dt dd_X10_canTake 42 rfl) rfl (nI_1 _) (by decide) rfl ?_
            refine sw_goto (tgt := 5) O (xx_dt dd_X10_canTake 43 rfl) (by decide) ?_
            refine sw_dum (ls2 := [.ref 9000, .ref (5020 + j), .int (nI c), .int (nI (s5 / 6)), .int (nI (i5 + 1)), xx_d]) ⟨.inr rfl, .inr rfl, .inr rfl, .inr rfl, .inr rfl, .inl rfl, trivial⟩ ?_
            exact kk5 (s5 / 6) (by simp only [if_neg q2, if_neg q3, if_neg q4, if_pos q5])
          · refine sw_aload_n O (xx_dt dd_X10_canTake 21 rfl) rfl ?_
            refine sw_get (v := .ref 9005) O (xx_dt dd_X10_canTake 22 rfl) cl_X10 fl_X10_28 (lm_9000 (σ := σ) (fl1 hc)) (by decide) rfl ?_
            refine sw_aload_n O (xx_dt dd_X10_canTake 23 rfl) rfl ?_
            refine sw_get (v := .int (nI gr)) O (xx_dt dd_X10_canTake 24 rfl) cl_X9 fl_X10_100 (lm_bid (σ := σ) (B := B) hB (by omega) (j := j) (by omega)) (by decide) (congrArg Value.int hgr) ?_
            refine sw_iconst (x := 5) O (xx_dt dd_X10_canTake 25 rfl) (by decide) ?_
            refine sw_imul O (xx_dt dd_X10_canTake 26 rfl) ?_
            refine sw_iload O (xx_dt dd_X10_canTake 27 rfl) rfl ?_
            refine sw_iadd O (xx_dt dd_X10_canTake 28 rfl) ?_
            have hx51 := trivial
            rw [grp_ix]
            refine sw_iaload (v := .int (σ 9005 (5 * gr + i5))) O (xx_dt dd_X10_canTake 29 rfl) ((im_9005 (z := z) (σ := σ) hc).get _) (pk_in (5 * gr + i5) _ (by omega)) (by rw [nI_clamp (by omega)]; try exact rfl) ?_
            refine sw_iload O (xx_dt dd_X10_canTake 30 rfl) rfl ?_
            refine sw_iadd O (xx_dt dd_X10_canTake 31 rfl) ?_
            refine sw_aload_n O (xx_dt dd_X10_canTake 32 rfl) rfl ?_
            refine sw_get (v := .ref 5000) O (xx_dt dd_X10_canTake 33 rfl) cl_X10 fl_X10_3 (lm_9000 (σ := σ) (fl1 hc)) (by decide) rfl ?_
            refine sw_get (v := .int (σ 5000 2)) O (xx_dt dd_X10_canTake 34 rfl) cl_X14 fl_X10_103 (lm_mod (σ := σ)) (by decide) rfl ?_
            refine sw_icmp_le (tgt := 68) O (xx_dt dd_X10_canTake 35 rfl) (by decide) (fun q6 => ?_) (fun q6 => ?_)
            · refine sw_iload_n O (xx_dt dd_X10_canTake 38 rfl) rfl ?_
              refine sw_bipush (x := 6) O (xx_dt dd_X10_canTake 39 rfl) (by decide) ?_
              refine sw_idiv O (xx_dt dd_X10_canTake 40 rfl) (by first | decide | assumption) ?_
              have hx71 := trivial
              rw [div6 (by omega)]
              refine sw_istore_n (ls2 := [.ref 9000, .ref (5020 + j), .int (nI c), .int (nI (s5 / 6)), .int (nI i5), .int (nI (s5 % 6))]) O (xx_dt dd_X10_canTake 41 rfl) (by decide) rfl ?_
              refine sw_iinc (y := nI (i5 + 1)) (ls2 := [.ref 9000, .ref (5020 + j), .int (nI c), .int (nI (s5 / 6)), .int (nI (i5 + 1)), .int (nI (s5 % 6))]) O (xx_dt dd_X10_canTake 42 rfl) rfl (nI_1 _) (by decide) rfl ?_
              refine sw_goto (tgt := 5) O (xx_dt dd_X10_canTake 43 rfl) (by decide) ?_
              refine sw_dum (ls2 := [.ref 9000, .ref (5020 + j), .int (nI c), .int (nI (s5 / 6)), .int (nI (i5 + 1)), xx_d]) ⟨.inr rfl, .inr rfl, .inr rfl, .inr rfl, .inr rfl, .inl rfl, trivial⟩ ?_
              exact kk5 (s5 / 6) (by simp only [if_neg q2, if_neg q3, if_neg q4, if_neg q5, if_pos q6])
            · refine sw_iconst (x := 0) O (xx_dt dd_X10_canTake 36 rfl) (by decide) ?_
              exact sw_iret O (xx_dt dd_X10_canTake 37 rfl) rfl rfl (by rw [hQ, kr5 0 (by simp only [if_neg q2, if_neg q3, if_neg q4, if_neg q5, if_neg q6])]; exact ⟨rfl, rfl⟩)
  · show SW Y _ _ (setM z σ h) 5 [.ref 9000, .ref (5020 + j), .int (nI c), .int (nI sN5), .int (nI 5), xx_d] []
    refine sw_iload_n O (xx_dt dd_X10_canTake 4 rfl) rfl ?_
    refine sw_if_le (tgt := 79) O (xx_dt dd_X10_canTake 5 rfl) (by decide) (fun q1 => ?_) (fun q1 => ?_)
    · refine sw_iconst (x := 1) O (xx_dt dd_X10_canTake 44 rfl) (by decide) ?_
      exact sw_iret O (xx_dt dd_X10_canTake 45 rfl) rfl rfl (by rw [hQ]; exact ⟨by unfold f_CcanTake; simp only [x_CcanTake_5, eN5], rfl⟩)
    · exact absurd ((nI_le0 (by have h9 : sN5 < 6 ^ (5 - 5) := hP5; omega)).mpr (by have h9 : sN5 < 1 := hP5; omega)) q1
  · unfold f_CcanTake; simp only [x_CcanTake_5, eN5]
def x_Ctake_6 (σ : XS9) (j c : Nat) (x : Int32) (gr : Nat) (s0 : XS9 × Nat) : XS9 × Nat := xitB (fun i6 s6 => (if (nI (s6.2)) ≤ 0 then .inr (s6.1, s6.2) else .inl (u2 (u2 s6.1 9004 i6 ((s6.1 9004 i6) - (x * (nI (s6.2 % 6))))) 9005 (5 * gr + i6) ((s6.1 9005 (5 * gr + i6)) + (x * (nI (s6.2 % 6)))), s6.2 / 6))) 5 0 s0
def g_Ctake (σ : XS9) (j c : Nat) (x : Int32) (gr : Nat) : XS9 := (x_Ctake_6 σ j c x gr (σ, c)).1
theorem ct_X10_take {l : Launch} {h : XH} (hl : l.stackTraces = false) {z : Int64} {σ : XS9} (hbs : xx_bs h) (hc : σ 9000 20 = nI 1) {B : Nat} (hB : σ 5002 900 = nI B) (hB6 : B ≤ 6) {j : Nat} (hj : j < B) {gr : Nat} (hgr : σ (5020 + j) 3 = nI gr) (hgr4 : gr < 4) {c : Nat} {x : Int32} (hcd : c < 7776) : XEx l m_X10_take 1 0 0 [.ref 9000, .ref (5020 + j), .int (nI c), .int x] (setM z σ h) (none) (setM z (g_Ctake σ j c x gr) h) := by
  refine XMet.of hl rfl rfl (Nat.le_of_ble_eq_true rfl) (fun Y O hh hQ => ?_)
  show SW Y 0 0 (setM z σ h) 0 [.ref 9000, .ref (5020 + j), .int (nI c), .int x, xx_d, xx_d] []
  refine sw_iload_n O (xx_dt dd_X10_take 0 rfl) rfl ?_
  refine sw_istore (ls2 := [.ref 9000, .ref (5020 + j), .int (nI c), .int x, .int (nI c), xx_d]) O (xx_dt dd_X10_take 1 rfl) (by decide) rfl ?_
  refine sw_iconst (x := 0) O (xx_dt dd_X10_take 2 rfl) (by decide) ?_
  refine sw_istore (ls2 := [.ref 9000, .ref (5020 + j), .int (nI c), .int x, .int (nI c), .int 0]) O (xx_dt dd_X10_take 3 rfl) (by decide) rfl ?_
  refine sw_forB (S := XS9 × Nat) (fun i6 s6 => (if (nI (s6.2)) ≤ 0 then .inr (s6.1, s6.2) else .inl (u2 (u2 s6.1 9004 i6 ((s6.1 9004 i6) - (x * (nI (s6.2 % 6))))) 9005 (5 * gr + i6) ((s6.1 9005 (5 * gr + i6)) + (x * (nI (s6.2 % 6)))), s6.2 / 6))) (fun i (s : XS9 × Nat) => s.1 9000 20 = nI 1 ∧ s.1 5002 900 = nI B ∧ s.1 (5020 + j) 3 = nI gr ∧ s.2 < 6 ^ (5 - i)) (fun (s : XS9 × Nat) => s.1 9000 20 = nI 1 ∧ s.1 5002 900 = nI B ∧ s.1 (5020 + j) 3 = nI gr ∧ True) (hp := fun s6 => setM z s6.1 h) (hd := 6) (lc := fun i6 s6 => [.ref 9000, .ref (5020 + j), .int (nI c), .int x, .int (nI (s6.2)), .int (nI i6)]) (ex := 65) (lx := fun s6 => [.ref 9000, .ref (5020 + j), .int (nI c), .int x, .int (nI (s6.2)), xx_d]) (N := 5) (fun i6 s6 hi6 hP6 => ⟨⟨(by intro s' e'; have hs := pow6_step hi6 hP6.2.2.2; revert e'; (try dsimp only); split <;> intro e' <;> first | (cases e'; done) | (have e9 := Sum.inl.inj e'; subst e9; refine ⟨?_, ?_, ?_, hs⟩ <;> (simp (disch := omega) only [u2_ne]; first | exact hP6.1 | exact hP6.2.1 | exact hP6.2.2.1))), (by intro s' e'; revert e'; (try dsimp only); split <;> intro e' <;> first | (cases e'; done) | (have e9 := Sum.inr.inj e'; subst e9; exact ⟨hP6.1, hP6.2.1, hP6.2.2.1, trivial⟩))⟩, fun kk6 kb6 => ?_⟩) (fun s6 hP6 => ⟨⟨hP6.1, hP6.2.1, hP6.2.2.1, trivial⟩, fun kx6 => ?_⟩) 5 0 (σ, c) (by omega) (⟨hc, hB, hgr, hcd⟩) (fun hP6 => ?_)
  · refine sw_iload O (xx_dt dd_X10_take 4 rfl) rfl ?_
    have hp5 := pow6_le hP6.2.2.2
    refine sw_if_le (tgt := 65) O (xx_dt dd_X10_take 5 rfl) (by decide) (fun q2 => ?_) (fun q2 => ?_)
    · have hfq2 : s6.2 ≤ 0 := (nI_leI (a := s6.2) (b := 0) (by omega) (by omega)).mp q2
      refine sw_dum (ls2 := [.ref 9000, .ref (5020 + j), .int (nI c), .int x, .int (nI (s6.2)), xx_d]) ⟨.inr rfl, .inr rfl, .inr rfl, .inr rfl, .inr rfl, .inl rfl, trivial⟩ ?_
      exact kb6 (s6.1, s6.2) (by simp only [if_pos q2])
    · have hfq2 : ¬ s6.2 ≤ 0 := fun e => q2 ((nI_leI (a := s6.2) (b := 0) (by omega) (by omega)).mpr e)
      refine sw_aload_n O (xx_dt dd_X10_take 6 rfl) rfl ?_
      refine sw_get (v := .ref 9004) O (xx_dt dd_X10_take 7 rfl) cl_X10 fl_X10_25 (lm_9000 (σ := s6.1) (fl1 hP6.1)) (by decide) rfl ?_
      refine sw_iload O (xx_dt dd_X10_take 8 rfl) rfl ?_
      refine sw_dup2 O (xx_dt dd_X10_take 9 rfl) rfl rfl ?_
      refine sw_iaload (v := .int (s6.1 9004 i6)) O (xx_dt dd_X10_take 10 rfl) ((im_9004 (z := z) (σ := s6.1) hP6.1).get _) (pk_in i6 _ (by omega)) (by rw [nI_clamp (by omega)]; try exact rfl) ?_
      refine sw_iload_n O (xx_dt dd_X10_take 11 rfl) rfl ?_
      refine sw_iload O (xx_dt dd_X10_take 12 rfl) rfl ?_
      refine sw_bipush (x := 6) O (xx_dt dd_X10_take 13 rfl) (by decide) ?_
      refine sw_irem O (xx_dt dd_X10_take 14 rfl) (by first | decide | assumption) ?_
      have hx24 := Nat.mod_lt s6.2 (by decide : 6 > 0)
      rw [mod6x (by omega)]
      refine sw_imul O (xx_dt dd_X10_take 15 rfl) ?_
      refine sw_isub O (xx_dt dd_X10_take 16 rfl) ?_
      refine sw_iastore (h2 := setM z (u2 s6.1 9004 i6 ((s6.1 9004 i6) - (x * (nI (s6.2 % 6))))) h) O (xx_dt dd_X10_take 17 rfl) ((im_9004 (z := z) (σ := s6.1) hP6.1).get _) (pk_in i6 _ (by omega)) (by omega) (by rw [nI_clamp (by omega)]; exact ((im_9004 (z := z) (σ := s6.1) hP6.1).put (by omega))) ?_
      refine sw_aload_n O (xx_dt dd_X10_take 18 rfl) rfl ?_
      refine sw_get (v := .ref 9005) O (xx_dt dd_X10_take 19 rfl) cl_X10 fl_X10_28 (lm_9000 (σ := u2 s6.1 9004 i6 ((s6.1 9004 i6) - (x * (nI (s6.2 % 6))))) (fl1 hP6.1)) (by decide) rfl ?_
      refine sw_aload_n O (xx_dt dd_X10_take 20 rfl) rfl ?_
      refine sw_get (v := .int (nI gr)) O (xx_dt dd_X10_take 21 rfl) cl_X9 fl_X10_100 (lm_bid (σ := u2 s6.1 9004 i6 ((s6.1 9004 i6) - (x * (nI (s6.2 % 6))))) (B := B) hP6.2.1 (by omega) (j := j) (by omega)) (by decide) (congrArg Value.int ((congrFun (u2_ne (by omega)) 3).trans hP6.2.2.1)) ?_
      refine sw_iconst (x := 5) O (xx_dt dd_X10_take 22 rfl) (by decide) ?_
      refine sw_imul O (xx_dt dd_X10_take 23 rfl) ?_
      refine sw_iload O (xx_dt dd_X10_take 24 rfl) rfl ?_
      refine sw_iadd O (xx_dt dd_X10_take 25 rfl) ?_
      have hx40 := trivial
      rw [grp_ix]
      refine sw_dup2 O (xx_dt dd_X10_take 26 rfl) rfl rfl ?_
      refine sw_iaload (v := .int (s6.1 9005 (5 * gr + i6))) O (xx_dt dd_X10_take 27 rfl) ((im_9005 (z := z) (σ := u2 s6.1 9004 i6 ((s6.1 9004 i6) - (x * (nI (s6.2 % 6))))) hP6.1).get _) (pk_in (5 * gr + i6) _ (by omega)) (by rw [nI_clamp (by omega)]; try exact rfl) ?_
      refine sw_iload_n O (xx_dt dd_X10_take 28 rfl) rfl ?_
      refine sw_iload O (xx_dt dd_X10_take 29 rfl) rfl ?_
      refine sw_bipush (x := 6) O (xx_dt dd_X10_take 30 rfl) (by decide) ?_
      refine sw_irem O (xx_dt dd_X10_take 31 rfl) (by first | decide | assumption) ?_
      have hx48 := Nat.mod_lt s6.2 (by decide : 6 > 0)
      rw [mod6x (by omega)]
      refine sw_imul O (xx_dt dd_X10_take 32 rfl) ?_
      refine sw_iadd O (xx_dt dd_X10_take 33 rfl) ?_
      refine sw_iastore (h2 := setM z (u2 (u2 s6.1 9004 i6 ((s6.1 9004 i6) - (x * (nI (s6.2 % 6))))) 9005 (5 * gr + i6) ((s6.1 9005 (5 * gr + i6)) + (x * (nI (s6.2 % 6))))) h) O (xx_dt dd_X10_take 34 rfl) ((im_9005 (z := z) (σ := u2 s6.1 9004 i6 ((s6.1 9004 i6) - (x * (nI (s6.2 % 6))))) hP6.1).get _) (pk_in (5 * gr + i6) _ (by omega)) (by omega) (by rw [nI_clamp (by omega)]; exact ((im_9005 (z := z) (σ := u2 s6.1 9004 i6 ((s6.1 9004 i6) - (x * (nI (s6.2 % 6))))) hP6.1).put (by omega))) ?_
      refine sw_iload O (xx_dt dd_X10_take 35 rfl) rfl ?_
      refine sw_bipush (x := 6) O (xx_dt dd_X10_take 36 rfl) (by decide) ?_
      refine sw_idiv O (xx_dt dd_X10_take 37 rfl) (by first | decide | assumption) ?_
      have hx56 := trivial
      rw [div6 (by omega)]
      refine sw_istore (ls2 := [.ref 9000, .ref (5020 + j), .int (nI c), .int x, .int (nI (s6.2 / 6)), .int (nI i6)]) O (xx_dt dd_X10_take 38 rfl) (by decide) rfl ?_
      refine sw_iinc (y := nI (i6 + 1)) (ls2 := [.ref 9000, .ref (5020 + j), .int (nI c), .int x, .int (nI (s6.2 / 6)), .int (nI (i6 + 1))]) O (xx_dt dd_X10_take 39 rfl) rfl (nI_1 _) (by decide) rfl ?_
      refine sw_goto (tgt := 6) O (xx_dt dd_X10_take 40 rfl) (by decide) ?_
      exact kk6 (u2 (u2 s6.1 9004 i6 ((s6.1 9004 i6) - (x * (nI (s6.2 % 6))))) 9005 (5 * gr + i6) ((s6.1 9005 (5 * gr + i6)) + (x * (nI (s6.2 % 6)))), s6.2 / 6) (by simp only [if_neg q2])
  · show SW Y _ _ (setM z s6.1 h) 6 [.ref 9000, .ref (5020 + j), .int (nI c), .int x, .int (nI (s6.2)), .int (nI 5)] []
    have hZ6 := hP6
    have hP6 : s6.1 9000 20 = nI 1 ∧ s6.1 5002 900 = nI B ∧ s6.1 (5020 + j) 3 = nI gr ∧ True := ⟨hP6.1, hP6.2.1, hP6.2.2.1, trivial⟩
    refine sw_iload O (xx_dt dd_X10_take 4 rfl) rfl ?_
    refine sw_if_le (tgt := 65) O (xx_dt dd_X10_take 5 rfl) (by decide) (fun q1 => ?_) (fun q1 => ?_)
    · refine sw_dum (ls2 := [.ref 9000, .ref (5020 + j), .int (nI c), .int x, .int (nI (s6.2)), xx_d]) ⟨.inr rfl, .inr rfl, .inr rfl, .inr rfl, .inr rfl, .inl rfl, trivial⟩ ?_
      exact kx6
    · exact absurd ((nI_le0 (by have h9 : s6.2 < 1 := hZ6.2.2.2; omega)).mpr (by have h9 : s6.2 < 1 := hZ6.2.2.2; omega)) q1
  · show SW Y _ _ (setM z ((x_Ctake_6 σ j c x gr (σ, c)).1) h) 65 [.ref 9000, .ref (5020 + j), .int (nI c), .int x, .int (nI ((x_Ctake_6 σ j c x gr (σ, c)).2)), xx_d] []
    exact sw_ret O (xx_dt dd_X10_take 41 rfl) rfl (by rw [hQ]; exact ⟨rfl, by unfold g_Ctake; rfl⟩)
end
section
/-! ===== the reference's choice: amounts, objections, payments ===== -/
def f_Camount (σ : XS9) (i : Nat) : Int32 := (if (σ 9001 i) = (-1) then 0 else f_Bamount σ i (cn (σ 9001 i)))
theorem ct_X10_amount {l : Launch} {h : XH} (hl : l.stackTraces = false) {z : Int64} {σ : XS9} (hbs : xx_bs h) (hc : σ 9000 20 = nI 1) {B : Nat} (hB : σ 5002 900 = nI B) (hB6 : B ≤ 6) {pk : Nat → Nat} (hpk : ∀ j, j < B → σ (5030 + j) 900 = nI (2 * pk j) ∧ pk j ≤ 6) (hpi : ∀ j, j < B → σ 9001 j = -1 ∨ ∃ n, n < pk j ∧ σ 9001 j = nI n) {i : Nat} (hi : i < B) : XEx l m_X10_amount 4 0 0 [.ref 9000, .int (nI i)] (setM z σ h) (some (.int (f_Camount σ i))) (setM z σ h) := by
  refine XMet.of hl rfl rfl (Nat.le_of_ble_eq_true rfl) (fun Y O hh hQ => ?_)
  show SW Y 0 0 (setM z σ h) 0 [.ref 9000, .int (nI i)] []
  refine sw_aload_n O (xx_dt dd_X10_amount 0 rfl) rfl ?_
  refine sw_get (v := .ref 9001) O (xx_dt dd_X10_amount 1 rfl) cl_X10 fl_X10_15 (lm_9000 (σ := σ) (fl1 hc)) (by decide) rfl ?_
  refine sw_iload_n O (xx_dt dd_X10_amount 2 rfl) rfl ?_
  refine sw_iaload (v := .int (σ 9001 i)) O (xx_dt dd_X10_amount 3 rfl) ((im_9001 (z := z) (σ := σ) hc).get _) (pk_in i _ (by omega)) (by rw [nI_clamp (by omega)]; try exact rfl) ?_
  refine sw_iconst (x := (-1)) O (xx_dt dd_X10_amount 4 rfl) (by decide) ?_
  refine sw_icmp_ne (tgt := 14) O (xx_dt dd_X10_amount 5 rfl) (by decide) (fun q1 => ?_) (fun q1 => ?_)
  · refine sw_aload_n O (xx_dt dd_X10_amount 8 rfl) rfl ?_
    refine sw_get (v := .ref 5000) O (xx_dt dd_X10_amount 9 rfl) cl_X10 fl_X10_3 (lm_9000 (σ := σ) (fl1 hc)) (by decide) rfl ?_
    refine sw_get (v := .ref 5002) O (xx_dt dd_X10_amount 10 rfl) cl_X14 fl_X10_67 (lm_mod (σ := σ)) (by decide) rfl ?_
    refine sw_iload_n O (xx_dt dd_X10_amount 11 rfl) rfl ?_
    refine sw_callVL (ci := 6) (as := [.int (nI i)]) (st := []) (st2 := [.ref (5020 + i)]) O (ct_get hl hbs (lm_5002 (σ := σ) (B := B) hB (by omega)) (by omega) (i := i) (x := 5020 + i) (by omega) (by omega) rfl) ce_Jx4a65c_get_915e3 ml_X10_45 iv_Jx4a65c_get_915e3 cl_Jx4a65c rfl (lm_5002 (σ := σ) (B := B) hB (by omega)) (xx_dt dd_X10_amount 12 rfl) (by decide) rfl rfl (Nat.le_of_ble_eq_true rfl) rfl ?_
    refine sw_castO O (xx_dt dd_X10_amount 13 rfl) cl_X9 (lm_bid (σ := σ) (B := B) hB (by omega) (j := i) (by omega)) cw_X10_76 ?_
    refine sw_aload_n O (xx_dt dd_X10_amount 14 rfl) rfl ?_
    refine sw_get (v := .ref 9001) O (xx_dt dd_X10_amount 15 rfl) cl_X10 fl_X10_15 (lm_9000 (σ := σ) (fl1 hc)) (by decide) rfl ?_
    refine sw_iload_n O (xx_dt dd_X10_amount 16 rfl) rfl ?_
    have hz33 := (kept_nat (hpi i (by omega)) (by assumption) (by have h9 := (hpk i (by omega)).2; omega)).2
    refine sw_iaload (v := .int (nI (cn (σ 9001 i)))) O (xx_dt dd_X10_amount 17 rfl) ((im_9001 (z := z) (σ := σ) hc).get _) (pk_in i _ (by omega)) (by rw [nI_clamp (by omega)]; exact (congrArg Value.int (kept_nat (hpi i (by omega)) (by assumption) (by have h9 := (hpk i (by omega)).2; omega)).1)) ?_
    refine sw_callVx (as := [.int (nI (cn (σ 9001 i)))]) (st := []) (st2 := [.int (f_Bamount σ i (cn (σ 9001 i)))]) O (ct_X9_amount hl (z := z) (σ := σ) hbs (B := B) hB (by omega) (j := i) (by omega) (p := pk i) (hpk i (by omega)).1 (by have h9 := (hpk i (by omega)).2; omega) (k := cn (σ 9001 i)) (by first | omega | (have h9 := (hpk i (by omega)).2; omega))) ce_X9_amount ml_X10_97 iv_X9_amount cl_X9 rfl (lm_bid (σ := σ) (B := B) hB (by omega) (j := i) (by omega)) (xx_dt dd_X10_amount 18 rfl) (by decide) rfl rfl (Nat.le_of_ble_eq_true rfl) rfl ?_
    exact sw_iret O (xx_dt dd_X10_amount 19 rfl) rfl rfl (by rw [hQ]; exact ⟨by unfold f_Camount; simp only [if_neg q1], rfl⟩)
  · refine sw_iconst (x := 0) O (xx_dt dd_X10_amount 6 rfl) (by decide) ?_
    refine sw_goto (tgt := 37) O (xx_dt dd_X10_amount 7 rfl) (by decide) ?_
    exact sw_iret O (xx_dt dd_X10_amount 19 rfl) rfl rfl (by rw [hQ]; exact ⟨by unfold f_Camount; simp only [if_pos q1], rfl⟩)
def x_Cwinners_4 (σ : XS9)  (s0 : Int32) : Int32 := xit (fun i4 s4 => (if (σ 9001 i4) = (-1) then s4 ||| 0 else s4 ||| (1 <<< ((nI i4) &&& 31)))) 6 0 s0
def f_Cwinners (σ : XS9)  : Int32 := (x_Cwinners_4 σ 0)
theorem ct_X10_winners {l : Launch} {h : XH} (hl : l.stackTraces = false) {z : Int64} {σ : XS9} (hbs : xx_bs h) (hc : σ 9000 20 = nI 1)  : XEx l m_X10_winners 0 0 0 [.ref 9000] (setM z σ h) (some (.int (f_Cwinners σ))) (setM z σ h) := by
  refine XMet.of hl rfl rfl (Nat.le_of_ble_eq_true rfl) (fun Y O hh hQ => ?_)
  show SW Y 0 0 (setM z σ h) 0 [.ref 9000, xx_d, xx_d] []
  refine sw_iconst (x := 0) O (xx_dt dd_X10_winners 0 rfl) (by decide) ?_
  refine sw_istore_n (ls2 := [.ref 9000, .int 0, xx_d]) O (xx_dt dd_X10_winners 1 rfl) (by decide) rfl ?_
  refine sw_iconst (x := 0) O (xx_dt dd_X10_winners 2 rfl) (by decide) ?_
  refine sw_istore_n (ls2 := [.ref 9000, .int 0, .int 0]) O (xx_dt dd_X10_winners 3 rfl) (by decide) rfl ?_
  refine sw_for (S := Int32) (fun i4 s4 => (if (σ 9001 i4) = (-1) then s4 ||| 0 else s4 ||| (1 <<< ((nI i4) &&& 31)))) (fun _ _ => True) (hp := fun _ => setM z σ h) (hd := 4) (lc := fun i4 s4 => [.ref 9000, .int s4, .int (nI i4)]) (N := 6) (fun i4 s4 hi4 hP4 => ⟨trivial, fun kk4 => ?_⟩) 6 0 0 (by omega) (trivial) (fun hP4 => ?_)
  · refine sw_iload_n O (xx_dt dd_X10_winners 4 rfl) rfl ?_
    refine sw_bipush (x := 6) O (xx_dt dd_X10_winners 5 rfl) (by decide) ?_
    refine sw_icmp_ge (tgt := 36) O (xx_dt dd_X10_winners 6 rfl) (by decide) (fun q1 => ?_) (fun q1 => ?_)
    · exact absurd q1 (nI_ge (b := 6) hi4 (by omega))
    · refine sw_iload_n O (xx_dt dd_X10_winners 7 rfl) rfl ?_
      refine sw_aload_n O (xx_dt dd_X10_winners 8 rfl) rfl ?_
      refine sw_get (v := .ref 9001) O (xx_dt dd_X10_winners 9 rfl) cl_X10 fl_X10_15 (lm_9000 (σ := σ) (fl1 hc)) (by decide) rfl ?_
      refine sw_iload_n O (xx_dt dd_X10_winners 10 rfl) rfl ?_
      refine sw_iaload (v := .int (σ 9001 i4)) O (xx_dt dd_X10_winners 11 rfl) ((im_9001 (z := z) (σ := σ) hc).get _) (pk_in i4 _ (by omega)) (by rw [nI_clamp (by omega)]; try exact rfl) ?_
      refine sw_iconst (x := (-1)) O (xx_dt dd_X10_winners 12 rfl) (by decide) ?_
      refine sw_icmp_ne (tgt := 25) O (xx_dt dd_X10_winners 13 rfl) (by decide) (fun q2 => ?_) (fun q2 => ?_)
      · refine sw_iconst (x := 1) O (xx_dt dd_X10_winners 16 rfl) (by decide) ?_
        refine sw_iload_n O (xx_dt dd_X10_winners 17 rfl) rfl ?_
        refine sw_ishl O (xx_dt dd_X10_winners 18 rfl) ?_
        refine sw_ior O (xx_dt dd_X10_winners 19 rfl) ?_
        refine sw_istore_n (ls2 := [.ref 9000, .int (s4 ||| (1 <<< ((nI i4) &&& 31))), .int (nI i4)]) O (xx_dt dd_X10_winners 20 rfl) (by decide) rfl ?_
        refine sw_iinc (y := nI (i4 + 1)) (ls2 := [.ref 9000, .int (s4 ||| (1 <<< ((nI i4) &&& 31))), .int (nI (i4 + 1))]) O (xx_dt dd_X10_winners 21 rfl) rfl (nI_1 _) (by decide) rfl ?_
        refine sw_goto (tgt := 4) O (xx_dt dd_X10_winners 22 rfl) (by decide) ?_
        simp only [if_neg q2] at kk4
        exact kk4
      · refine sw_iconst (x := 0) O (xx_dt dd_X10_winners 14 rfl) (by decide) ?_
        refine sw_goto (tgt := 28) O (xx_dt dd_X10_winners 15 rfl) (by decide) ?_
        refine sw_ior O (xx_dt dd_X10_winners 19 rfl) ?_
        refine sw_istore_n (ls2 := [.ref 9000, .int (s4 ||| 0), .int (nI i4)]) O (xx_dt dd_X10_winners 20 rfl) (by decide) rfl ?_
        refine sw_iinc (y := nI (i4 + 1)) (ls2 := [.ref 9000, .int (s4 ||| 0), .int (nI (i4 + 1))]) O (xx_dt dd_X10_winners 21 rfl) rfl (nI_1 _) (by decide) rfl ?_
        refine sw_goto (tgt := 4) O (xx_dt dd_X10_winners 22 rfl) (by decide) ?_
        simp only [if_pos q2] at kk4
        exact kk4
  · show SW Y _ _ (setM z σ h) 4 [.ref 9000, .int (x_Cwinners_4 σ 0), .int (nI 6)] []
    refine sw_iload_n O (xx_dt dd_X10_winners 4 rfl) rfl ?_
    refine sw_bipush (x := 6) O (xx_dt dd_X10_winners 5 rfl) (by decide) ?_
    refine sw_icmp_ge (tgt := 36) O (xx_dt dd_X10_winners 6 rfl) (by decide) (fun q1 => ?_) (fun q1 => ?_)
    · refine sw_iload_n O (xx_dt dd_X10_winners 23 rfl) rfl ?_
      exact sw_iret O (xx_dt dd_X10_winners 24 rfl) rfl rfl (by rw [hQ]; exact ⟨by unfold f_Cwinners; rfl, rfl⟩)
    · exact absurd (Int32.le_refl _) q1
def f_Cworth (σ : XS9) (S : Nat) : Int32 := σ 9003 S
theorem ct_X10_worth {l : Launch} {h : XH} (hl : l.stackTraces = false) {z : Int64} {σ : XS9} (hbs : xx_bs h) (hc : σ 9000 20 = nI 1) {S : Nat} (hS : S < 64) : XEx l m_X10_worth 0 0 0 [.ref 9000, .int (nI S)] (setM z σ h) (some (.int (f_Cworth σ S))) (setM z σ h) := by
  refine XMet.of hl rfl rfl (Nat.le_of_ble_eq_true rfl) (fun Y O hh hQ => ?_)
  show SW Y 0 0 (setM z σ h) 0 [.ref 9000, .int (nI S)] []
  refine sw_aload_n O (xx_dt dd_X10_worth 0 rfl) rfl ?_
  refine sw_get (v := .ref 9003) O (xx_dt dd_X10_worth 1 rfl) cl_X10 fl_X10_22 (lm_9000 (σ := σ) (fl1 hc)) (by decide) rfl ?_
  refine sw_iload_n O (xx_dt dd_X10_worth 2 rfl) rfl ?_
  refine sw_iaload (v := .int (σ 9003 S)) O (xx_dt dd_X10_worth 3 rfl) ((im_9003 (z := z) (σ := σ) hc).get _) (pk_in S _ (by omega)) (by rw [nI_clamp (by omega)]; try exact rfl) ?_
  exact sw_iret O (xx_dt dd_X10_worth 4 rfl) rfl rfl (by rw [hQ]; exact ⟨by unfold f_Cworth; rfl, rfl⟩)
theorem pow_le6 {B : Nat} (hB : B ≤ 6) : 2 ^ B ≤ 64 ∧ 0 < 2 ^ B := by
  have : ∀ a : Fin 7, 2 ^ a.1 ≤ 64 ∧ 0 < 2 ^ a.1 := by decide
  exact this ⟨B, by omega⟩
def bclr (S k : Nat) : Nat := S &&& (63 - 2 ^ k)
theorem bclr_lt {S k : Nat} (hS : S < 64) : bclr S k < 64 := Nat.lt_of_le_of_lt Nat.and_le_left hS
theorem bclr_eq {S k : Nat} (hS : S < 64) (hk : k < 6) : nI S &&& (((1 : Int32) <<< (nI k &&& 31)) ^^^ (-1)) = nI (bclr S k) := by
  have : ∀ (a : Fin 64) (b : Fin 6), nI a.1 &&& (((1 : Int32) <<< (nI b.1 &&& 31)) ^^^ (-1)) = nI (bclr a.1 b.1) := by decide +kernel
  exact this ⟨S, hS⟩ ⟨k, hk⟩
theorem nI_prd {a : Nat} (ha : 0 < a) : nI a + (-1) = nI (a - 1) := by
  obtain ⟨b, rfl⟩ : ∃ b, a = b + 1 := ⟨a - 1, by omega⟩
  exact pk_m1 b
def f_Call (σ : XS9) (B : Nat) : Int32 := nI (2 ^ B - 1)
theorem ct_Call0 {l : Launch} {h : XH} (hl : l.stackTraces = false) {z : Int64} {σ : XS9} (hbs : xx_bs h) (hc : σ 9000 20 = nI 1) {B : Nat} (hB : σ 5002 900 = nI B) (hB6 : B ≤ 6)  : XEx l m_X10_all 1 0 0 [.ref 9000] (setM z σ h) (some (.int (f_Call σ B))) (setM z σ h) := by
  refine XMet.of hl rfl rfl (Nat.le_of_ble_eq_true rfl) (fun Y O hh hQ => ?_)
  show SW Y 0 0 (setM z σ h) 0 [.ref 9000] []
  refine sw_iconst (x := 1) O (xx_dt dd_X10_all 0 rfl) (by decide) ?_
  refine sw_aload_n O (xx_dt dd_X10_all 1 rfl) rfl ?_
  refine sw_get (v := .ref 5000) O (xx_dt dd_X10_all 2 rfl) cl_X10 fl_X10_3 (lm_9000 (σ := σ) (fl1 hc)) (by decide) rfl ?_
  refine sw_get (v := .ref 5002) O (xx_dt dd_X10_all 3 rfl) cl_X14 fl_X10_67 (lm_mod (σ := σ)) (by decide) rfl ?_
  refine sw_callVL (ci := 6) (as := []) (st := [.int 1]) (st2 := [.int (nI B), .int 1]) O (ct_AL_size hl (lm_5002 (σ := σ) (B := B) hB (by omega))) ce_Jx4a65c_size_8abf5 ml_X10_39 iv_Jx4a65c_size_8abf5 cl_Jx4a65c rfl (lm_5002 (σ := σ) (B := B) hB (by omega)) (xx_dt dd_X10_all 4 rfl) (by decide) rfl rfl (Nat.le_of_ble_eq_true rfl) rfl ?_
  refine sw_ishl O (xx_dt dd_X10_all 5 rfl) ?_
  refine sw_iconst (x := 1) O (xx_dt dd_X10_all 6 rfl) (by decide) ?_
  refine sw_isub O (xx_dt dd_X10_all 7 rfl) ?_
  have hx13 := pow_le6 hB6
  rw [all_nat (C := B) (by omega)]
  exact sw_iret O (xx_dt dd_X10_all 8 rfl) rfl rfl (by rw [hQ]; exact ⟨by unfold f_Call; rfl, rfl⟩)
theorem ct_X10_all {l : Launch} {h : XH} (hl : l.stackTraces = false) {z : Int64} {σ : XS9} (hbs : xx_bs h) (hc : σ 9000 20 = nI 1) {B : Nat} (hB : σ 5002 900 = nI B) (hB6 : B ≤ 6)  : XEx l m_X10_all 1 0 0 [.ref 9000] (setM z σ h) (some (.int (nI (2 ^ B - 1)))) (setM z σ h) := ct_Call0 hl hbs hc hB hB6
def x_Cobjection_9 (σ : XS9) (S qa B : Nat) (s0 : Int32) : Int32 := xit (fun i9 s9 => (if (((nI S) >>> ((nI i9) &&& 31)) &&& 1) = 1 then s9 - (f_Camount σ i9) else (if (σ 9001 i9) = (-1) then s9 - 0 else s9 - (σ qa i9)))) B 0 s0
def f_Cobjection (σ : XS9) (S qa B : Nat) : Int32 := (x_Cobjection_9 σ S qa B (f_Cworth σ S))
theorem ct_X10_objection {l : Launch} {h : XH} (hl : l.stackTraces = false) {z : Int64} {σ : XS9} (hbs : xx_bs h) (hc : σ 9000 20 = nI 1) {B : Nat} (hB : σ 5002 900 = nI B) (hB6 : B ≤ 6) {pk : Nat → Nat} (hpk : ∀ j, j < B → σ (5030 + j) 900 = nI (2 * pk j) ∧ pk j ≤ 6) (hpi : ∀ j, j < B → σ 9001 j = -1 ∨ ∃ n, n < pk j ∧ σ 9001 j = nI n) {qa : Nat} (hqa : 20000 ≤ qa ∧ qa < 20010) (hqf : σ qa 20 = nI 1) (hqn : σ qa 21 = nI 6) {S : Nat} (hS : S < 64) : XEx l m_X10_objection 5 0 0 [.ref 9000, .int (nI S), .ref qa] (setM z σ h) (some (.int (f_Cobjection σ S qa B))) (setM z σ h) := by
  refine XMet.of hl rfl rfl (Nat.le_of_ble_eq_true rfl) (fun Y O hh hQ => ?_)
  show SW Y 0 0 (setM z σ h) 0 [.ref 9000, .int (nI S), .ref qa, xx_d, xx_d] []
  refine sw_aload_n O (xx_dt dd_X10_objection 0 rfl) rfl ?_
  refine sw_iload_n O (xx_dt dd_X10_objection 1 rfl) rfl ?_
  refine sw_callVx (as := [.int (nI S)]) (st := []) (st2 := [.int (f_Cworth σ S)]) O (ct_X10_worth hl (z := z) (σ := σ) hbs hc (S := S) (by first | omega | assumption)) ce_X10_worth ml_X10_106 iv_X10_worth cl_X10 rfl (lm_9000 (σ := σ) (fl1 hc)) (xx_dt dd_X10_objection 2 rfl) (by decide) rfl rfl (Nat.le_of_ble_eq_true rfl) rfl ?_
  refine sw_istore_n (ls2 := [.ref 9000, .int (nI S), .ref qa, .int (f_Cworth σ S), xx_d]) O (xx_dt dd_X10_objection 3 rfl) (by decide) rfl ?_
  refine sw_iconst (x := 0) O (xx_dt dd_X10_objection 4 rfl) (by decide) ?_
  refine sw_istore (ls2 := [.ref 9000, .int (nI S), .ref qa, .int (f_Cworth σ S), .int 0]) O (xx_dt dd_X10_objection 5 rfl) (by decide) rfl ?_
  refine sw_for (S := Int32) (fun i9 s9 => (if (((nI S) >>> ((nI i9) &&& 31)) &&& 1) = 1 then s9 - (f_Camount σ i9) else (if (σ 9001 i9) = (-1) then s9 - 0 else s9 - (σ qa i9)))) (fun _ _ => True) (hp := fun _ => setM z σ h) (hd := 9) (lc := fun i9 s9 => [.ref 9000, .int (nI S), .ref qa, .int s9, .int (nI i9)]) (N := B) (fun i9 s9 hi9 hP9 => ⟨trivial, fun kk9 => ?_⟩) B 0 (f_Cworth σ S) (by omega) (trivial) (fun hP9 => ?_)
  · refine sw_iload O (xx_dt dd_X10_objection 6 rfl) rfl ?_
    refine sw_aload_n O (xx_dt dd_X10_objection 7 rfl) rfl ?_
    refine sw_get (v := .ref 5000) O (xx_dt dd_X10_objection 8 rfl) cl_X10 fl_X10_3 (lm_9000 (σ := σ) (fl1 hc)) (by decide) rfl ?_
    refine sw_get (v := .ref 5002) O (xx_dt dd_X10_objection 9 rfl) cl_X14 fl_X10_67 (lm_mod (σ := σ)) (by decide) rfl ?_
    refine sw_callVL (ci := 6) (as := []) (st := [.int (nI i9)]) (st2 := [.int (nI B), .int (nI i9)]) O (ct_AL_size hl (lm_5002 (σ := σ) (B := B) hB (by omega))) ce_Jx4a65c_size_8abf5 ml_X10_39 iv_Jx4a65c_size_8abf5 cl_Jx4a65c rfl (lm_5002 (σ := σ) (B := B) hB (by omega)) (xx_dt dd_X10_objection 10 rfl) (by decide) rfl rfl (Nat.le_of_ble_eq_true rfl) rfl ?_
    refine sw_icmp_ge (tgt := 71) O (xx_dt dd_X10_objection 11 rfl) (by decide) (fun q1 => ?_) (fun q1 => ?_)
    · exact absurd q1 (nI_ge (b := B) hi9 (by omega))
    · refine sw_iload_n O (xx_dt dd_X10_objection 12 rfl) rfl ?_
      refine sw_iload_n O (xx_dt dd_X10_objection 13 rfl) rfl ?_
      refine sw_iload O (xx_dt dd_X10_objection 14 rfl) rfl ?_
      refine sw_ishr O (xx_dt dd_X10_objection 15 rfl) ?_
      refine sw_iconst (x := 1) O (xx_dt dd_X10_objection 16 rfl) (by decide) ?_
      refine sw_iand O (xx_dt dd_X10_objection 17 rfl) ?_
      refine sw_iconst (x := 1) O (xx_dt dd_X10_objection 18 rfl) (by decide) ?_
      refine sw_icmp_ne (tgt := 44) O (xx_dt dd_X10_objection 19 rfl) (by decide) (fun q2 => ?_) (fun q2 => ?_)
      · refine sw_aload_n O (xx_dt dd_X10_objection 24 rfl) rfl ?_
        refine sw_get (v := .ref 9001) O (xx_dt dd_X10_objection 25 rfl) cl_X10 fl_X10_15 (lm_9000 (σ := σ) (fl1 hc)) (by decide) rfl ?_
        refine sw_iload O (xx_dt dd_X10_objection 26 rfl) rfl ?_
        refine sw_iaload (v := .int (σ 9001 i9)) O (xx_dt dd_X10_objection 27 rfl) ((im_9001 (z := z) (σ := σ) hc).get _) (pk_in i9 _ (by omega)) (by rw [nI_clamp (by omega)]; try exact rfl) ?_
        refine sw_iconst (x := (-1)) O (xx_dt dd_X10_objection 28 rfl) (by decide) ?_
        refine sw_icmp_ne (tgt := 59) O (xx_dt dd_X10_objection 29 rfl) (by decide) (fun q3 => ?_) (fun q3 => ?_)
        · refine sw_aload_n O (xx_dt dd_X10_objection 32 rfl) rfl ?_
          refine sw_iload O (xx_dt dd_X10_objection 33 rfl) rfl ?_
          refine sw_iaload (v := .int (σ qa i9)) O (xx_dt dd_X10_objection 34 rfl) ((lm_tmp (z := z) (σ := σ) (h := h) (q := qa) (by omega) (fl1 hqf) hqn (by omega)).get _) (pk_in i9 _ (by omega)) (by rw [nI_clamp (by omega)]; try exact rfl) ?_
          refine sw_isub O (xx_dt dd_X10_objection 35 rfl) ?_
          refine sw_istore_n (ls2 := [.ref 9000, .int (nI S), .ref qa, .int (s9 - (σ qa i9)), .int (nI i9)]) O (xx_dt dd_X10_objection 36 rfl) (by decide) rfl ?_
          refine sw_iinc (y := nI (i9 + 1)) (ls2 := [.ref 9000, .int (nI S), .ref qa, .int (s9 - (σ qa i9)), .int (nI (i9 + 1))]) O (xx_dt dd_X10_objection 37 rfl) rfl (nI_1 _) (by decide) rfl ?_
          refine sw_goto (tgt := 9) O (xx_dt dd_X10_objection 38 rfl) (by decide) ?_
          simp only [if_neg q2, if_neg q3] at kk9
          exact kk9
        · refine sw_iconst (x := 0) O (xx_dt dd_X10_objection 30 rfl) (by decide) ?_
          refine sw_goto (tgt := 63) O (xx_dt dd_X10_objection 31 rfl) (by decide) ?_
          refine sw_isub O (xx_dt dd_X10_objection 35 rfl) ?_
          refine sw_istore_n (ls2 := [.ref 9000, .int (nI S), .ref qa, .int (s9 - 0), .int (nI i9)]) O (xx_dt dd_X10_objection 36 rfl) (by decide) rfl ?_
          refine sw_iinc (y := nI (i9 + 1)) (ls2 := [.ref 9000, .int (nI S), .ref qa, .int (s9 - 0), .int (nI (i9 + 1))]) O (xx_dt dd_X10_objection 37 rfl) rfl (nI_1 _) (by decide) rfl ?_
          refine sw_goto (tgt := 9) O (xx_dt dd_X10_objection 38 rfl) (by decide) ?_
          simp only [if_neg q2, if_pos q3] at kk9
          exact kk9
      · refine sw_aload_n O (xx_dt dd_X10_objection 20 rfl) rfl ?_
        refine sw_iload O (xx_dt dd_X10_objection 21 rfl) rfl ?_
        refine sw_callVx (as := [.int (nI i9)]) (st := [.int s9]) (st2 := [.int (f_Camount σ i9), .int s9]) O (ct_X10_amount hl (z := z) (σ := σ) hbs hc (B := B) hB (by omega) (pk := pk) hpk hpi (i := i9) (by omega)) ce_X10_amount ml_X10_109 iv_X10_amount cl_X10 rfl (lm_9000 (σ := σ) (fl1 hc)) (xx_dt dd_X10_objection 22 rfl) (by decide) rfl rfl (Nat.le_of_ble_eq_true rfl) rfl ?_
        refine sw_goto (tgt := 63) O (xx_dt dd_X10_objection 23 rfl) (by decide) ?_
        refine sw_isub O (xx_dt dd_X10_objection 35 rfl) ?_
        refine sw_istore_n (ls2 := [.ref 9000, .int (nI S), .ref qa, .int (s9 - (f_Camount σ i9)), .int (nI i9)]) O (xx_dt dd_X10_objection 36 rfl) (by decide) rfl ?_
        refine sw_iinc (y := nI (i9 + 1)) (ls2 := [.ref 9000, .int (nI S), .ref qa, .int (s9 - (f_Camount σ i9)), .int (nI (i9 + 1))]) O (xx_dt dd_X10_objection 37 rfl) rfl (nI_1 _) (by decide) rfl ?_
        refine sw_goto (tgt := 9) O (xx_dt dd_X10_objection 38 rfl) (by decide) ?_
        simp only [if_pos q2] at kk9
        exact kk9
  · show SW Y _ _ (setM z σ h) 9 [.ref 9000, .int (nI S), .ref qa, .int (x_Cobjection_9 σ S qa B (f_Cworth σ S)), .int (nI B)] []
    refine sw_iload O (xx_dt dd_X10_objection 6 rfl) rfl ?_
    refine sw_aload_n O (xx_dt dd_X10_objection 7 rfl) rfl ?_
    refine sw_get (v := .ref 5000) O (xx_dt dd_X10_objection 8 rfl) cl_X10 fl_X10_3 (lm_9000 (σ := σ) (fl1 hc)) (by decide) rfl ?_
    refine sw_get (v := .ref 5002) O (xx_dt dd_X10_objection 9 rfl) cl_X14 fl_X10_67 (lm_mod (σ := σ)) (by decide) rfl ?_
    refine sw_callVL (ci := 6) (as := []) (st := [.int (nI B)]) (st2 := [.int (nI B), .int (nI B)]) O (ct_AL_size hl (lm_5002 (σ := σ) (B := B) hB (by omega))) ce_Jx4a65c_size_8abf5 ml_X10_39 iv_Jx4a65c_size_8abf5 cl_Jx4a65c rfl (lm_5002 (σ := σ) (B := B) hB (by omega)) (xx_dt dd_X10_objection 10 rfl) (by decide) rfl rfl (Nat.le_of_ble_eq_true rfl) rfl ?_
    refine sw_icmp_ge (tgt := 71) O (xx_dt dd_X10_objection 11 rfl) (by decide) (fun q1 => ?_) (fun q1 => ?_)
    · refine sw_iload_n O (xx_dt dd_X10_objection 39 rfl) rfl ?_
      exact sw_iret O (xx_dt dd_X10_objection 40 rfl) rfl rfl (by rw [hQ]; exact ⟨by unfold f_Cobjection; rfl, rfl⟩)
    · exact absurd (Int32.le_refl _) q1
def x_Craise_22 (σ : XS9) (S x qa B : Nat) (s6 : XS9 × Nat × Int32) (s0 : XS9 × Nat × Int32) : XS9 × Nat × Int32 := xitB (fun i22 s22 => (if (nI (s22.2.1)) ≤ 0 then .inr (s22.1, s22.2.1, s22.2.2) else (if (((nI S) >>> ((nI i22) &&& 31)) &&& 1) = 1 then .inl (s22.1, s22.2.1, s22.2.2) else (if (σ 9001 i22) = (-1) then .inl (s22.1, s22.2.1, s22.2.2) else (if (s22.1 qa i22) < (f_Camount s22.1 i22) then .inl (u2 s22.1 qa i22 ((s22.1 qa i22) + 1), s22.2.1 - 1, 1) else .inl (s22.1, s22.2.1, s22.2.2)))))) B 0 s0
def x_Craise_6 (σ : XS9) (S x qa B : Nat) (s0 : XS9 × Nat × Int32) : XS9 × Nat × Int32 := xitB (fun i6 s6 => (if (nI (s6.2.1)) ≤ 0 then .inr (s6.1, s6.2.1, s6.2.2) else (if s6.2.2 = 0 then .inr (s6.1, s6.2.1, s6.2.2) else .inl ((x_Craise_22 σ S x qa B s6 (s6.1, s6.2.1, 0)).1, (x_Craise_22 σ S x qa B s6 (s6.1, s6.2.1, 0)).2.1, (x_Craise_22 σ S x qa B s6 (s6.1, s6.2.1, 0)).2.2)))) (x + 1) 0 s0
theorem raise_in {σ : XS9} {S x qa B : Nat} {s6 : XS9 × Nat × Int32} (hB6 : B ≤ 6) (hx : s6.2.1 < 2147483648) (h1 : s6.1 qa 20 = nI 1) (h2 : s6.1 qa 21 = nI 6) (hf : ∀ q9, q9 ≠ qa → s6.1 q9 = σ q9) : (x_Craise_22 σ S x qa B s6 (s6.1, s6.2.1, 0)).1 qa 20 = nI 1 ∧ (x_Craise_22 σ S x qa B s6 (s6.1, s6.2.1, 0)).1 qa 21 = nI 6 ∧ (∀ q9, q9 ≠ qa → (x_Craise_22 σ S x qa B s6 (s6.1, s6.2.1, 0)).1 q9 = σ q9) ∧ ((x_Craise_22 σ S x qa B s6 (s6.1, s6.2.1, 0)).2.1 ≤ s6.2.1 ∧ ((x_Craise_22 σ S x qa B s6 (s6.1, s6.2.1, 0)).2.2 = 0 ∨ (x_Craise_22 σ S x qa B s6 (s6.1, s6.2.1, 0)).2.1 + 1 ≤ s6.2.1)) := by
  unfold x_Craise_22
  refine xitB_inv (fun s22 : XS9 × Nat × Int32 => s22.1 qa 20 = nI 1 ∧ s22.1 qa 21 = nI 6 ∧ (∀ q9, q9 ≠ qa → s22.1 q9 = σ q9) ∧ (s22.2.1 ≤ s6.2.1 ∧ (s22.2.2 = 0 ∨ s22.2.1 + 1 ≤ s6.2.1))) (N := B) (fun i22 s22 hi22 hP22 => ⟨(by intro s' e'; revert e'; (try dsimp only); (repeat' split) <;> intro e' <;> first | (cases e'; done) | (have e9 := Sum.inl.inj e'; subst e9; first | exact hP22 | (refine ⟨by dsimp only; rw [u2_oi (by omega)]; exact hP22.1, by dsimp only; rw [u2_oi (by omega)]; exact hP22.2.1, fun q9 hq9 => by dsimp only; rw [u2_ne hq9]; exact hP22.2.2.1 q9 hq9, ?_⟩; have h1 := hP22.2.2.2.1; have h2 := hx; have h0 : ¬ s22.2.1 = 0 := fun h => absurd ((nI_le0 (by omega)).mpr h) (by assumption); exact ⟨by dsimp only; omega, .inr (by dsimp only; omega)⟩))), (by intro s' e'; revert e'; (try dsimp only); (repeat' split) <;> intro e' <;> first | (cases e'; done) | (have e9 := Sum.inr.inj e'; subst e9; first | exact hP22 | (refine ⟨by dsimp only; rw [u2_oi (by omega)]; exact hP22.1, by dsimp only; rw [u2_oi (by omega)]; exact hP22.2.1, fun q9 hq9 => by dsimp only; rw [u2_ne hq9]; exact hP22.2.2.1 q9 hq9, ?_⟩; have h1 := hP22.2.2.2.1; have h2 := hx; have h0 : ¬ s22.2.1 = 0 := fun h => absurd ((nI_le0 (by omega)).mpr h) (by assumption); exact ⟨by dsimp only; omega, .inr (by dsimp only; omega)⟩)))⟩) B 0 (s6.1, s6.2.1, 0) (by omega) ⟨h1, h2, hf, Nat.le_refl _, .inl rfl⟩
def g_Craise (σ : XS9) (S x qa B : Nat) : XS9 := (x_Craise_6 σ S x qa B (σ, x, 1)).1
theorem ct_X10_raise {l : Launch} {h : XH} (hl : l.stackTraces = false) {z : Int64} {σ : XS9} (hbs : xx_bs h) (hc : σ 9000 20 = nI 1) {B : Nat} (hB : σ 5002 900 = nI B) (hB6 : B ≤ 6) {pk : Nat → Nat} (hpk : ∀ j, j < B → σ (5030 + j) 900 = nI (2 * pk j) ∧ pk j ≤ 6) (hpi : ∀ j, j < B → σ 9001 j = -1 ∨ ∃ n, n < pk j ∧ σ 9001 j = nI n) {qa : Nat} (hqa : 20000 ≤ qa ∧ qa < 20010) (hqf : σ qa 20 = nI 1) (hqn : σ qa 21 = nI 6) {S x : Nat} (hS : S < 64) (hx : x < 2147483648) : XEx l m_X10_raise 5 0 0 [.ref 9000, .int (nI S), .int (nI x), .ref qa] (setM z σ h) (none) (setM z (g_Craise σ S x qa B) h) := by
  refine XMet.of hl rfl rfl (Nat.le_of_ble_eq_true rfl) (fun Y O hh hQ => ?_)
  show SW Y 0 0 (setM z σ h) 0 [.ref 9000, .int (nI S), .int (nI x), .ref qa, xx_d, xx_d, xx_d] []
  refine sw_iload_n O (xx_dt dd_X10_raise 0 rfl) rfl ?_
  refine sw_istore (ls2 := [.ref 9000, .int (nI S), .int (nI x), .ref qa, .int (nI x), xx_d, xx_d]) O (xx_dt dd_X10_raise 1 rfl) (by decide) rfl ?_
  refine sw_iconst (x := 1) O (xx_dt dd_X10_raise 2 rfl) (by decide) ?_
  refine sw_istore (ls2 := [.ref 9000, .int (nI S), .int (nI x), .ref qa, .int (nI x), .int 1, xx_d]) O (xx_dt dd_X10_raise 3 rfl) (by decide) rfl ?_
  refine sw_forB (S := XS9 × Nat × Int32) (fun i6 s6 => (if (nI (s6.2.1)) ≤ 0 then .inr (s6.1, s6.2.1, s6.2.2) else (if s6.2.2 = 0 then .inr (s6.1, s6.2.1, s6.2.2) else .inl ((x_Craise_22 σ S x qa B s6 (s6.1, s6.2.1, 0)).1, (x_Craise_22 σ S x qa B s6 (s6.1, s6.2.1, 0)).2.1, (x_Craise_22 σ S x qa B s6 (s6.1, s6.2.1, 0)).2.2)))) (fun i (s : XS9 × Nat × Int32) => s.1 qa 20 = nI 1 ∧ s.1 qa 21 = nI 6 ∧ (∀ q9, q9 ≠ qa → s.1 q9 = σ q9) ∧ (s.2.1 ≤ x ∧ (s.2.2 = 0 ∨ s.2.1 + i ≤ x))) (fun (s : XS9 × Nat × Int32) => s.1 qa 20 = nI 1 ∧ s.1 qa 21 = nI 6 ∧ (∀ q9, q9 ≠ qa → s.1 q9 = σ q9) ∧ (s.2.1 ≤ x)) (hp := fun s6 => setM z s6.1 h) (hd := 6) (lc := fun i6 s6 => [.ref 9000, .int (nI S), .int (nI x), .ref qa, .int (nI (s6.2.1)), .int s6.2.2, xx_d]) (ex := 102) (lx := fun s6 => [.ref 9000, .int (nI S), .int (nI x), .ref qa, .int (nI (s6.2.1)), .int s6.2.2, xx_d]) (N := (x + 1)) (fun i6 s6 hi6 hP6 => ⟨⟨(by intro s' e'; have h9 := raise_in (σ := σ) (S := S) (x := x) (B := B) hB6 (Nat.lt_of_le_of_lt hP6.2.2.2.1 hx) hP6.1 hP6.2.1 hP6.2.2.1; revert e'; (try dsimp only); (repeat' split) <;> intro e' <;> first | (cases e'; done) | (have e9 := Sum.inl.inj e'; subst e9; refine ⟨h9.1, h9.2.1, h9.2.2.1, Nat.le_trans h9.2.2.2.1 hP6.2.2.2.1, ?_⟩; rcases h9.2.2.2.2 with q | q; exact .inl q; rcases hP6.2.2.2.2 with w | w; exact absurd w (by assumption); exact .inr (by dsimp only; omega))), (by intro s' e'; revert e'; (try dsimp only); (repeat' split) <;> intro e' <;> first | (cases e'; done) | (have e9 := Sum.inr.inj e'; subst e9; exact ⟨hP6.1, hP6.2.1, hP6.2.2.1, hP6.2.2.2.1⟩))⟩, fun kk6 kb6 => ?_⟩) (fun s6 hP6 => ⟨⟨hP6.1, hP6.2.1, hP6.2.2.1, hP6.2.2.2.1⟩, fun kx6 => ?_⟩) (x + 1) 0 (σ, x, 1) (by omega) (⟨hqf, hqn, fun _ _ => rfl, Nat.le_refl _, .inr (Nat.le_refl _)⟩) (fun hP6 => ?_)
  · refine sw_iload O (xx_dt dd_X10_raise 4 rfl) rfl ?_
    have hs6 : s6.2.1 < 2147483648 := Nat.lt_of_le_of_lt hP6.2.2.2.1 hx
    refine sw_if_le (tgt := 102) O (xx_dt dd_X10_raise 5 rfl) (by decide) (fun q2 => ?_) (fun q2 => ?_)
    · exact kb6 (s6.1, s6.2.1, s6.2.2) (by simp only [if_pos q2])
    · refine sw_iload O (xx_dt dd_X10_raise 6 rfl) rfl ?_
      refine sw_if_eq (tgt := 102) O (xx_dt dd_X10_raise 7 rfl) (by decide) (fun q3 => ?_) (fun q3 => ?_)
      · exact kb6 (s6.1, s6.2.1, s6.2.2) (by simp only [if_neg q2, if_pos q3])
      · refine sw_iconst (x := 0) O (xx_dt dd_X10_raise 8 rfl) (by decide) ?_
        refine sw_istore (ls2 := [.ref 9000, .int (nI S), .int (nI x), .ref qa, .int (nI (s6.2.1)), .int 0, xx_d]) O (xx_dt dd_X10_raise 9 rfl) (by decide) rfl ?_
        refine sw_iconst (x := 0) O (xx_dt dd_X10_raise 10 rfl) (by decide) ?_
        refine sw_istore (ls2 := [.ref 9000, .int (nI S), .int (nI x), .ref qa, .int (nI (s6.2.1)), .int 0, .int 0]) O (xx_dt dd_X10_raise 11 rfl) (by decide) rfl ?_
        refine sw_forB (S := XS9 × Nat × Int32) (fun i22 s22 => (if (nI (s22.2.1)) ≤ 0 then .inr (s22.1, s22.2.1, s22.2.2) else (if (((nI S) >>> ((nI i22) &&& 31)) &&& 1) = 1 then .inl (s22.1, s22.2.1, s22.2.2) else (if (σ 9001 i22) = (-1) then .inl (s22.1, s22.2.1, s22.2.2) else (if (s22.1 qa i22) < (f_Camount s22.1 i22) then .inl (u2 s22.1 qa i22 ((s22.1 qa i22) + 1), s22.2.1 - 1, 1) else .inl (s22.1, s22.2.1, s22.2.2)))))) (fun _ s22 => s22.1 qa 20 = nI 1 ∧ s22.1 qa 21 = nI 6 ∧ (∀ q9, q9 ≠ qa → s22.1 q9 = σ q9) ∧ (s22.2.1 ≤ s6.2.1 ∧ (s22.2.2 = 0 ∨ s22.2.1 + 1 ≤ s6.2.1))) (fun s22 => s22.1 qa 20 = nI 1 ∧ s22.1 qa 21 = nI 6 ∧ (∀ q9, q9 ≠ qa → s22.1 q9 = σ q9) ∧ (s22.2.1 ≤ s6.2.1 ∧ (s22.2.2 = 0 ∨ s22.2.1 + 1 ≤ s6.2.1))) (hp := fun s22 => setM z s22.1 h) (hd := 22) (lc := fun i22 s22 => [.ref 9000, .int (nI S), .int (nI x), .ref qa, .int (nI (s22.2.1)), .int s22.2.2, .int (nI i22)]) (ex := 99) (lx := fun s22 => [.ref 9000, .int (nI S), .int (nI x), .ref qa, .int (nI (s22.2.1)), .int s22.2.2, xx_d]) (N := B) (fun i22 s22 hi22 hP22 => ⟨⟨(by intro s' e'; revert e'; (try dsimp only); (repeat' split) <;> intro e' <;> first | (cases e'; done) | (have e9 := Sum.inl.inj e'; subst e9; first | exact hP22 | (refine ⟨by dsimp only; rw [u2_oi (by omega)]; exact hP22.1, by dsimp only; rw [u2_oi (by omega)]; exact hP22.2.1, fun q9 hq9 => by dsimp only; rw [u2_ne hq9]; exact hP22.2.2.1 q9 hq9, ?_⟩; have h1 := hP22.2.2.2.1; have h2 := hs6; have h0 : ¬ s22.2.1 = 0 := fun h => absurd ((nI_le0 (by omega)).mpr h) (by assumption); exact ⟨by dsimp only; omega, .inr (by dsimp only; omega)⟩))), (by intro s' e'; revert e'; (try dsimp only); (repeat' split) <;> intro e' <;> first | (cases e'; done) | (have e9 := Sum.inr.inj e'; subst e9; first | exact hP22 | (refine ⟨by dsimp only; rw [u2_oi (by omega)]; exact hP22.1, by dsimp only; rw [u2_oi (by omega)]; exact hP22.2.1, fun q9 hq9 => by dsimp only; rw [u2_ne hq9]; exact hP22.2.2.1 q9 hq9, ?_⟩; have h1 := hP22.2.2.2.1; have h2 := hs6; have h0 : ¬ s22.2.1 = 0 := fun h => absurd ((nI_le0 (by omega)).mpr h) (by assumption); exact ⟨by dsimp only; omega, .inr (by dsimp only; omega)⟩)))⟩, fun kk22 kb22 => ?_⟩) (fun s22 hP22 => ⟨hP22, fun kx22 => ?_⟩) B 0 (s6.1, s6.2.1, 0) (by omega) (⟨(show s6.1 qa 20 = nI 1 from hP6.1), (show s6.1 qa 21 = nI 6 from hP6.2.1), hP6.2.2.1, ⟨Nat.le_refl _, .inl rfl⟩⟩) (fun hP22 => ?_)
        · refine sw_iload O (xx_dt dd_X10_raise 12 rfl) rfl ?_
          refine sw_aload_n O (xx_dt dd_X10_raise 13 rfl) rfl ?_
          refine sw_get (v := .ref 5000) O (xx_dt dd_X10_raise 14 rfl) cl_X10 fl_X10_3 (lm_9000 (σ := s22.1) (fl1 ((congrFun (hP22.2.2.1 _ (by omega)) 20).trans hc))) (by decide) rfl ?_
          refine sw_get (v := .ref 5002) O (xx_dt dd_X10_raise 15 rfl) cl_X14 fl_X10_67 (lm_mod (σ := s22.1)) (by decide) rfl ?_
          refine sw_callVL (ci := 6) (as := []) (st := [.int (nI i22)]) (st2 := [.int (nI B), .int (nI i22)]) O (ct_AL_size hl (lm_5002 (σ := s22.1) (B := B) ((congrFun (hP22.2.2.1 _ (by omega)) 900).trans hB) (by omega))) ce_Jx4a65c_size_8abf5 ml_X10_39 iv_Jx4a65c_size_8abf5 cl_Jx4a65c rfl (lm_5002 (σ := s22.1) (B := B) ((congrFun (hP22.2.2.1 _ (by omega)) 900).trans hB) (by omega)) (xx_dt dd_X10_raise 16 rfl) (by decide) rfl rfl (Nat.le_of_ble_eq_true rfl) rfl ?_
          refine sw_icmp_ge (tgt := 99) O (xx_dt dd_X10_raise 17 rfl) (by decide) (fun q4 => ?_) (fun q4 => ?_)
          · exact absurd q4 (nI_ge (b := B) hi22 (by omega))
          · refine sw_iload O (xx_dt dd_X10_raise 18 rfl) rfl ?_
            refine sw_if_le (tgt := 99) O (xx_dt dd_X10_raise 19 rfl) (by decide) (fun q5 => ?_) (fun q5 => ?_)
            · have hfq5 : s22.2.1 ≤ 0 := (nI_leI (a := s22.2.1) (b := 0) (by omega) (by omega)).mp q5
              refine sw_dum (ls2 := [.ref 9000, .int (nI S), .int (nI x), .ref qa, .int (nI (s22.2.1)), .int s22.2.2, xx_d]) ⟨.inr rfl, .inr rfl, .inr rfl, .inr rfl, .inr rfl, .inr rfl, .inl rfl, trivial⟩ ?_
              exact kb22 (s22.1, s22.2.1, s22.2.2) (by simp only [if_pos q5])
            · have hfq5 : ¬ s22.2.1 ≤ 0 := fun e => q5 ((nI_leI (a := s22.2.1) (b := 0) (by omega) (by omega)).mpr e)
              refine sw_iload_n O (xx_dt dd_X10_raise 20 rfl) rfl ?_
              refine sw_iload O (xx_dt dd_X10_raise 21 rfl) rfl ?_
              refine sw_ishr O (xx_dt dd_X10_raise 22 rfl) ?_
              refine sw_iconst (x := 1) O (xx_dt dd_X10_raise 23 rfl) (by decide) ?_
              refine sw_iand O (xx_dt dd_X10_raise 24 rfl) ?_
              refine sw_iconst (x := 1) O (xx_dt dd_X10_raise 25 rfl) (by decide) ?_
              refine sw_icmp_eq (tgt := 93) O (xx_dt dd_X10_raise 26 rfl) (by decide) (fun q6 => ?_) (fun q6 => ?_)
              · refine sw_iinc (y := nI (i22 + 1)) (ls2 := [.ref 9000, .int (nI S), .int (nI x), .ref qa, .int (nI (s22.2.1)), .int s22.2.2, .int (nI (i22 + 1))]) O (xx_dt dd_X10_raise 51 rfl) rfl (nI_1 _) (by decide) rfl ?_
                refine sw_goto (tgt := 22) O (xx_dt dd_X10_raise 52 rfl) (by decide) ?_
                exact kk22 (s22.1, s22.2.1, s22.2.2) (by simp only [if_neg q5, if_pos q6])
              · refine sw_aload_n O (xx_dt dd_X10_raise 27 rfl) rfl ?_
                refine sw_get (v := .ref 9001) O (xx_dt dd_X10_raise 28 rfl) cl_X10 fl_X10_15 (lm_9000 (σ := s22.1) (fl1 ((congrFun (hP22.2.2.1 _ (by omega)) 20).trans hc))) (by decide) rfl ?_
                refine sw_iload O (xx_dt dd_X10_raise 29 rfl) rfl ?_
                refine sw_iaload (v := .int (σ 9001 i22)) O (xx_dt dd_X10_raise 30 rfl) ((im_9001 (z := z) (σ := s22.1) ((congrFun (hP22.2.2.1 _ (by omega)) 20).trans hc)).get _) (pk_in i22 _ (by omega)) (by rw [nI_clamp (by omega)]; exact (congrArg Value.int (congrFun (hP22.2.2.1 _ (by omega)) i22))) ?_
                refine sw_iconst (x := (-1)) O (xx_dt dd_X10_raise 31 rfl) (by decide) ?_
                refine sw_icmp_eq (tgt := 93) O (xx_dt dd_X10_raise 32 rfl) (by decide) (fun q7 => ?_) (fun q7 => ?_)
                · refine sw_iinc (y := nI (i22 + 1)) (ls2 := [.ref 9000, .int (nI S), .int (nI x), .ref qa, .int (nI (s22.2.1)), .int s22.2.2, .int (nI (i22 + 1))]) O (xx_dt dd_X10_raise 51 rfl) rfl (nI_1 _) (by decide) rfl ?_
                  refine sw_goto (tgt := 22) O (xx_dt dd_X10_raise 52 rfl) (by decide) ?_
                  exact kk22 (s22.1, s22.2.1, s22.2.2) (by simp only [if_neg q5, if_neg q6, if_pos q7])
                · refine sw_aload_n O (xx_dt dd_X10_raise 33 rfl) rfl ?_
                  refine sw_iload O (xx_dt dd_X10_raise 34 rfl) rfl ?_
                  refine sw_iaload (v := .int (s22.1 qa i22)) O (xx_dt dd_X10_raise 35 rfl) ((lm_tmp (z := z) (σ := s22.1) (h := h) (q := qa) (by omega) (fl1 hP22.1) hP22.2.1 (by omega)).get _) (pk_in i22 _ (by omega)) (by rw [nI_clamp (by omega)]; try exact rfl) ?_
                  refine sw_aload_n O (xx_dt dd_X10_raise 36 rfl) rfl ?_
                  refine sw_iload O (xx_dt dd_X10_raise 37 rfl) rfl ?_
                  refine sw_callVx (as := [.int (nI i22)]) (st := [.int (s22.1 qa i22)]) (st2 := [.int (f_Camount s22.1 i22), .int (s22.1 qa i22)]) O (ct_X10_amount hl (z := z) (σ := s22.1) hbs ((congrFun (hP22.2.2.1 _ (by omega)) 20).trans hc) (B := B) ((congrFun (hP22.2.2.1 _ (by omega)) 900).trans hB) (by omega) (pk := pk) (fun j9 hj9 => by rw [show s22.1 (5030 + j9) 900 = σ (5030 + j9) 900 from (congrFun (hP22.2.2.1 _ (by omega)) 900)]; exact hpk j9 hj9) (fun j9 hj9 => by rw [show s22.1 9001 = σ 9001 from (hP22.2.2.1 _ (by omega))]; exact hpi j9 hj9) (i := i22) (by omega)) ce_X10_amount ml_X10_109 iv_X10_amount cl_X10 rfl (lm_9000 (σ := s22.1) (fl1 ((congrFun (hP22.2.2.1 _ (by omega)) 20).trans hc))) (xx_dt dd_X10_raise 38 rfl) (by decide) rfl rfl (Nat.le_of_ble_eq_true rfl) rfl ?_
                  refine sw_icmp_lt (tgt := 79) O (xx_dt dd_X10_raise 39 rfl) (by decide) (fun q8 => ?_) (fun q8 => ?_)
                  · refine sw_aload_n O (xx_dt dd_X10_raise 41 rfl) rfl ?_
                    refine sw_iload O (xx_dt dd_X10_raise 42 rfl) rfl ?_
                    refine sw_dup2 O (xx_dt dd_X10_raise 43 rfl) rfl rfl ?_
                    refine sw_iaload (v := .int (s22.1 qa i22)) O (xx_dt dd_X10_raise 44 rfl) ((lm_tmp (z := z) (σ := s22.1) (h := h) (q := qa) (by omega) (fl1 hP22.1) hP22.2.1 (by omega)).get _) (pk_in i22 _ (by omega)) (by rw [nI_clamp (by omega)]; try exact rfl) ?_
                    refine sw_iconst (x := 1) O (xx_dt dd_X10_raise 45 rfl) (by decide) ?_
                    refine sw_iadd O (xx_dt dd_X10_raise 46 rfl) ?_
                    refine sw_iastore (h2 := setM z (u2 s22.1 qa i22 ((s22.1 qa i22) + 1)) h) O (xx_dt dd_X10_raise 47 rfl) ((lm_tmp (z := z) (σ := s22.1) (h := h) (q := qa) (by omega) (fl1 hP22.1) hP22.2.1 (by omega)).get _) (pk_in i22 _ (by omega)) (by omega) (by rw [nI_clamp (by omega)]; exact ((lm_tmp (z := z) (σ := s22.1) (h := h) (q := qa) (by omega) (fl1 hP22.1) hP22.2.1 (by omega)).put (by omega))) ?_
                    refine sw_iinc (y := nI (s22.2.1 - 1)) (ls2 := [.ref 9000, .int (nI S), .int (nI x), .ref qa, .int (nI (s22.2.1 - 1)), .int s22.2.2, .int (nI i22)]) O (xx_dt dd_X10_raise 48 rfl) rfl (nI_prd (by omega)) (by decide) rfl ?_
                    refine sw_iconst (x := 1) O (xx_dt dd_X10_raise 49 rfl) (by decide) ?_
                    refine sw_istore (ls2 := [.ref 9000, .int (nI S), .int (nI x), .ref qa, .int (nI (s22.2.1 - 1)), .int 1, .int (nI i22)]) O (xx_dt dd_X10_raise 50 rfl) (by decide) rfl ?_
                    refine sw_iinc (y := nI (i22 + 1)) (ls2 := [.ref 9000, .int (nI S), .int (nI x), .ref qa, .int (nI (s22.2.1 - 1)), .int 1, .int (nI (i22 + 1))]) O (xx_dt dd_X10_raise 51 rfl) rfl (nI_1 _) (by decide) rfl ?_
                    refine sw_goto (tgt := 22) O (xx_dt dd_X10_raise 52 rfl) (by decide) ?_
                    exact kk22 (u2 s22.1 qa i22 ((s22.1 qa i22) + 1), s22.2.1 - 1, 1) (by simp only [if_neg q5, if_neg q6, if_neg q7, if_pos q8])
                  · refine sw_goto (tgt := 93) O (xx_dt dd_X10_raise 40 rfl) (by decide) ?_
                    refine sw_iinc (y := nI (i22 + 1)) (ls2 := [.ref 9000, .int (nI S), .int (nI x), .ref qa, .int (nI (s22.2.1)), .int s22.2.2, .int (nI (i22 + 1))]) O (xx_dt dd_X10_raise 51 rfl) rfl (nI_1 _) (by decide) rfl ?_
                    refine sw_goto (tgt := 22) O (xx_dt dd_X10_raise 52 rfl) (by decide) ?_
                    exact kk22 (s22.1, s22.2.1, s22.2.2) (by simp only [if_neg q5, if_neg q6, if_neg q7, if_neg q8])
        · show SW Y _ _ (setM z s22.1 h) 22 [.ref 9000, .int (nI S), .int (nI x), .ref qa, .int (nI (s22.2.1)), .int s22.2.2, .int (nI B)] []
          have hP22 : s22.1 qa 20 = nI 1 ∧ s22.1 qa 21 = nI 6 ∧ (∀ q9, q9 ≠ qa → s22.1 q9 = σ q9) ∧ (s22.2.1 ≤ s6.2.1 ∧ (s22.2.2 = 0 ∨ s22.2.1 + 1 ≤ s6.2.1)) := hP22
          refine sw_iload O (xx_dt dd_X10_raise 12 rfl) rfl ?_
          refine sw_aload_n O (xx_dt dd_X10_raise 13 rfl) rfl ?_
          refine sw_get (v := .ref 5000) O (xx_dt dd_X10_raise 14 rfl) cl_X10 fl_X10_3 (lm_9000 (σ := s22.1) (fl1 ((congrFun (hP22.2.2.1 _ (by omega)) 20).trans hc))) (by decide) rfl ?_
          refine sw_get (v := .ref 5002) O (xx_dt dd_X10_raise 15 rfl) cl_X14 fl_X10_67 (lm_mod (σ := s22.1)) (by decide) rfl ?_
          refine sw_callVL (ci := 6) (as := []) (st := [.int (nI B)]) (st2 := [.int (nI B), .int (nI B)]) O (ct_AL_size hl (lm_5002 (σ := s22.1) (B := B) ((congrFun (hP22.2.2.1 _ (by omega)) 900).trans hB) (by omega))) ce_Jx4a65c_size_8abf5 ml_X10_39 iv_Jx4a65c_size_8abf5 cl_Jx4a65c rfl (lm_5002 (σ := s22.1) (B := B) ((congrFun (hP22.2.2.1 _ (by omega)) 900).trans hB) (by omega)) (xx_dt dd_X10_raise 16 rfl) (by decide) rfl rfl (Nat.le_of_ble_eq_true rfl) rfl ?_
          refine sw_icmp_ge (tgt := 99) O (xx_dt dd_X10_raise 17 rfl) (by decide) (fun q4 => ?_) (fun q4 => ?_)
          · refine sw_dum (ls2 := [.ref 9000, .int (nI S), .int (nI x), .ref qa, .int (nI (s22.2.1)), .int s22.2.2, xx_d]) ⟨.inr rfl, .inr rfl, .inr rfl, .inr rfl, .inr rfl, .inr rfl, .inl rfl, trivial⟩ ?_
            exact kx22
          · exact absurd (Int32.le_refl _) q4
        · show SW Y _ _ (setM z ((x_Craise_22 σ S x qa B s6 (s6.1, s6.2.1, 0)).1) h) 99 [.ref 9000, .int (nI S), .int (nI x), .ref qa, .int (nI ((x_Craise_22 σ S x qa B s6 (s6.1, s6.2.1, 0)).2.1)), .int ((x_Craise_22 σ S x qa B s6 (s6.1, s6.2.1, 0)).2.2), xx_d] []
          refine sw_goto (tgt := 6) O (xx_dt dd_X10_raise 53 rfl) (by decide) ?_
          exact kk6 ((x_Craise_22 σ S x qa B s6 (s6.1, s6.2.1, 0)).1, (x_Craise_22 σ S x qa B s6 (s6.1, s6.2.1, 0)).2.1, (x_Craise_22 σ S x qa B s6 (s6.1, s6.2.1, 0)).2.2) (by simp only [if_neg q2, if_neg q3])
  · show SW Y _ _ (setM z s6.1 h) 6 [.ref 9000, .int (nI S), .int (nI x), .ref qa, .int (nI (s6.2.1)), .int s6.2.2, xx_d] []
    have hZ6 := hP6
    have hP6 : s6.1 qa 20 = nI 1 ∧ s6.1 qa 21 = nI 6 ∧ (∀ q9, q9 ≠ qa → s6.1 q9 = σ q9) ∧ (s6.2.1 ≤ x) := ⟨hP6.1, hP6.2.1, hP6.2.2.1, hP6.2.2.2.1⟩
    refine sw_iload O (xx_dt dd_X10_raise 4 rfl) rfl ?_
    refine sw_if_le (tgt := 102) O (xx_dt dd_X10_raise 5 rfl) (by decide) (fun q1 => ?_) (fun q1 => ?_)
    · exact kx6
    · have hm : s6.2.2 = 0 := (hZ6.2.2.2.2).elim id (fun w => absurd w (by omega))
      refine sw_iload O (xx_dt dd_X10_raise 6 rfl) rfl ?_
      refine sw_if_eq (tgt := 102) O (xx_dt dd_X10_raise 7 rfl) (by decide) (fun q2 => ?_) (fun q2 => absurd hm q2)
      refine sw_dum (ls2 := [.ref 9000, .int (nI S), .int (nI x), .ref qa, .int (nI (s6.2.1)), .int (s6.2.2), xx_d]) ⟨.inr rfl, .inr rfl, .inr rfl, .inr rfl, .inr rfl, .inr rfl, .inl rfl, trivial⟩ ?_
      exact kx6
  · show SW Y _ _ (setM z ((x_Craise_6 σ S x qa B (σ, x, 1)).1) h) 102 [.ref 9000, .int (nI S), .int (nI x), .ref qa, .int (nI ((x_Craise_6 σ S x qa B (σ, x, 1)).2.1)), .int ((x_Craise_6 σ S x qa B (σ, x, 1)).2.2), xx_d] []
    exact sw_ret O (xx_dt dd_X10_raise 54 rfl) rfl (by rw [hQ]; exact ⟨rfl, by unfold g_Craise; rfl⟩)
end
section
/-! ===== the reference's payments ===== -/
def rowN (n : Nat) : Nat → Int32 := fun i => if i = 20 then 1 else if i = 21 then nI n else 0
theorem u2_sl {σ : XS9} {r i q j : Nat} {x : Int32} (h : j ≠ i) : u2 σ r i x q j = σ q j := by
  by_cases e : q = r
  · subst e; exact u2_oi h
  · rw [u2_ne e]
theorem tmp20 {σ : XS9} {q n : Nat} : uR σ q (rowN n) q 20 = nI 1 := congrFun (uR_eq _ _ _) 20
theorem tmp21 {σ : XS9} {q n : Nat} : uR σ q (rowN n) q 21 = nI n := congrFun (uR_eq _ _ _) 21
theorem rowN_lt {n j : Nat} (hj : j < 20) : Value.int (rowN n j) = Value.int 0 := by
  unfold rowN
  rw [if_neg (by omega), if_neg (by omega)]
theorem tmpCtl {q : Nat} (hq : 20000 ≤ q ∧ q < 20010) (i : Nat) : isCtl q i = (Nat.beq i 20 || Nat.beq i 21) := by
  unfold isCtl
  rw [show Nat.ble q 5003 = false from Bool.eq_false_iff.mpr (fun e => by have := Nat.le_of_ble_eq_true e; omega), show Nat.beq q 5004 = false from Bool.eq_false_iff.mpr (fun e => by have := Nat.eq_of_beq_eq_true e; omega), show Nat.ble q 5039 = false from Bool.eq_false_iff.mpr (fun e => by have := Nat.le_of_ble_eq_true e; omega), show Nat.beq q 7000 = false from Bool.eq_false_iff.mpr (fun e => by have := Nat.eq_of_beq_eq_true e; omega), show Nat.beq q 8000 = false from Bool.eq_false_iff.mpr (fun e => by have := Nat.eq_of_beq_eq_true e; omega), show Nat.beq q 9000 = false from Bool.eq_false_iff.mpr (fun e => by have := Nat.eq_of_beq_eq_true e; omega), show Nat.ble 20000 q = true from Nat.ble_eq_true_of_le hq.1]
  simp
theorem lq_tmp {z : Int64} {C : XS9} {q : Nat} (hq : 20000 ≤ q ∧ q < 20010) (s : Nat → Int32) : lyQ z C q s = if C q 20 = 0 then none else some (100, cn (C q 21), fun k => .int (s k)) := by
  unfold lyQ
  rw [if_neg (by omega), if_neg (by omega), if_neg (by omega), if_neg (by omega), if_neg (by omega), if_neg (by omega), if_neg (by omega), if_neg (by omega), if_neg (by omega), if_neg (by omega), if_neg (by omega), if_neg (by omega), if_neg (by omega), if_neg (by omega), if_neg (by omega), if_neg (by omega), if_neg (by omega), if_neg (by omega), if_neg (by omega), if_pos (by omega)]
theorem setM_tn {z : Int64} {σ : XS9} {h : XH} {q : Nat} (hq : 20000 ≤ q ∧ q < 20010) (h0 : σ q 20 = 0) : setM z σ h q = h q := by
  refine setM_no ?_
  have e : ctl σ q 20 = σ q 20 := ctl_at (by rw [tmpCtl hq]; rfl)
  rw [lq_tmp hq, e, h0, if_pos rfl]
/-- another cell's row is of no matter where it isn't told of -/
theorem lyQ_ctl {z : Int64} {C C' : XS9} {r : Nat} {s : Nat → Int32} (h1 : ∀ q i, q < 20000 → C q i = C' q i) (h2 : r < 20000 ∨ 20010 ≤ r ∨ ∀ i, C r i = C' r i) : lyQ z C r s = lyQ z C' r s := by
  by_cases hr : 20000 ≤ r ∧ r < 20010
  · have e := (h2.resolve_left (by omega)).resolve_left (by omega)
    rw [lq_tmp hr, lq_tmp hr, e, e]
  · by_cases h3 : 20010 ≤ r
    · unfold lyQ
      rw [if_neg (by omega), if_neg (by omega), if_neg (by omega), if_neg (by omega), if_neg (by omega), if_neg (by omega), if_neg (by omega), if_neg (by omega), if_neg (by omega), if_neg (by omega), if_neg (by omega), if_neg (by omega), if_neg (by omega), if_neg (by omega), if_neg (by omega), if_neg (by omega), if_neg (by omega), if_neg (by omega), if_neg (by omega), if_neg (by omega), if_neg (by omega), if_neg (by omega), if_neg (by omega), if_neg (by omega), if_neg (by omega), if_neg (by omega), if_neg (by omega), if_neg (by omega), if_neg (by omega), if_neg (by omega), if_neg (by omega), if_neg (by omega), if_neg (by omega), if_neg (by omega), if_neg (by omega), if_neg (by omega), if_neg (by omega), if_neg (by omega), if_neg (by omega), if_neg (by omega)]
    · have hr2 : r < 20000 := by omega
      have e1 : ∀ i, C 5001 i = C' 5001 i := fun i => h1 _ _ (by omega)
      have e2 : ∀ i, C 5002 i = C' 5002 i := fun i => h1 _ _ (by omega)
      have e3 : ∀ i, C 5003 i = C' 5003 i := fun i => h1 _ _ (by omega)
      have e4 : ∀ i, C 5004 i = C' 5004 i := fun i => h1 _ _ (by omega)
      have e7 : ∀ i, C 7000 i = C' 7000 i := fun i => h1 _ _ (by omega)
      have e8 : ∀ i, C 8000 i = C' 8000 i := fun i => h1 _ _ (by omega)
      have e9 : ∀ i, C 9000 i = C' 9000 i := fun i => h1 _ _ (by omega)
      have er : ∀ i, C r i = C' r i := fun i => h1 _ _ hr2
      have ep : ∀ i, C (5030 + (r - 10000) / 20) i = C' (5030 + (r - 10000) / 20) i := fun i => h1 _ _ (by omega)
      unfold lyQ lyB nmS
      simp only [e1, e2, e3, e4, e7, e8, e9, er, ep, if_neg (show ¬ (20000 ≤ r) by omega)]
theorem new_tmp {z : Int64} {σ : XS9} {h : XH} {q n : Nat} (hq : 20000 ≤ q ∧ q < 20010) (hn : n ≤ 20) : xx_up (setM z σ h) q (100, n, fun k => .int (rowN n k)) = setM z (uR σ q (rowN n)) h := by
  funext a
  unfold xx_up
  have hout : ∀ r i, r ≠ q → ctl (uR σ q (rowN n)) r i = ctl σ r i := fun r i e => by
    unfold ctl
    rw [uR_ne e]
  by_cases e : a = q
  · subst e
    rw [if_pos rfl, setM_of (by omega) (c := (100, n, fun k => .int (rowN n k)))]
    have e1 : ctl (uR σ a (rowN n)) a 20 = 1 := (ctl_at (by rw [tmpCtl hq]; rfl)).trans (by rw [uR_eq]; rfl)
    have e2 : ctl (uR σ a (rowN n)) a 21 = nI n := (ctl_at (by rw [tmpCtl hq]; rfl)).trans (by rw [uR_eq]; rfl)
    rw [lq_tmp hq, e1, e2, if_neg (by decide), cn_nI (by omega), uR_eq]
  · rw [if_neg e]
    unfold setM
    rw [uR_ne e, lyQ_ctl (C := ctl (uR σ q (rowN n))) (C' := ctl σ) (fun r i hr => hout r i (by omega)) (.inr (.inr fun i => hout a i e))]
theorem raise_out {σ : XS9} {S x qa B : Nat} (hB6 : B ≤ 6) (hx : x < 2147483648) (h1 : σ qa 20 = nI 1) (h2 : σ qa 21 = nI 6) : g_Craise σ S x qa B qa 20 = nI 1 ∧ g_Craise σ S x qa B qa 21 = nI 6 ∧ ∀ q9, q9 ≠ qa → g_Craise σ S x qa B q9 = σ q9 := by
  have H := xitB_inv (fun s : XS9 × Nat × Int32 => s.1 qa 20 = nI 1 ∧ s.1 qa 21 = nI 6 ∧ (∀ q9, q9 ≠ qa → s.1 q9 = σ q9) ∧ s.2.1 ≤ x) (N := x + 1) (step := fun i6 s6 => (if (nI (s6.2.1)) ≤ 0 then .inr (s6.1, s6.2.1, s6.2.2) else (if s6.2.2 = 0 then .inr (s6.1, s6.2.1, s6.2.2) else .inl ((x_Craise_22 σ S x qa B s6 (s6.1, s6.2.1, 0)).1, (x_Craise_22 σ S x qa B s6 (s6.1, s6.2.1, 0)).2.1, (x_Craise_22 σ S x qa B s6 (s6.1, s6.2.1, 0)).2.2)))) (fun i6 s6 hi6 hP6 => by
    have h9 := raise_in (σ := σ) (S := S) (x := x) (B := B) hB6 (Nat.lt_of_le_of_lt hP6.2.2.2 hx) hP6.1 hP6.2.1 hP6.2.2.1
    refine ⟨?_, ?_⟩
    · intro s' e'
      revert e'
      (try dsimp only)
      (repeat' split) <;> intro e' <;> first | (cases e'; done) | (have e9 := Sum.inl.inj e'; subst e9; exact ⟨h9.1, h9.2.1, h9.2.2.1, Nat.le_trans h9.2.2.2.1 hP6.2.2.2⟩)
    · intro s' e'
      revert e'
      (try dsimp only)
      (repeat' split) <;> intro e' <;> first | (cases e'; done) | (have e9 := Sum.inr.inj e'; subst e9; exact hP6)) (x + 1) 0 (σ, x, 1) (by omega) ⟨h1, h2, fun _ _ => rfl, Nat.le_refl _⟩
  exact ⟨H.1, H.2.1, H.2.2.1⟩
def x_Cpay1_7 (σ : XS9) (w qa B : Nat) (s0 : XS9) : XS9 := xit (fun i7 s7 => (if (σ 9001 i7) = (-1) then s7 else (if (nI w) = 0 then u2 s7 qa i7 (f_Camount s7 i7) else u2 s7 qa i7 ((f_Cworth s7 (bclr (2 ^ B - 1) i7)) - ((f_Cworth s7 (2 ^ B - 1)) - (f_Camount s7 i7)))))) B 0 s0
def g_Cpay1 (σ : XS9) (w qa B : Nat) : XS9 := (x_Cpay1_7 σ w qa B (uR σ qa (rowN 6)))
theorem ct_Cpay1 {l : Launch} {h : XH} (hl : l.stackTraces = false) {z : Int64} {σ : XS9} (hbs : xx_bs h) (hc : σ 9000 20 = nI 1) {B : Nat} (hB : σ 5002 900 = nI B) (hB6 : B ≤ 6) {pk : Nat → Nat} (hpk : ∀ j, j < B → σ (5030 + j) 900 = nI (2 * pk j) ∧ pk j ≤ 6) (hpi : ∀ j, j < B → σ 9001 j = -1 ∨ ∃ n, n < pk j ∧ σ 9001 j = nI n) {qa : Nat} (hqa : 20000 ≤ qa ∧ qa < 20010) (hfr : ∀ r, 5000 ≤ r → r < 20010 → h r = none) (hq0 : σ qa 20 = 0) {w : Nat} (hw2 : w < 2) : XEx l m_X10_payments 6 1 6 [.ref 9000, .int (nI w)] (setM z σ h) (some (.ref qa)) (setM z (g_Cpay1 σ w qa B) h) := by
  refine XMet.of hl rfl rfl (Nat.le_of_ble_eq_true rfl) (fun Y O hh hQ => ?_)
  show SW Y 1 6 (setM z σ h) 0 [.ref 9000, .int (nI w), xx_d, xx_d, xx_d] []
  refine sw_bipush (x := 6) O (xx_dt dd_X10_payments 0 rfl) (by decide) ?_
  refine sw_newarray (k := 0) (n := 0) (t := 100) (N := 6) (r := qa) O (xx_dt dd_X10_payments 1 rfl) ⟨⟨by omega, by omega⟩, rfl⟩ ac_int (by first | decide | (have h9 := xx_nlt0 6 (by omega); exact h9)) (by first | rfl | exact nI_clamp (by omega)) (by show 6 * 4 ≤ _; omega) ((setM_tn (z := z) (σ := σ) (q := qa) (by omega) hq0).trans (hfr qa (by omega) (by omega))) (by omega) ?_
  rw [xx_blk_up]
  refine sw_alter (F2 := fun k => .int (rowN 6 k)) (xx_up_eq _ _ _) (fun j9 hj9 => (rowN_lt (by omega)).symm) ?_
  rw [xx_up_up]
  rw [new_tmp (σ := σ) (q := qa) (n := 6) (by omega) (by omega)]
  refine sw_astore_n (ls2 := [.ref 9000, .int (nI w), .ref qa, xx_d, xx_d]) O (xx_dt dd_X10_payments 2 rfl) (by decide) rfl ?_
  refine sw_iconst (x := 0) O (xx_dt dd_X10_payments 3 rfl) (by decide) ?_
  refine sw_istore_n (ls2 := [.ref 9000, .int (nI w), .ref qa, .int 0, xx_d]) O (xx_dt dd_X10_payments 4 rfl) (by decide) rfl ?_
  refine sw_for (S := XS9) (fun i7 s7 => (if (σ 9001 i7) = (-1) then s7 else (if (nI w) = 0 then u2 s7 qa i7 (f_Camount s7 i7) else u2 s7 qa i7 ((f_Cworth s7 (bclr (2 ^ B - 1) i7)) - ((f_Cworth s7 (2 ^ B - 1)) - (f_Camount s7 i7)))))) (fun _ s7 => s7 qa 20 = nI 1 ∧ s7 qa 21 = nI 6 ∧ (∀ q9, q9 ≠ qa → s7 q9 = σ q9)) (hp := fun s7 => setM z s7 h) (hd := 7) (lc := fun i7 s7 => [.ref 9000, .int (nI w), .ref qa, .int (nI i7), xx_d]) (N := B) (fun i7 s7 hi7 hP7 => ⟨(by (try dsimp only); (repeat' split) <;> (refine ⟨?_, ?_, ?_⟩ <;> (first | exact hP7.1 | exact hP7.2.1 | exact hP7.2.2 | exact (by rw [u2_oi (by omega)]; first | exact hP7.1 | exact hP7.2.1) | exact (fun q9 hq9 => by rw [u2_ne hq9]; exact hP7.2.2 q9 hq9) | exact hi7 | exact .inl rfl | exact .inr rfl | (simp (disch := omega) only [u2_ne, uR_ne, fr_fill]; first | exact hP7.1 | exact hP7.2.1 | exact hP7.2.2 | exact (by rw [u2_oi (by omega)]; first | exact hP7.1 | exact hP7.2.1) | exact (fun q9 hq9 => by rw [u2_ne hq9]; exact hP7.2.2 q9 hq9))))), fun kk7 => ?_⟩) B 0 (uR σ qa (rowN 6)) (by omega) (⟨(show (uR σ qa (rowN 6)) qa 20 = nI 1 from tmp20), (show (uR σ qa (rowN 6)) qa 21 = nI 6 from tmp21), (fun q9 hq9 => uR_ne hq9)⟩) (fun hP7 => ?_)
  · refine sw_iload_n O (xx_dt dd_X10_payments 5 rfl) rfl ?_
    refine sw_aload_n O (xx_dt dd_X10_payments 6 rfl) rfl ?_
    refine sw_get (v := .ref 5000) O (xx_dt dd_X10_payments 7 rfl) cl_X10 fl_X10_3 (lm_9000 (σ := s7) (fl1 ((congrFun (hP7.2.2 _ (by omega)) 20).trans hc))) (by decide) rfl ?_
    refine sw_get (v := .ref 5002) O (xx_dt dd_X10_payments 8 rfl) cl_X14 fl_X10_67 (lm_mod (σ := s7)) (by decide) rfl ?_
    refine sw_callVL (ci := 6) (as := []) (st := [.int (nI i7)]) (st2 := [.int (nI B), .int (nI i7)]) O (ct_AL_size hl (lm_5002 (σ := s7) (B := B) ((congrFun (hP7.2.2 _ (by omega)) 900).trans hB) (by omega))) ce_Jx4a65c_size_8abf5 ml_X10_39 iv_Jx4a65c_size_8abf5 cl_Jx4a65c rfl (lm_5002 (σ := s7) (B := B) ((congrFun (hP7.2.2 _ (by omega)) 900).trans hB) (by omega)) (xx_dt dd_X10_payments 9 rfl) (by decide) rfl rfl (Nat.le_of_ble_eq_true rfl) rfl ?_
    refine sw_icmp_ge (tgt := 84) O (xx_dt dd_X10_payments 10 rfl) (by decide) (fun q1 => ?_) (fun q1 => ?_)
    · exact absurd q1 (nI_ge (b := B) hi7 (by omega))
    · refine sw_aload_n O (xx_dt dd_X10_payments 11 rfl) rfl ?_
      refine sw_get (v := .ref 9001) O (xx_dt dd_X10_payments 12 rfl) cl_X10 fl_X10_15 (lm_9000 (σ := s7) (fl1 ((congrFun (hP7.2.2 _ (by omega)) 20).trans hc))) (by decide) rfl ?_
      refine sw_iload_n O (xx_dt dd_X10_payments 13 rfl) rfl ?_
      refine sw_iaload (v := .int (σ 9001 i7)) O (xx_dt dd_X10_payments 14 rfl) ((im_9001 (z := z) (σ := s7) ((congrFun (hP7.2.2 _ (by omega)) 20).trans hc)).get _) (pk_in i7 _ (by omega)) (by rw [nI_clamp (by omega)]; exact (congrArg Value.int (congrFun (hP7.2.2 _ (by omega)) i7))) ?_
      refine sw_iconst (x := (-1)) O (xx_dt dd_X10_payments 15 rfl) (by decide) ?_
      refine sw_icmp_ne (tgt := 34) O (xx_dt dd_X10_payments 16 rfl) (by decide) (fun q2 => ?_) (fun q2 => ?_)
      · refine sw_aload_n O (xx_dt dd_X10_payments 18 rfl) rfl ?_
        refine sw_iload_n O (xx_dt dd_X10_payments 19 rfl) rfl ?_
        refine sw_iload_n O (xx_dt dd_X10_payments 20 rfl) rfl ?_
        refine sw_if_ne (tgt := 48) O (xx_dt dd_X10_payments 21 rfl) (by decide) (fun q3 => ?_) (fun q3 => ?_)
        · refine sw_aload_n O (xx_dt dd_X10_payments 26 rfl) rfl ?_
          refine sw_aload_n O (xx_dt dd_X10_payments 27 rfl) rfl ?_
          have hq50 := pow_le6 hB6
          refine sw_callVx (as := []) (st := [.ref 9000, .int (nI i7), .ref qa]) (st2 := [.int (nI (2 ^ B - 1)), .ref 9000, .int (nI i7), .ref qa]) O (ct_X10_all hl (z := z) (σ := s7) hbs ((congrFun (hP7.2.2 _ (by omega)) 20).trans hc) (B := B) ((congrFun (hP7.2.2 _ (by omega)) 900).trans hB) (by omega)) ce_X10_all ml_X10_110 iv_X10_all cl_X10 rfl (lm_9000 (σ := s7) (fl1 ((congrFun (hP7.2.2 _ (by omega)) 20).trans hc))) (xx_dt dd_X10_payments 28 rfl) (by decide) rfl rfl (Nat.le_of_ble_eq_true rfl) rfl ?_
          refine sw_iconst (x := 1) O (xx_dt dd_X10_payments 29 rfl) (by decide) ?_
          refine sw_iload_n O (xx_dt dd_X10_payments 30 rfl) rfl ?_
          refine sw_ishl O (xx_dt dd_X10_payments 31 rfl) ?_
          refine sw_iconst (x := (-1)) O (xx_dt dd_X10_payments 32 rfl) (by decide) ?_
          refine sw_ixor O (xx_dt dd_X10_payments 33 rfl) ?_
          refine sw_iand O (xx_dt dd_X10_payments 34 rfl) ?_
          have hx58 := bclr_lt (S := 2 ^ B - 1) (k := i7) (by omega)
          rw [bclr_eq (S := 2 ^ B - 1) (k := i7) (by omega) (by omega)]
          refine sw_callVx (as := [.int (nI (bclr (2 ^ B - 1) i7))]) (st := [.int (nI i7), .ref qa]) (st2 := [.int (f_Cworth s7 (bclr (2 ^ B - 1) i7)), .int (nI i7), .ref qa]) O (ct_X10_worth hl (z := z) (σ := s7) hbs ((congrFun (hP7.2.2 _ (by omega)) 20).trans hc) (S := bclr (2 ^ B - 1) i7) (by first | omega | assumption)) ce_X10_worth ml_X10_106 iv_X10_worth cl_X10 rfl (lm_9000 (σ := s7) (fl1 ((congrFun (hP7.2.2 _ (by omega)) 20).trans hc))) (xx_dt dd_X10_payments 35 rfl) (by decide) rfl rfl (Nat.le_of_ble_eq_true rfl) rfl ?_
          refine sw_aload_n O (xx_dt dd_X10_payments 36 rfl) rfl ?_
          refine sw_aload_n O (xx_dt dd_X10_payments 37 rfl) rfl ?_
          have hq64 := pow_le6 hB6
          refine sw_callVx (as := []) (st := [.ref 9000, .int (f_Cworth s7 (bclr (2 ^ B - 1) i7)), .int (nI i7), .ref qa]) (st2 := [.int (nI (2 ^ B - 1)), .ref 9000, .int (f_Cworth s7 (bclr (2 ^ B - 1) i7)), .int (nI i7), .ref qa]) O (ct_X10_all hl (z := z) (σ := s7) hbs ((congrFun (hP7.2.2 _ (by omega)) 20).trans hc) (B := B) ((congrFun (hP7.2.2 _ (by omega)) 900).trans hB) (by omega)) ce_X10_all ml_X10_110 iv_X10_all cl_X10 rfl (lm_9000 (σ := s7) (fl1 ((congrFun (hP7.2.2 _ (by omega)) 20).trans hc))) (xx_dt dd_X10_payments 38 rfl) (by decide) rfl rfl (Nat.le_of_ble_eq_true rfl) rfl ?_
          refine sw_callVx (as := [.int (nI (2 ^ B - 1))]) (st := [.int (f_Cworth s7 (bclr (2 ^ B - 1) i7)), .int (nI i7), .ref qa]) (st2 := [.int (f_Cworth s7 (2 ^ B - 1)), .int (f_Cworth s7 (bclr (2 ^ B - 1) i7)), .int (nI i7), .ref qa]) O (ct_X10_worth hl (z := z) (σ := s7) hbs ((congrFun (hP7.2.2 _ (by omega)) 20).trans hc) (S := 2 ^ B - 1) (by first | omega | assumption)) ce_X10_worth ml_X10_106 iv_X10_worth cl_X10 rfl (lm_9000 (σ := s7) (fl1 ((congrFun (hP7.2.2 _ (by omega)) 20).trans hc))) (xx_dt dd_X10_payments 39 rfl) (by decide) rfl rfl (Nat.le_of_ble_eq_true rfl) rfl ?_
          refine sw_aload_n O (xx_dt dd_X10_payments 40 rfl) rfl ?_
          refine sw_iload_n O (xx_dt dd_X10_payments 41 rfl) rfl ?_
          refine sw_callVx (as := [.int (nI i7)]) (st := [.int (f_Cworth s7 (2 ^ B - 1)), .int (f_Cworth s7 (bclr (2 ^ B - 1) i7)), .int (nI i7), .ref qa]) (st2 := [.int (f_Camount s7 i7), .int (f_Cworth s7 (2 ^ B - 1)), .int (f_Cworth s7 (bclr (2 ^ B - 1) i7)), .int (nI i7), .ref qa]) O (ct_X10_amount hl (z := z) (σ := s7) hbs ((congrFun (hP7.2.2 _ (by omega)) 20).trans hc) (B := B) ((congrFun (hP7.2.2 _ (by omega)) 900).trans hB) (by omega) (pk := pk) (fun j9 hj9 => by rw [show s7 (5030 + j9) 900 = σ (5030 + j9) 900 from (congrFun (hP7.2.2 _ (by omega)) 900)]; exact hpk j9 hj9) (fun j9 hj9 => by rw [show s7 9001 = σ 9001 from (hP7.2.2 _ (by omega))]; exact hpi j9 hj9) (i := i7) (by omega)) ce_X10_amount ml_X10_109 iv_X10_amount cl_X10 rfl (lm_9000 (σ := s7) (fl1 ((congrFun (hP7.2.2 _ (by omega)) 20).trans hc))) (xx_dt dd_X10_payments 42 rfl) (by decide) rfl rfl (Nat.le_of_ble_eq_true rfl) rfl ?_
          refine sw_isub O (xx_dt dd_X10_payments 43 rfl) ?_
          refine sw_isub O (xx_dt dd_X10_payments 44 rfl) ?_
          refine sw_iastore (h2 := setM z (u2 s7 qa i7 ((f_Cworth s7 (bclr (2 ^ B - 1) i7)) - ((f_Cworth s7 (2 ^ B - 1)) - (f_Camount s7 i7)))) h) O (xx_dt dd_X10_payments 45 rfl) ((lm_tmp (z := z) (σ := s7) (h := h) (q := qa) (by omega) (fl1 hP7.1) hP7.2.1 (by omega)).get _) (pk_in i7 _ (by omega)) (by omega) (by rw [nI_clamp (by omega)]; exact ((lm_tmp (z := z) (σ := s7) (h := h) (q := qa) (by omega) (fl1 hP7.1) hP7.2.1 (by omega)).put (by omega))) ?_
          refine sw_iinc (y := nI (i7 + 1)) (ls2 := [.ref 9000, .int (nI w), .ref qa, .int (nI (i7 + 1)), xx_d]) O (xx_dt dd_X10_payments 46 rfl) rfl (nI_1 _) (by decide) rfl ?_
          refine sw_goto (tgt := 7) O (xx_dt dd_X10_payments 47 rfl) (by decide) ?_
          simp only [if_neg q2, if_neg q3] at kk7
          exact kk7
        · refine sw_aload_n O (xx_dt dd_X10_payments 22 rfl) rfl ?_
          refine sw_iload_n O (xx_dt dd_X10_payments 23 rfl) rfl ?_
          refine sw_callVx (as := [.int (nI i7)]) (st := [.int (nI i7), .ref qa]) (st2 := [.int (f_Camount s7 i7), .int (nI i7), .ref qa]) O (ct_X10_amount hl (z := z) (σ := s7) hbs ((congrFun (hP7.2.2 _ (by omega)) 20).trans hc) (B := B) ((congrFun (hP7.2.2 _ (by omega)) 900).trans hB) (by omega) (pk := pk) (fun j9 hj9 => by rw [show s7 (5030 + j9) 900 = σ (5030 + j9) 900 from (congrFun (hP7.2.2 _ (by omega)) 900)]; exact hpk j9 hj9) (fun j9 hj9 => by rw [show s7 9001 = σ 9001 from (hP7.2.2 _ (by omega))]; exact hpi j9 hj9) (i := i7) (by omega)) ce_X10_amount ml_X10_109 iv_X10_amount cl_X10 rfl (lm_9000 (σ := s7) (fl1 ((congrFun (hP7.2.2 _ (by omega)) 20).trans hc))) (xx_dt dd_X10_payments 24 rfl) (by decide) rfl rfl (Nat.le_of_ble_eq_true rfl) rfl ?_
          refine sw_goto (tgt := 77) O (xx_dt dd_X10_payments 25 rfl) (by decide) ?_
          refine sw_iastore (h2 := setM z (u2 s7 qa i7 (f_Camount s7 i7)) h) O (xx_dt dd_X10_payments 45 rfl) ((lm_tmp (z := z) (σ := s7) (h := h) (q := qa) (by omega) (fl1 hP7.1) hP7.2.1 (by omega)).get _) (pk_in i7 _ (by omega)) (by omega) (by rw [nI_clamp (by omega)]; exact ((lm_tmp (z := z) (σ := s7) (h := h) (q := qa) (by omega) (fl1 hP7.1) hP7.2.1 (by omega)).put (by omega))) ?_
          refine sw_iinc (y := nI (i7 + 1)) (ls2 := [.ref 9000, .int (nI w), .ref qa, .int (nI (i7 + 1)), xx_d]) O (xx_dt dd_X10_payments 46 rfl) rfl (nI_1 _) (by decide) rfl ?_
          refine sw_goto (tgt := 7) O (xx_dt dd_X10_payments 47 rfl) (by decide) ?_
          simp only [if_neg q2, if_pos q3] at kk7
          exact kk7
      · refine sw_goto (tgt := 78) O (xx_dt dd_X10_payments 17 rfl) (by decide) ?_
        refine sw_iinc (y := nI (i7 + 1)) (ls2 := [.ref 9000, .int (nI w), .ref qa, .int (nI (i7 + 1)), xx_d]) O (xx_dt dd_X10_payments 46 rfl) rfl (nI_1 _) (by decide) rfl ?_
        refine sw_goto (tgt := 7) O (xx_dt dd_X10_payments 47 rfl) (by decide) ?_
        simp only [if_pos q2] at kk7
        exact kk7
  · show SW Y _ _ (setM z (x_Cpay1_7 σ w qa B (uR σ qa (rowN 6))) h) 7 [.ref 9000, .int (nI w), .ref qa, .int (nI B), xx_d] []
    have hP7 : (x_Cpay1_7 σ w qa B (uR σ qa (rowN 6))) qa 20 = nI 1 ∧ (x_Cpay1_7 σ w qa B (uR σ qa (rowN 6))) qa 21 = nI 6 ∧ (∀ q9, q9 ≠ qa → (x_Cpay1_7 σ w qa B (uR σ qa (rowN 6))) q9 = σ q9) := hP7
    refine sw_iload_n O (xx_dt dd_X10_payments 5 rfl) rfl ?_
    refine sw_aload_n O (xx_dt dd_X10_payments 6 rfl) rfl ?_
    refine sw_get (v := .ref 5000) O (xx_dt dd_X10_payments 7 rfl) cl_X10 fl_X10_3 (lm_9000 (σ := (x_Cpay1_7 σ w qa B (uR σ qa (rowN 6)))) (fl1 ((congrFun (hP7.2.2 _ (by omega)) 20).trans hc))) (by decide) rfl ?_
    refine sw_get (v := .ref 5002) O (xx_dt dd_X10_payments 8 rfl) cl_X14 fl_X10_67 (lm_mod (σ := (x_Cpay1_7 σ w qa B (uR σ qa (rowN 6))))) (by decide) rfl ?_
    refine sw_callVL (ci := 6) (as := []) (st := [.int (nI B)]) (st2 := [.int (nI B), .int (nI B)]) O (ct_AL_size hl (lm_5002 (σ := (x_Cpay1_7 σ w qa B (uR σ qa (rowN 6)))) (B := B) ((congrFun (hP7.2.2 _ (by omega)) 900).trans hB) (by omega))) ce_Jx4a65c_size_8abf5 ml_X10_39 iv_Jx4a65c_size_8abf5 cl_Jx4a65c rfl (lm_5002 (σ := (x_Cpay1_7 σ w qa B (uR σ qa (rowN 6)))) (B := B) ((congrFun (hP7.2.2 _ (by omega)) 900).trans hB) (by omega)) (xx_dt dd_X10_payments 9 rfl) (by decide) rfl rfl (Nat.le_of_ble_eq_true rfl) rfl ?_
    refine sw_icmp_ge (tgt := 84) O (xx_dt dd_X10_payments 10 rfl) (by decide) (fun q1 => ?_) (fun q1 => ?_)
    · refine sw_iload_n O (xx_dt dd_X10_payments 48 rfl) rfl ?_
      refine sw_iconst (x := 2) O (xx_dt dd_X10_payments 49 rfl) (by decide) ?_
      refine sw_icmp_ne (tgt := 155) O (xx_dt dd_X10_payments 50 rfl) (by decide) (fun q9 => ?_) (fun q9 => absurd (congrArg cn q9) (by rw [cn_nI (by omega)]; show ¬ w = 2; omega))
      refine sw_aload_n O (xx_dt dd_X10_payments 86 rfl) rfl ?_
      exact sw_aret O (xx_dt dd_X10_payments 87 rfl) rfl (.inr ⟨_, rfl⟩) (by rw [hQ]; exact ⟨rfl, by unfold g_Cpay1; rfl⟩)
    · exact absurd (Int32.le_refl _) q1
theorem pos_nat {x : Int32} (h : ¬ x ≤ 0) : x = nI (cn x) ∧ cn x < 2147483648 := by
  have h0 : (0 : Int32) ≤ x := by
    rw [i_le] at h ⊢
    have : (0 : Int32).toInt = 0 := rfl
    omega
  obtain ⟨h1, h2⟩ := cn_of h0
  refine ⟨h1, ?_⟩
  have h3 := Int32.toInt_lt x
  omega
def x_Cpay2_7 (σ : XS9) (qa B : Nat) (s0 : XS9) : XS9 := xit (fun i7 s7 => (if (σ 9001 i7) = (-1) then s7 else u2 s7 qa i7 ((f_Cworth s7 (bclr (2 ^ B - 1) i7)) - ((f_Cworth s7 (2 ^ B - 1)) - (f_Camount s7 i7))))) B 0 s0
def x_Cpay2_94 (s : XS9) (qa B : Nat) (s0 : Nat) : Nat := xit (fun i94 s94 => (if (f_Cobjection s (1 + i94) qa B) ≤ (f_Cobjection s s94 qa B) then s94 else 1 + i94)) (2 ^ B - 1) 0 s0
def g_Cpay20 (σ : XS9) (qa B : Nat) : XS9 := (x_Cpay2_7 σ qa B (uR σ qa (rowN 6)))
def p2_step (qa B : Nat) : Nat → XS9 → XS9 ⊕ XS9 := fun _ s => (if 0 < (f_Cobjection s (x_Cpay2_94 s qa B 0) qa B) then .inl (g_Craise s (x_Cpay2_94 s qa B 0) (cn (f_Cobjection s (x_Cpay2_94 s qa B 0) qa B)) qa B) else .inr s)
def g_Cpay2 (σ : XS9) (qa B : Nat) : XS9 := match xitR (p2_step qa B) 20000000 0 (g_Cpay20 σ qa B) with | .inl s => s | .inr r => r
theorem ct_Cpay2 {l : Launch} {h : XH} (hl : l.stackTraces = false) {z : Int64} {σ : XS9} (hbs : xx_bs h) (hc : σ 9000 20 = nI 1) {B : Nat} (hB : σ 5002 900 = nI B) (hB6 : B ≤ 6) {pk : Nat → Nat} (hpk : ∀ j, j < B → σ (5030 + j) 900 = nI (2 * pk j) ∧ pk j ≤ 6) (hpi : ∀ j, j < B → σ 9001 j = -1 ∨ ∃ n, n < pk j ∧ σ 9001 j = nI n) {qa : Nat} (hqa : 20000 ≤ qa ∧ qa < 20010) (hfr : ∀ r, 5000 ≤ r → r < 20010 → h r = none) (hq0 : σ qa 20 = 0) (hterm : ∃ r, xitR (p2_step qa B) 20000000 0 (g_Cpay20 σ qa B) = .inr r) : XEx l m_X10_payments 6 1 6 [.ref 9000, .int 2] (setM z σ h) (some (.ref qa)) (setM z (g_Cpay2 σ qa B) h) := by
  obtain ⟨rT, hrT⟩ := hterm
  refine XMet.of hl rfl rfl (Nat.le_of_ble_eq_true rfl) (fun Y O hh hQ => ?_)
  show SW Y 1 6 (setM z σ h) 0 [.ref 9000, .int 2, xx_d, xx_d, xx_d] []
  refine sw_bipush (x := 6) O (xx_dt dd_X10_payments 0 rfl) (by decide) ?_
  refine sw_newarray (k := 0) (n := 0) (t := 100) (N := 6) (r := qa) O (xx_dt dd_X10_payments 1 rfl) ⟨⟨by omega, by omega⟩, rfl⟩ ac_int (by first | decide | (have h9 := xx_nlt0 6 (by omega); exact h9)) (by first | rfl | exact nI_clamp (by omega)) (by show 6 * 4 ≤ _; omega) ((setM_tn (z := z) (σ := σ) (q := qa) (by omega) hq0).trans (hfr qa (by omega) (by omega))) (by omega) ?_
  rw [xx_blk_up]
  refine sw_alter (F2 := fun k => .int (rowN 6 k)) (xx_up_eq _ _ _) (fun j9 hj9 => (rowN_lt (by omega)).symm) ?_
  rw [xx_up_up]
  rw [new_tmp (σ := σ) (q := qa) (n := 6) (by omega) (by omega)]
  refine sw_astore_n (ls2 := [.ref 9000, .int 2, .ref qa, xx_d, xx_d]) O (xx_dt dd_X10_payments 2 rfl) (by decide) rfl ?_
  refine sw_iconst (x := 0) O (xx_dt dd_X10_payments 3 rfl) (by decide) ?_
  refine sw_istore_n (ls2 := [.ref 9000, .int 2, .ref qa, .int 0, xx_d]) O (xx_dt dd_X10_payments 4 rfl) (by decide) rfl ?_
  refine sw_for (S := XS9) (fun i7 s7 => (if (σ 9001 i7) = (-1) then s7 else u2 s7 qa i7 ((f_Cworth s7 (bclr (2 ^ B - 1) i7)) - ((f_Cworth s7 (2 ^ B - 1)) - (f_Camount s7 i7))))) (fun _ s7 => s7 qa 20 = nI 1 ∧ s7 qa 21 = nI 6 ∧ (∀ q9, q9 ≠ qa → s7 q9 = σ q9)) (hp := fun s7 => setM z s7 h) (hd := 7) (lc := fun i7 s7 => [.ref 9000, .int 2, .ref qa, .int (nI i7), xx_d]) (N := B) (fun i7 s7 hi7 hP7 => ⟨(by (try dsimp only); (repeat' split) <;> (refine ⟨?_, ?_, ?_⟩ <;> (first | exact hP7.1 | exact hP7.2.1 | exact hP7.2.2 | exact (by rw [u2_oi (by omega)]; first | exact hP7.1 | exact hP7.2.1) | exact (fun q9 hq9 => by rw [u2_ne hq9]; exact hP7.2.2 q9 hq9) | exact hi7 | exact .inl rfl | exact .inr rfl | (simp (disch := omega) only [u2_ne, uR_ne, fr_fill]; first | exact hP7.1 | exact hP7.2.1 | exact hP7.2.2 | exact (by rw [u2_oi (by omega)]; first | exact hP7.1 | exact hP7.2.1) | exact (fun q9 hq9 => by rw [u2_ne hq9]; exact hP7.2.2 q9 hq9))))), fun kk7 => ?_⟩) B 0 (uR σ qa (rowN 6)) (by omega) (⟨(show (uR σ qa (rowN 6)) qa 20 = nI 1 from tmp20), (show (uR σ qa (rowN 6)) qa 21 = nI 6 from tmp21), (fun q9 hq9 => uR_ne hq9)⟩) (fun hP7 => ?_)
  · refine sw_iload_n O (xx_dt dd_X10_payments 5 rfl) rfl ?_
    refine sw_aload_n O (xx_dt dd_X10_payments 6 rfl) rfl ?_
    refine sw_get (v := .ref 5000) O (xx_dt dd_X10_payments 7 rfl) cl_X10 fl_X10_3 (lm_9000 (σ := s7) (fl1 ((congrFun (hP7.2.2 _ (by omega)) 20).trans hc))) (by decide) rfl ?_
    refine sw_get (v := .ref 5002) O (xx_dt dd_X10_payments 8 rfl) cl_X14 fl_X10_67 (lm_mod (σ := s7)) (by decide) rfl ?_
    refine sw_callVL (ci := 6) (as := []) (st := [.int (nI i7)]) (st2 := [.int (nI B), .int (nI i7)]) O (ct_AL_size hl (lm_5002 (σ := s7) (B := B) ((congrFun (hP7.2.2 _ (by omega)) 900).trans hB) (by omega))) ce_Jx4a65c_size_8abf5 ml_X10_39 iv_Jx4a65c_size_8abf5 cl_Jx4a65c rfl (lm_5002 (σ := s7) (B := B) ((congrFun (hP7.2.2 _ (by omega)) 900).trans hB) (by omega)) (xx_dt dd_X10_payments 9 rfl) (by decide) rfl rfl (Nat.le_of_ble_eq_true rfl) rfl ?_
    refine sw_icmp_ge (tgt := 84) O (xx_dt dd_X10_payments 10 rfl) (by decide) (fun q1 => ?_) (fun q1 => ?_)
    · exact absurd q1 (nI_ge (b := B) hi7 (by omega))
    · refine sw_aload_n O (xx_dt dd_X10_payments 11 rfl) rfl ?_
      refine sw_get (v := .ref 9001) O (xx_dt dd_X10_payments 12 rfl) cl_X10 fl_X10_15 (lm_9000 (σ := s7) (fl1 ((congrFun (hP7.2.2 _ (by omega)) 20).trans hc))) (by decide) rfl ?_
      refine sw_iload_n O (xx_dt dd_X10_payments 13 rfl) rfl ?_
      refine sw_iaload (v := .int (σ 9001 i7)) O (xx_dt dd_X10_payments 14 rfl) ((im_9001 (z := z) (σ := s7) ((congrFun (hP7.2.2 _ (by omega)) 20).trans hc)).get _) (pk_in i7 _ (by omega)) (by rw [nI_clamp (by omega)]; exact (congrArg Value.int (congrFun (hP7.2.2 _ (by omega)) i7))) ?_
      refine sw_iconst (x := (-1)) O (xx_dt dd_X10_payments 15 rfl) (by decide) ?_
      refine sw_icmp_ne (tgt := 34) O (xx_dt dd_X10_payments 16 rfl) (by decide) (fun q2 => ?_) (fun q2 => ?_)
      · refine sw_aload_n O (xx_dt dd_X10_payments 18 rfl) rfl ?_
        refine sw_iload_n O (xx_dt dd_X10_payments 19 rfl) rfl ?_
        refine sw_iload_n O (xx_dt dd_X10_payments 20 rfl) rfl ?_
        refine sw_if_ne (tgt := 48) O (xx_dt dd_X10_payments 21 rfl) (by decide) (fun q3 => ?_) (fun q3 => ?_)
        · refine sw_aload_n O (xx_dt dd_X10_payments 26 rfl) rfl ?_
          refine sw_aload_n O (xx_dt dd_X10_payments 27 rfl) rfl ?_
          have hq50 := pow_le6 hB6
          refine sw_callVx (as := []) (st := [.ref 9000, .int (nI i7), .ref qa]) (st2 := [.int (nI (2 ^ B - 1)), .ref 9000, .int (nI i7), .ref qa]) O (ct_X10_all hl (z := z) (σ := s7) hbs ((congrFun (hP7.2.2 _ (by omega)) 20).trans hc) (B := B) ((congrFun (hP7.2.2 _ (by omega)) 900).trans hB) (by omega)) ce_X10_all ml_X10_110 iv_X10_all cl_X10 rfl (lm_9000 (σ := s7) (fl1 ((congrFun (hP7.2.2 _ (by omega)) 20).trans hc))) (xx_dt dd_X10_payments 28 rfl) (by decide) rfl rfl (Nat.le_of_ble_eq_true rfl) rfl ?_
          refine sw_iconst (x := 1) O (xx_dt dd_X10_payments 29 rfl) (by decide) ?_
          refine sw_iload_n O (xx_dt dd_X10_payments 30 rfl) rfl ?_
          refine sw_ishl O (xx_dt dd_X10_payments 31 rfl) ?_
          refine sw_iconst (x := (-1)) O (xx_dt dd_X10_payments 32 rfl) (by decide) ?_
          refine sw_ixor O (xx_dt dd_X10_payments 33 rfl) ?_
          refine sw_iand O (xx_dt dd_X10_payments 34 rfl) ?_
          have hx58 := bclr_lt (S := 2 ^ B - 1) (k := i7) (by omega)
          rw [bclr_eq (S := 2 ^ B - 1) (k := i7) (by omega) (by omega)]
          refine sw_callVx (as := [.int (nI (bclr (2 ^ B - 1) i7))]) (st := [.int (nI i7), .ref qa]) (st2 := [.int (f_Cworth s7 (bclr (2 ^ B - 1) i7)), .int (nI i7), .ref qa]) O (ct_X10_worth hl (z := z) (σ := s7) hbs ((congrFun (hP7.2.2 _ (by omega)) 20).trans hc) (S := bclr (2 ^ B - 1) i7) (by first | omega | assumption)) ce_X10_worth ml_X10_106 iv_X10_worth cl_X10 rfl (lm_9000 (σ := s7) (fl1 ((congrFun (hP7.2.2 _ (by omega)) 20).trans hc))) (xx_dt dd_X10_payments 35 rfl) (by decide) rfl rfl (Nat.le_of_ble_eq_true rfl) rfl ?_
          refine sw_aload_n O (xx_dt dd_X10_payments 36 rfl) rfl ?_
          refine sw_aload_n O (xx_dt dd_X10_payments 37 rfl) rfl ?_
          have hq64 := pow_le6 hB6
          refine sw_callVx (as := []) (st := [.ref 9000, .int (f_Cworth s7 (bclr (2 ^ B - 1) i7)), .int (nI i7), .ref qa]) (st2 := [.int (nI (2 ^ B - 1)), .ref 9000, .int (f_Cworth s7 (bclr (2 ^ B - 1) i7)), .int (nI i7), .ref qa]) O (ct_X10_all hl (z := z) (σ := s7) hbs ((congrFun (hP7.2.2 _ (by omega)) 20).trans hc) (B := B) ((congrFun (hP7.2.2 _ (by omega)) 900).trans hB) (by omega)) ce_X10_all ml_X10_110 iv_X10_all cl_X10 rfl (lm_9000 (σ := s7) (fl1 ((congrFun (hP7.2.2 _ (by omega)) 20).trans hc))) (xx_dt dd_X10_payments 38 rfl) (by decide) rfl rfl (Nat.le_of_ble_eq_true rfl) rfl ?_
          refine sw_callVx (as := [.int (nI (2 ^ B - 1))]) (st := [.int (f_Cworth s7 (bclr (2 ^ B - 1) i7)), .int (nI i7), .ref qa]) (st2 := [.int (f_Cworth s7 (2 ^ B - 1)), .int (f_Cworth s7 (bclr (2 ^ B - 1) i7)), .int (nI i7), .ref qa]) O (ct_X10_worth hl (z := z) (σ := s7) hbs ((congrFun (hP7.2.2 _ (by omega)) 20).trans hc) (S := 2 ^ B - 1) (by first | omega | assumption)) ce_X10_worth ml_X10_106 iv_X10_worth cl_X10 rfl (lm_9000 (σ := s7) (fl1 ((congrFun (hP7.2.2 _ (by omega)) 20).trans hc))) (xx_dt dd_X10_payments 39 rfl) (by decide) rfl rfl (Nat.le_of_ble_eq_true rfl) rfl ?_
          refine sw_aload_n O (xx_dt dd_X10_payments 40 rfl) rfl ?_
          refine sw_iload_n O (xx_dt dd_X10_payments 41 rfl) rfl ?_
          refine sw_callVx (as := [.int (nI i7)]) (st := [.int (f_Cworth s7 (2 ^ B - 1)), .int (f_Cworth s7 (bclr (2 ^ B - 1) i7)), .int (nI i7), .ref qa]) (st2 := [.int (f_Camount s7 i7), .int (f_Cworth s7 (2 ^ B - 1)), .int (f_Cworth s7 (bclr (2 ^ B - 1) i7)), .int (nI i7), .ref qa]) O (ct_X10_amount hl (z := z) (σ := s7) hbs ((congrFun (hP7.2.2 _ (by omega)) 20).trans hc) (B := B) ((congrFun (hP7.2.2 _ (by omega)) 900).trans hB) (by omega) (pk := pk) (fun j9 hj9 => by rw [show s7 (5030 + j9) 900 = σ (5030 + j9) 900 from (congrFun (hP7.2.2 _ (by omega)) 900)]; exact hpk j9 hj9) (fun j9 hj9 => by rw [show s7 9001 = σ 9001 from (hP7.2.2 _ (by omega))]; exact hpi j9 hj9) (i := i7) (by omega)) ce_X10_amount ml_X10_109 iv_X10_amount cl_X10 rfl (lm_9000 (σ := s7) (fl1 ((congrFun (hP7.2.2 _ (by omega)) 20).trans hc))) (xx_dt dd_X10_payments 42 rfl) (by decide) rfl rfl (Nat.le_of_ble_eq_true rfl) rfl ?_
          refine sw_isub O (xx_dt dd_X10_payments 43 rfl) ?_
          refine sw_isub O (xx_dt dd_X10_payments 44 rfl) ?_
          refine sw_iastore (h2 := setM z (u2 s7 qa i7 ((f_Cworth s7 (bclr (2 ^ B - 1) i7)) - ((f_Cworth s7 (2 ^ B - 1)) - (f_Camount s7 i7)))) h) O (xx_dt dd_X10_payments 45 rfl) ((lm_tmp (z := z) (σ := s7) (h := h) (q := qa) (by omega) (fl1 hP7.1) hP7.2.1 (by omega)).get _) (pk_in i7 _ (by omega)) (by omega) (by rw [nI_clamp (by omega)]; exact ((lm_tmp (z := z) (σ := s7) (h := h) (q := qa) (by omega) (fl1 hP7.1) hP7.2.1 (by omega)).put (by omega))) ?_
          refine sw_iinc (y := nI (i7 + 1)) (ls2 := [.ref 9000, .int 2, .ref qa, .int (nI (i7 + 1)), xx_d]) O (xx_dt dd_X10_payments 46 rfl) rfl (nI_1 _) (by decide) rfl ?_
          refine sw_goto (tgt := 7) O (xx_dt dd_X10_payments 47 rfl) (by decide) ?_
          simp only [if_neg q2] at kk7
          exact kk7
        · exact absurd q3 (by decide)
      · refine sw_goto (tgt := 78) O (xx_dt dd_X10_payments 17 rfl) (by decide) ?_
        refine sw_iinc (y := nI (i7 + 1)) (ls2 := [.ref 9000, .int 2, .ref qa, .int (nI (i7 + 1)), xx_d]) O (xx_dt dd_X10_payments 46 rfl) rfl (nI_1 _) (by decide) rfl ?_
        refine sw_goto (tgt := 7) O (xx_dt dd_X10_payments 47 rfl) (by decide) ?_
        simp only [if_pos q2] at kk7
        exact kk7
  · show SW Y _ _ (setM z (x_Cpay2_7 σ qa B (uR σ qa (rowN 6))) h) 7 [.ref 9000, .int 2, .ref qa, .int (nI B), xx_d] []
    have hP7 : (x_Cpay2_7 σ qa B (uR σ qa (rowN 6))) qa 20 = nI 1 ∧ (x_Cpay2_7 σ qa B (uR σ qa (rowN 6))) qa 21 = nI 6 ∧ (∀ q9, q9 ≠ qa → (x_Cpay2_7 σ qa B (uR σ qa (rowN 6))) q9 = σ q9) := hP7
    refine sw_iload_n O (xx_dt dd_X10_payments 5 rfl) rfl ?_
    refine sw_aload_n O (xx_dt dd_X10_payments 6 rfl) rfl ?_
    refine sw_get (v := .ref 5000) O (xx_dt dd_X10_payments 7 rfl) cl_X10 fl_X10_3 (lm_9000 (σ := (x_Cpay2_7 σ qa B (uR σ qa (rowN 6)))) (fl1 ((congrFun (hP7.2.2 _ (by omega)) 20).trans hc))) (by decide) rfl ?_
    refine sw_get (v := .ref 5002) O (xx_dt dd_X10_payments 8 rfl) cl_X14 fl_X10_67 (lm_mod (σ := (x_Cpay2_7 σ qa B (uR σ qa (rowN 6))))) (by decide) rfl ?_
    refine sw_callVL (ci := 6) (as := []) (st := [.int (nI B)]) (st2 := [.int (nI B), .int (nI B)]) O (ct_AL_size hl (lm_5002 (σ := (x_Cpay2_7 σ qa B (uR σ qa (rowN 6)))) (B := B) ((congrFun (hP7.2.2 _ (by omega)) 900).trans hB) (by omega))) ce_Jx4a65c_size_8abf5 ml_X10_39 iv_Jx4a65c_size_8abf5 cl_Jx4a65c rfl (lm_5002 (σ := (x_Cpay2_7 σ qa B (uR σ qa (rowN 6)))) (B := B) ((congrFun (hP7.2.2 _ (by omega)) 900).trans hB) (by omega)) (xx_dt dd_X10_payments 9 rfl) (by decide) rfl rfl (Nat.le_of_ble_eq_true rfl) rfl ?_
    refine sw_icmp_ge (tgt := 84) O (xx_dt dd_X10_payments 10 rfl) (by decide) (fun q1 => ?_) (fun q1 => ?_)
    · refine sw_dum (ls2 := [.ref 9000, .int 2, .ref qa, xx_d, xx_d]) ⟨.inr rfl, .inr rfl, .inr rfl, .inl rfl, .inl rfl, trivial⟩ ?_
      have hP7x := hP7
      refine sw_forR (S := XS9) (R := XS9) (p2_step qa B) (fun i s => (∀ q9, q9 ≠ qa → s q9 = σ q9) ∧ s qa 20 = nI 1 ∧ s qa 21 = nI 6 ∧ xitR (p2_step qa B) (20000000 - i) i s = .inr rT) (FR := fun r => g_Cpay2 σ qa B = r) (hp := fun s => setM z s h) (hd := 84) (lc := fun _ _ => [.ref 9000, .int 2, .ref qa, xx_d, xx_d]) (N := 20000000) (fun i84 s hi84 hP84 => ⟨?_, fun kk84 kr84 => ?_⟩) 20000000 0 ((x_Cpay2_7 σ qa B (uR σ qa (rowN 6)))) (by omega) ⟨hP7.2.2, hP7.1, hP7.2.1, hrT⟩ (fun s' e84 hP84 => absurd hP84.2.2.2 (by rw [Nat.sub_self]; intro e; cases e)) (fun r e84 => by unfold g_Cpay2; rw [show xitR (p2_step qa B) 20000000 0 (g_Cpay20 σ qa B) = .inr r from e84])
      · intro s' e84
        obtain ⟨a1, a2, a3, a4⟩ := hP84
        rw [show 20000000 - i84 = (20000000 - (i84 + 1)) + 1 by omega] at a4
        unfold xitR at a4
        rw [e84] at a4
        refine ⟨?_, ?_, ?_, a4⟩ <;> (unfold p2_step at e84; revert e84; (try dsimp only); split <;> intro e84 <;> first | (cases e84; done) | (have e9 := Sum.inl.inj e84; subst e9; have hn := pos_nat (Int32.not_le.mpr (by assumption)); have H := raise_out (σ := s) (S := (x_Cpay2_94 s qa B 0)) (x := cn (f_Cobjection s (x_Cpay2_94 s qa B 0) qa B)) (qa := qa) (B := B) hB6 hn.2 a2 a3; first | exact H.1 | exact H.2.1 | exact fun q9 hq9 => (H.2.2 q9 hq9).trans (a1 q9 hq9)))
      · refine sw_iload_n O (xx_dt dd_X10_payments 48 rfl) rfl ?_
        refine sw_iconst (x := 2) O (xx_dt dd_X10_payments 49 rfl) (by decide) ?_
        refine sw_icmp_ne (tgt := 155) O (xx_dt dd_X10_payments 50 rfl) (by decide) (fun q4 => ?_) (fun q4 => ?_)
        · exact absurd q4 (by decide)
        · refine sw_iconst (x := 0) O (xx_dt dd_X10_payments 51 rfl) (by decide) ?_
          refine sw_istore_n (ls2 := [.ref 9000, .int 2, .ref qa, .int 0, xx_d]) O (xx_dt dd_X10_payments 52 rfl) (by decide) rfl ?_
          refine sw_iconst (x := 1) O (xx_dt dd_X10_payments 53 rfl) (by decide) ?_
          refine sw_istore (ls2 := [.ref 9000, .int 2, .ref qa, .int 0, .int 1]) O (xx_dt dd_X10_payments 54 rfl) (by decide) rfl ?_
          refine sw_for (S := Nat) (fun i94 s94 => (if (f_Cobjection s (1 + i94) qa B) ≤ (f_Cobjection s s94 qa B) then s94 else 1 + i94)) (fun _ s94 => s94 < 64) (hp := fun _ => setM z s h) (hd := 94) (lc := fun i94 s94 => [.ref 9000, .int 2, .ref qa, .int (nI s94), .int (nI (1 + i94))]) (N := (2 ^ B - 1)) (fun i94 s94 hi94 hP94 => ⟨(by (try dsimp only); (repeat' split) <;> (first | exact hP94 | exact (by have h9 := pow_le6 hB6; omega) | exact hi94 | exact .inl rfl | exact .inr rfl | (simp (disch := omega) only [u2_ne, uR_ne, fr_fill]; first | exact hP94 | exact (by have h9 := pow_le6 hB6; omega)))), fun kk94 => ?_⟩) (2 ^ B - 1) 0 0 (by omega) ((by omega)) (fun hP94 => ?_)
          · refine sw_iload O (xx_dt dd_X10_payments 55 rfl) rfl ?_
            refine sw_aload_n O (xx_dt dd_X10_payments 56 rfl) rfl ?_
            have hq97 := pow_le6 hB6
            refine sw_callVx (as := []) (st := [.int (nI (1 + i94))]) (st2 := [.int (nI (2 ^ B - 1)), .int (nI (1 + i94))]) O (ct_X10_all hl (z := z) (σ := s) hbs ((congrFun (hP84.1 _ (by omega)) 20).trans hc) (B := B) ((congrFun (hP84.1 _ (by omega)) 900).trans hB) (by omega)) ce_X10_all ml_X10_110 iv_X10_all cl_X10 rfl (lm_9000 (σ := s) (fl1 ((congrFun (hP84.1 _ (by omega)) 20).trans hc))) (xx_dt dd_X10_payments 57 rfl) (by decide) rfl rfl (Nat.le_of_ble_eq_true rfl) rfl ?_
            refine sw_icmp_gt (tgt := 128) O (xx_dt dd_X10_payments 58 rfl) (by decide) (fun q5 => ?_) (fun q5 => ?_)
            · exact absurd ((nI_ltI (a := (2 ^ B - 1)) (b := 1 + i94) (by omega) (by omega)).mp q5) (by omega)
            · refine sw_aload_n O (xx_dt dd_X10_payments 59 rfl) rfl ?_
              refine sw_iload O (xx_dt dd_X10_payments 60 rfl) rfl ?_
              refine sw_aload_n O (xx_dt dd_X10_payments 61 rfl) rfl ?_
              refine sw_callVx (as := [.int (nI (1 + i94)), .ref qa]) (st := []) (st2 := [.int (f_Cobjection s (1 + i94) qa B)]) O (ct_X10_objection hl (z := z) (σ := s) hbs ((congrFun (hP84.1 _ (by omega)) 20).trans hc) (B := B) ((congrFun (hP84.1 _ (by omega)) 900).trans hB) (by omega) (pk := pk) (fun j9 hj9 => by rw [show s (5030 + j9) 900 = σ (5030 + j9) 900 from (congrFun (hP84.1 _ (by omega)) 900)]; exact hpk j9 hj9) (fun j9 hj9 => by rw [show s 9001 = σ 9001 from (hP84.1 _ (by omega))]; exact hpi j9 hj9) (qa := qa) (by omega) hP84.2.1 hP84.2.2.1 (S := 1 + i94) (by omega)) ce_X10_objection ml_X10_113 iv_X10_objection cl_X10 rfl (lm_9000 (σ := s) (fl1 ((congrFun (hP84.1 _ (by omega)) 20).trans hc))) (xx_dt dd_X10_payments 62 rfl) (by decide) rfl rfl (Nat.le_of_ble_eq_true rfl) rfl ?_
              refine sw_aload_n O (xx_dt dd_X10_payments 63 rfl) rfl ?_
              refine sw_iload_n O (xx_dt dd_X10_payments 64 rfl) rfl ?_
              refine sw_aload_n O (xx_dt dd_X10_payments 65 rfl) rfl ?_
              refine sw_callVx (as := [.int (nI s94), .ref qa]) (st := [.int (f_Cobjection s (1 + i94) qa B)]) (st2 := [.int (f_Cobjection s s94 qa B), .int (f_Cobjection s (1 + i94) qa B)]) O (ct_X10_objection hl (z := z) (σ := s) hbs ((congrFun (hP84.1 _ (by omega)) 20).trans hc) (B := B) ((congrFun (hP84.1 _ (by omega)) 900).trans hB) (by omega) (pk := pk) (fun j9 hj9 => by rw [show s (5030 + j9) 900 = σ (5030 + j9) 900 from (congrFun (hP84.1 _ (by omega)) 900)]; exact hpk j9 hj9) (fun j9 hj9 => by rw [show s 9001 = σ 9001 from (hP84.1 _ (by omega))]; exact hpi j9 hj9) (qa := qa) (by omega) hP84.2.1 hP84.2.2.1 (S := s94) (by omega)) ce_X10_objection ml_X10_113 iv_X10_objection cl_X10 rfl (lm_9000 (σ := s) (fl1 ((congrFun (hP84.1 _ (by omega)) 20).trans hc))) (xx_dt dd_X10_payments 66 rfl) (by decide) rfl rfl (Nat.le_of_ble_eq_true rfl) rfl ?_
              refine sw_icmp_le (tgt := 122) O (xx_dt dd_X10_payments 67 rfl) (by decide) (fun q6 => ?_) (fun q6 => ?_)
              · refine sw_iinc (y := nI (1 + i94 + 1)) (ls2 := [.ref 9000, .int 2, .ref qa, .int (nI s94), .int (nI (1 + i94 + 1))]) O (xx_dt dd_X10_payments 70 rfl) rfl (nI_1 _) (by decide) rfl ?_
                refine sw_goto (tgt := 94) O (xx_dt dd_X10_payments 71 rfl) (by decide) ?_
                simp only [if_pos q6] at kk94
                exact kk94
              · refine sw_iload O (xx_dt dd_X10_payments 68 rfl) rfl ?_
                refine sw_istore_n (ls2 := [.ref 9000, .int 2, .ref qa, .int (nI (1 + i94)), .int (nI (1 + i94))]) O (xx_dt dd_X10_payments 69 rfl) (by decide) rfl ?_
                refine sw_iinc (y := nI (1 + i94 + 1)) (ls2 := [.ref 9000, .int 2, .ref qa, .int (nI (1 + i94)), .int (nI (1 + i94 + 1))]) O (xx_dt dd_X10_payments 70 rfl) rfl (nI_1 _) (by decide) rfl ?_
                refine sw_goto (tgt := 94) O (xx_dt dd_X10_payments 71 rfl) (by decide) ?_
                simp only [if_neg q6] at kk94
                exact kk94
          · show SW Y _ _ (setM z s h) 94 [.ref 9000, .int 2, .ref qa, .int (nI ((x_Cpay2_94 s qa B 0))), .int (nI (1 + (2 ^ B - 1)))] []
            have hP94 : (x_Cpay2_94 s qa B 0) < 64 := hP94
            refine sw_iload O (xx_dt dd_X10_payments 55 rfl) rfl ?_
            refine sw_aload_n O (xx_dt dd_X10_payments 56 rfl) rfl ?_
            have hq97 := pow_le6 hB6
            refine sw_callVx (as := []) (st := [.int (nI (1 + (2 ^ B - 1)))]) (st2 := [.int (nI (2 ^ B - 1)), .int (nI (1 + (2 ^ B - 1)))]) O (ct_X10_all hl (z := z) (σ := s) hbs ((congrFun (hP84.1 _ (by omega)) 20).trans hc) (B := B) ((congrFun (hP84.1 _ (by omega)) 900).trans hB) (by omega)) ce_X10_all ml_X10_110 iv_X10_all cl_X10 rfl (lm_9000 (σ := s) (fl1 ((congrFun (hP84.1 _ (by omega)) 20).trans hc))) (xx_dt dd_X10_payments 57 rfl) (by decide) rfl rfl (Nat.le_of_ble_eq_true rfl) rfl ?_
            refine sw_icmp_gt (tgt := 128) O (xx_dt dd_X10_payments 58 rfl) (by decide) (fun q5 => ?_) (fun q5 => ?_)
            · refine sw_aload_n O (xx_dt dd_X10_payments 72 rfl) rfl ?_
              refine sw_iload_n O (xx_dt dd_X10_payments 73 rfl) rfl ?_
              refine sw_aload_n O (xx_dt dd_X10_payments 74 rfl) rfl ?_
              refine sw_callVx (as := [.int (nI ((x_Cpay2_94 s qa B 0))), .ref qa]) (st := []) (st2 := [.int (f_Cobjection s (x_Cpay2_94 s qa B 0) qa B)]) O (ct_X10_objection hl (z := z) (σ := s) hbs ((congrFun (hP84.1 _ (by omega)) 20).trans hc) (B := B) ((congrFun (hP84.1 _ (by omega)) 900).trans hB) (by omega) (pk := pk) (fun j9 hj9 => by rw [show s (5030 + j9) 900 = σ (5030 + j9) 900 from (congrFun (hP84.1 _ (by omega)) 900)]; exact hpk j9 hj9) (fun j9 hj9 => by rw [show s 9001 = σ 9001 from (hP84.1 _ (by omega))]; exact hpi j9 hj9) (qa := qa) (by omega) hP84.2.1 hP84.2.2.1 (S := (x_Cpay2_94 s qa B 0)) (by omega)) ce_X10_objection ml_X10_113 iv_X10_objection cl_X10 rfl (lm_9000 (σ := s) (fl1 ((congrFun (hP84.1 _ (by omega)) 20).trans hc))) (xx_dt dd_X10_payments 75 rfl) (by decide) rfl rfl (Nat.le_of_ble_eq_true rfl) rfl ?_
              refine sw_istore (ls2 := [.ref 9000, .int 2, .ref qa, .int (nI ((x_Cpay2_94 s qa B 0))), .int (f_Cobjection s (x_Cpay2_94 s qa B 0) qa B)]) O (xx_dt dd_X10_payments 76 rfl) (by decide) rfl ?_
              refine sw_iload O (xx_dt dd_X10_payments 77 rfl) rfl ?_
              refine sw_if_gt (tgt := 144) O (xx_dt dd_X10_payments 78 rfl) (by decide) (fun q7 => ?_) (fun q7 => ?_)
              · have hc138 := (pos_nat (Int32.not_le.mpr q7))
                refine sw_lsE (ls2 := [.ref 9000, .int 2, .ref qa, .int (nI ((x_Cpay2_94 s qa B 0))), .int (nI (cn (f_Cobjection s (x_Cpay2_94 s qa B 0) qa B)))]) (by rw [← hc138.1]) ?_
                have hd138 := hc138.2
                refine sw_aload_n O (xx_dt dd_X10_payments 80 rfl) rfl ?_
                refine sw_iload_n O (xx_dt dd_X10_payments 81 rfl) rfl ?_
                refine sw_iload O (xx_dt dd_X10_payments 82 rfl) rfl ?_
                refine sw_aload_n O (xx_dt dd_X10_payments 83 rfl) rfl ?_
                refine sw_callVx (as := [.int (nI ((x_Cpay2_94 s qa B 0))), .int (nI (cn (f_Cobjection s (x_Cpay2_94 s qa B 0) qa B))), .ref qa]) (st := []) (st2 := []) O (ct_X10_raise hl (z := z) (σ := s) hbs ((congrFun (hP84.1 _ (by omega)) 20).trans hc) (B := B) ((congrFun (hP84.1 _ (by omega)) 900).trans hB) (by omega) (pk := pk) (fun j9 hj9 => by rw [show s (5030 + j9) 900 = σ (5030 + j9) 900 from (congrFun (hP84.1 _ (by omega)) 900)]; exact hpk j9 hj9) (fun j9 hj9 => by rw [show s 9001 = σ 9001 from (hP84.1 _ (by omega))]; exact hpi j9 hj9) (qa := qa) (by omega) hP84.2.1 hP84.2.2.1 (S := (x_Cpay2_94 s qa B 0)) (x := cn (f_Cobjection s (x_Cpay2_94 s qa B 0) qa B)) (by omega) (by omega)) ce_X10_raise ml_X10_117 iv_X10_raise cl_X10 rfl (lm_9000 (σ := s) (fl1 ((congrFun (hP84.1 _ (by omega)) 20).trans hc))) (xx_dt dd_X10_payments 84 rfl) (by decide) rfl rfl (Nat.le_of_ble_eq_true rfl) rfl ?_
                refine sw_goto (tgt := 84) O (xx_dt dd_X10_payments 85 rfl) (by decide) ?_
                refine sw_dum (ls2 := [.ref 9000, .int 2, .ref qa, xx_d, xx_d]) ⟨.inr rfl, .inr rfl, .inr rfl, .inl rfl, .inl rfl, trivial⟩ ?_
                exact kk84 _ (by unfold p2_step; simp only [if_pos q7])
              · refine sw_goto (tgt := 155) O (xx_dt dd_X10_payments 79 rfl) (by decide) ?_
                have kz := kr84 s (by unfold p2_step; simp only [if_neg q7])
                refine sw_aload_n O (xx_dt dd_X10_payments 86 rfl) rfl ?_
                exact sw_aret O (xx_dt dd_X10_payments 87 rfl) rfl (.inr ⟨_, rfl⟩) (by rw [hQ, kz]; exact ⟨rfl, rfl⟩)
            · exact absurd (nI_lt (a := (2 ^ B - 1)) (b := 1 + (2 ^ B - 1)) (by omega) (by omega)) q5
    · exact absurd (Int32.le_refl _) q1
end
section
/-! ===== the reference's choice: all are gone through ===== -/
theorem fr_Ctake {σ : XS9} {j c : Nat} {x : Int32} {gr q : Nat} (h : q ≠ 9004 ∧ q ≠ 9005) : g_Ctake σ j c x gr q = σ q := by
  unfold g_Ctake x_Ctake_6
  exact xitB_keep (fun s : XS9 × Nat => s.1 q) (fun i s s' e => by
    revert e
    (try dsimp only)
    split <;> intro e <;> rcases e with e | e <;> first | (cases e; done) | (injection e with e; subst e; first | rfl | simp (disch := omega) only [u2_ne])) _ _ _
def x_CpickBase_62 (σ : XS9) (S : Nat) (x : Int32) (B : Nat) (s0 : XS9) : XS9 := xit (fun i62 s62 => u2 s62 9001 (B + i62) (-1)) (6 - B) 0 s0
def g_CpickBase (σ : XS9) (S : Nat) (x : Int32) (B : Nat) : XS9 := (if (σ 9000 5) < x then (x_CpickBase_62 σ S x B (uR (u2 (u2 σ 9003 S (if (σ 9003 S) < x then x else (σ 9003 S))) 9000 5 x) 9001 (va_cpy (σ 9002) (σ 9001) 0 0 6))) else u2 σ 9003 S (if (σ 9003 S) < x then x else (σ 9003 S)))
theorem ct_CpickBase {l : Launch} {h : XH} (hl : l.stackTraces = false) {z : Int64} {σ : XS9} (hbs : xx_bs h) (hc : σ 9000 20 = nI 1) {B : Nat} (hB : σ 5002 900 = nI B) (hB6 : B ≤ 6) {S : Nat} {x : Int32} (hS : S < 64) : XEx l m_X10_pick 6 0 0 [.ref 9000, .int (nI B), .int (nI S), .int x] (setM z σ h) (none) (setM z (g_CpickBase σ S x B) h) := by
  refine XMet.of hl rfl rfl (Nat.le_of_ble_eq_true rfl) (fun Y O hh hQ => ?_)
  show SW Y 0 0 (setM z σ h) 0 [.ref 9000, .int (nI B), .int (nI S), .int x, xx_d, xx_d] []
  refine sw_iload_n O (xx_dt dd_X10_pick 0 rfl) rfl ?_
  refine sw_aload_n O (xx_dt dd_X10_pick 1 rfl) rfl ?_
  refine sw_get (v := .ref 5000) O (xx_dt dd_X10_pick 2 rfl) cl_X10 fl_X10_3 (lm_9000 (σ := σ) (fl1 hc)) (by decide) rfl ?_
  refine sw_get (v := .ref 5002) O (xx_dt dd_X10_pick 3 rfl) cl_X14 fl_X10_67 (lm_mod (σ := σ)) (by decide) rfl ?_
  refine sw_callVL (ci := 6) (as := []) (st := [.int (nI B)]) (st2 := [.int (nI B), .int (nI B)]) O (ct_AL_size hl (lm_5002 (σ := σ) (B := B) hB (by omega))) ce_Jx4a65c_size_8abf5 ml_X10_39 iv_Jx4a65c_size_8abf5 cl_Jx4a65c rfl (lm_5002 (σ := σ) (B := B) hB (by omega)) (xx_dt dd_X10_pick 4 rfl) (by decide) rfl rfl (Nat.le_of_ble_eq_true rfl) rfl ?_
  refine sw_icmp_ne (tgt := 84) O (xx_dt dd_X10_pick 5 rfl) (by decide) (fun q1 => ?_) (fun q1 => ?_)
  · exact absurd q1 (fun e => e rfl)
  · refine sw_aload_n O (xx_dt dd_X10_pick 6 rfl) rfl ?_
    refine sw_get (v := .ref 9003) O (xx_dt dd_X10_pick 7 rfl) cl_X10 fl_X10_22 (lm_9000 (σ := σ) (fl1 hc)) (by decide) rfl ?_
    refine sw_iload_n O (xx_dt dd_X10_pick 8 rfl) rfl ?_
    refine sw_aload_n O (xx_dt dd_X10_pick 9 rfl) rfl ?_
    refine sw_get (v := .ref 9003) O (xx_dt dd_X10_pick 10 rfl) cl_X10 fl_X10_22 (lm_9000 (σ := σ) (fl1 hc)) (by decide) rfl ?_
    refine sw_iload_n O (xx_dt dd_X10_pick 11 rfl) rfl ?_
    refine sw_iaload (v := .int (σ 9003 S)) O (xx_dt dd_X10_pick 12 rfl) ((im_9003 (z := z) (σ := σ) hc).get _) (pk_in S _ (by omega)) (by rw [nI_clamp (by omega)]; try exact rfl) ?_
    refine sw_iload_n O (xx_dt dd_X10_pick 13 rfl) rfl ?_
    refine sw_max O mm_X10_61 (xx_dt dd_X10_pick 14 rfl) (by omega) (Nat.le_of_ble_eq_true rfl) ?_
    refine sw_iastore (h2 := setM z (u2 σ 9003 S (if (σ 9003 S) < x then x else (σ 9003 S))) h) O (xx_dt dd_X10_pick 15 rfl) ((im_9003 (z := z) (σ := σ) hc).get _) (pk_in S _ (by omega)) (by omega) (by rw [nI_clamp (by omega)]; exact ((im_9003 (z := z) (σ := σ) hc).put (by omega))) ?_
    refine sw_iload_n O (xx_dt dd_X10_pick 16 rfl) rfl ?_
    refine sw_aload_n O (xx_dt dd_X10_pick 17 rfl) rfl ?_
    refine sw_get (v := .int (σ 9000 5)) O (xx_dt dd_X10_pick 18 rfl) cl_X10 fl_X10_31 (lm_9000 (σ := u2 σ 9003 S (if (σ 9003 S) < x then x else (σ 9003 S))) (fl1 hc)) (by decide) rfl ?_
    refine sw_icmp_gt (tgt := 39) O (xx_dt dd_X10_pick 19 rfl) (by decide) (fun q2 => ?_) (fun q2 => ?_)
    · refine sw_aload_n O (xx_dt dd_X10_pick 21 rfl) rfl ?_
      refine sw_iload_n O (xx_dt dd_X10_pick 22 rfl) rfl ?_
      refine sw_put (h2 := setM z (u2 (u2 σ 9003 S (if (σ 9003 S) < x then x else (σ 9003 S))) 9000 5 x) h) O (xx_dt dd_X10_pick 23 rfl) cl_X10 fl_X10_31 (lm_9000 (σ := u2 σ 9003 S (if (σ 9003 S) < x then x else (σ 9003 S))) (fl1 hc)) (by decide) (by omega) rfl (fun _ => ⟨rfl, rfl⟩) (pm_cho (σ := u2 σ 9003 S (if (σ 9003 S) < x then x else (σ 9003 S))) hc) ?_
      refine sw_aload_n O (xx_dt dd_X10_pick 24 rfl) rfl ?_
      refine sw_get (v := .ref 9002) O (xx_dt dd_X10_pick 25 rfl) cl_X10 fl_X10_19 (lm_9000 (σ := u2 (u2 σ 9003 S (if (σ 9003 S) < x then x else (σ 9003 S))) 9000 5 x) (fl1 hc)) (by decide) rfl ?_
      refine sw_iconst (x := 0) O (xx_dt dd_X10_pick 26 rfl) (by decide) ?_
      refine sw_aload_n O (xx_dt dd_X10_pick 27 rfl) rfl ?_
      refine sw_get (v := .ref 9001) O (xx_dt dd_X10_pick 28 rfl) cl_X10 fl_X10_15 (lm_9000 (σ := u2 (u2 σ 9003 S (if (σ 9003 S) < x then x else (σ 9003 S))) 9000 5 x) (fl1 hc)) (by decide) rfl ?_
      refine sw_iconst (x := 0) O (xx_dt dd_X10_pick 29 rfl) (by decide) ?_
      refine sw_bipush (x := 6) O (xx_dt dd_X10_pick 30 rfl) (by decide) ?_
      refine sw_copy (h2' := setM z (uR (u2 (u2 σ 9003 S (if (σ 9003 S) < x then x else (σ 9003 S))) 9000 5 x) 9001 (va_cpy (σ 9002) (σ 9001) 0 0 6)) h) O ay_X10_70 (xx_dt dd_X10_pick 31 rfl) ((im_9002 (z := z) (σ := u2 (u2 σ 9003 S (if (σ 9003 S) < x then x else (σ 9003 S))) 9000 5 x) hc).getE rfl) ((im_9001 (z := z) (σ := u2 (u2 σ 9003 S (if (σ 9003 S) < x then x else (σ 9003 S))) 9000 5 x) hc).getE rfl) (by omega) (by decide) (by decide) (by decide) (by decide) (by decide) (by omega) (by decide +kernel) ((im_9001 (z := z) (σ := u2 (u2 σ 9003 S (if (σ 9003 S) < x then x else (σ 9003 S))) 9000 5 x) hc).putR (by omega)) ?_
      refine sw_iload_n O (xx_dt dd_X10_pick 32 rfl) rfl ?_
      refine sw_istore (ls2 := [.ref 9000, .int (nI B), .int (nI S), .int x, .int (nI B), xx_d]) O (xx_dt dd_X10_pick 33 rfl) (by decide) rfl ?_
      refine sw_for (S := XS9) (fun i62 s62 => u2 s62 9001 (B + i62) (-1)) (fun _ s62 => s62 9000 20 = nI 1) (hp := fun s62 => setM z s62 h) (hd := 62) (lc := fun i62 s62 => [.ref 9000, .int (nI B), .int (nI S), .int x, .int (nI (B + i62)), xx_d]) (N := (6 - B)) (fun i62 s62 hi62 hP62 => ⟨(by (try dsimp only); (repeat' split) <;> first | exact hP62 | (simp (disch := omega) only [u2_ne, uR_ne, fr_fill, fr_Ctake]; exact hP62)), fun kk62 => ?_⟩) (6 - B) 0 (uR (u2 (u2 σ 9003 S (if (σ 9003 S) < x then x else (σ 9003 S))) 9000 5 x) 9001 (va_cpy (σ 9002) (σ 9001) 0 0 6)) (by omega) ((show (uR (u2 (u2 σ 9003 S (if (σ 9003 S) < x then x else (σ 9003 S))) 9000 5 x) 9001 (va_cpy (σ 9002) (σ 9001) 0 0 6)) 9000 20 = nI 1 from hc)) (fun hP62 => ?_)
      · refine sw_iload O (xx_dt dd_X10_pick 34 rfl) rfl ?_
        refine sw_bipush (x := 6) O (xx_dt dd_X10_pick 35 rfl) (by decide) ?_
        refine sw_icmp_ge (tgt := 83) O (xx_dt dd_X10_pick 36 rfl) (by decide) (fun q3 => ?_) (fun q3 => ?_)
        · exact absurd q3 (nI_ge (a := B + i62) (b := 6) (by omega) (by omega))
        · refine sw_aload_n O (xx_dt dd_X10_pick 37 rfl) rfl ?_
          refine sw_get (v := .ref 9001) O (xx_dt dd_X10_pick 38 rfl) cl_X10 fl_X10_15 (lm_9000 (σ := s62) (fl1 hP62)) (by decide) rfl ?_
          refine sw_iload O (xx_dt dd_X10_pick 39 rfl) rfl ?_
          refine sw_iconst (x := (-1)) O (xx_dt dd_X10_pick 40 rfl) (by decide) ?_
          refine sw_iastore (h2 := setM z (u2 s62 9001 (B + i62) (-1)) h) O (xx_dt dd_X10_pick 41 rfl) ((im_9001 (z := z) (σ := s62) hP62).get _) (pk_in (B + i62) _ (by omega)) (by omega) (by rw [nI_clamp (by omega)]; exact ((im_9001 (z := z) (σ := s62) hP62).put (by omega))) ?_
          refine sw_iinc (y := nI (B + i62 + 1)) (ls2 := [.ref 9000, .int (nI B), .int (nI S), .int x, .int (nI (B + i62 + 1)), xx_d]) O (xx_dt dd_X10_pick 42 rfl) rfl (nI_1 _) (by decide) rfl ?_
          refine sw_goto (tgt := 62) O (xx_dt dd_X10_pick 43 rfl) (by decide) ?_
          exact kk62
      · show SW Y _ _ (setM z (x_CpickBase_62 σ S x B (uR (u2 (u2 σ 9003 S (if (σ 9003 S) < x then x else (σ 9003 S))) 9000 5 x) 9001 (va_cpy (σ 9002) (σ 9001) 0 0 6))) h) 62 [.ref 9000, .int (nI B), .int (nI S), .int x, .int (nI (B + (6 - B))), xx_d] []
        refine sw_iload O (xx_dt dd_X10_pick 34 rfl) rfl ?_
        refine sw_bipush (x := 6) O (xx_dt dd_X10_pick 35 rfl) (by decide) ?_
        refine sw_icmp_ge (tgt := 83) O (xx_dt dd_X10_pick 36 rfl) (by decide) (fun q3 => ?_) (fun q3 => ?_)
        · exact sw_ret O (xx_dt dd_X10_pick 44 rfl) rfl (by rw [hQ]; exact ⟨rfl, by unfold g_CpickBase; simp only [if_pos q2]⟩)
        · exact absurd ((nI_leI (a := 6) (b := B + (6 - B)) (by omega) (by omega)).mpr (by omega)) q3
    · exact sw_ret O (xx_dt dd_X10_pick 20 rfl) rfl (by rw [hQ]; exact ⟨rfl, by unfold g_CpickBase; simp only [if_neg q2]⟩)
theorem fr_CpickBase {σ : XS9} {S : Nat} {x : Int32} {B q : Nat} : ((q < 9000 ∨ 9005 < q) → g_CpickBase σ S x B q = σ q) ∧ g_CpickBase σ S x B 9000 20 = σ 9000 20 := by
  have H : ∀ s0 q, q ≠ 9001 → x_CpickBase_62 σ S x B s0 q = s0 q := fun s0 q e => xit_keep (fun s : XS9 => s q) (fun i s => by (try dsimp only); rw [u2_ne e]) _ _ _
  refine ⟨fun h => ?_, ?_⟩
  · unfold g_CpickBase
    (repeat' split) <;> first | rfl | simp (disch := omega) only [u2_ne, uR_ne, H]
  · unfold g_CpickBase
    (repeat' split) <;> first | rfl | (simp (disch := omega) only [u2_ne, uR_ne, H]; first | done | (rw [u2_oi (by decide)]; simp (disch := omega) only [u2_ne]))
def x_CpickStep_119 (σ : XS9) (g_rec : XS9 → Nat → Int32 → XS9) (i S : Nat) (x : Int32) (B : Nat) (pk gr : Nat → Nat) (cd : Nat → Nat → Nat) (s0 : XS9) : XS9 := xitB (fun i119 s119 => (if (σ (5020 + i) 4) = 0 then (if (f_CcanTake s119 i (cd i i119) (gr i)) = 0 then .inl s119 else .inl (g_Ctake (g_rec (u2 (g_Ctake s119 i (cd i i119) 1 (gr i)) 9002 i (nI i119)) (S ||| 2 ^ i) (x + (f_Bamount (u2 (g_Ctake s119 i (cd i i119) 1 (gr i)) 9002 i (nI i119)) i i119))) i (cd i i119) (-1) (gr i))) else .inr s119)) (pk i) 0 s0
def g_CpickStep (σ : XS9) (g_rec : XS9 → Nat → Int32 → XS9) (i S : Nat) (x : Int32) (B : Nat) (pk gr : Nat → Nat) (cd : Nat → Nat → Nat) : XS9 := (x_CpickStep_119 σ g_rec i S x B pk gr cd (g_rec (u2 σ 9002 i (-1)) S x))
theorem ct_CpickStep {l : Launch} {h : XH} (hl : l.stackTraces = false) {z : Int64} {σ : XS9} (hbs : xx_bs h) (hc : σ 9000 20 = nI 1) {B : Nat} (hB : σ 5002 900 = nI B) (hB6 : B ≤ 6) {pk : Nat → Nat} (hpk : ∀ j, j < B → σ (5030 + j) 900 = nI (2 * pk j) ∧ pk j ≤ 6) {gr : Nat → Nat} (hgr : ∀ j, j < B → σ (5020 + j) 3 = nI (gr j) ∧ gr j < 4) {cd : Nat → Nat → Nat} (hcd : ∀ j k, j < B → k < pk j → σ (5030 + j) (2 * k) = nI (cd j k) ∧ cd j k < 7776) {g_rec : XS9 → Nat → Int32 → XS9} (fr_rec : ∀ {σ : XS9} {S : Nat} {x : Int32} {q : Nat}, (q < 9000 ∨ 9005 < q) → g_rec σ S x q = σ q) (fr_rec20 : ∀ {σ : XS9} {S : Nat} {x : Int32}, g_rec σ S x 9000 20 = σ 9000 20) {i S : Nat} {x : Int32} (hi : i < B) (hS : S < 64) {d0 : Nat} (hd0 : 6 ≤ d0) (ih : ∀ (σ : XS9) (S : Nat) (y x : Int32), y = nI S → S < 64 → σ 9000 20 = nI 1 → σ 5002 900 = nI B → (∀ j, j < B → σ (5030 + j) 900 = nI (2 * pk j) ∧ pk j ≤ 6) → (∀ j, j < B → σ (5020 + j) 3 = nI (gr j) ∧ gr j < 4) → (∀ j k, j < B → k < pk j → σ (5030 + j) (2 * k) = nI (cd j k) ∧ cd j k < 7776) → XEx l m_X10_pick d0 0 0 [.ref 9000, .int (nI (i + 1)), .int y, .int x] (setM z σ h) none (setM z (g_rec σ S x) h)) : XEx l m_X10_pick (d0 + 1) 0 0 [.ref 9000, .int (nI i), .int (nI S), .int x] (setM z σ h) (none) (setM z (g_CpickStep σ g_rec i S x B pk gr cd) h) := by
  refine XMet.of hl rfl rfl (Nat.le_of_ble_eq_true rfl) (fun Y O hh hQ => ?_)
  show SW Y 0 0 (setM z σ h) 0 [.ref 9000, .int (nI i), .int (nI S), .int x, xx_d, xx_d] []
  refine sw_iload_n O (xx_dt dd_X10_pick 0 rfl) rfl ?_
  refine sw_aload_n O (xx_dt dd_X10_pick 1 rfl) rfl ?_
  refine sw_get (v := .ref 5000) O (xx_dt dd_X10_pick 2 rfl) cl_X10 fl_X10_3 (lm_9000 (σ := σ) (fl1 hc)) (by decide) rfl ?_
  refine sw_get (v := .ref 5002) O (xx_dt dd_X10_pick 3 rfl) cl_X14 fl_X10_67 (lm_mod (σ := σ)) (by decide) rfl ?_
  refine sw_callVL (ci := 6) (as := []) (st := [.int (nI i)]) (st2 := [.int (nI B), .int (nI i)]) O (ct_AL_size hl (lm_5002 (σ := σ) (B := B) hB (by omega))) ce_Jx4a65c_size_8abf5 ml_X10_39 iv_Jx4a65c_size_8abf5 cl_Jx4a65c rfl (lm_5002 (σ := σ) (B := B) hB (by omega)) (xx_dt dd_X10_pick 4 rfl) (by omega) rfl rfl (Nat.le_of_ble_eq_true rfl) rfl ?_
  refine sw_icmp_ne (tgt := 84) O (xx_dt dd_X10_pick 5 rfl) (by decide) (fun q1 => ?_) (fun q1 => ?_)
  · refine sw_aload_n O (xx_dt dd_X10_pick 45 rfl) rfl ?_
    refine sw_get (v := .ref 5000) O (xx_dt dd_X10_pick 46 rfl) cl_X10 fl_X10_3 (lm_9000 (σ := σ) (fl1 hc)) (by decide) rfl ?_
    refine sw_get (v := .ref 5002) O (xx_dt dd_X10_pick 47 rfl) cl_X14 fl_X10_67 (lm_mod (σ := σ)) (by decide) rfl ?_
    refine sw_iload_n O (xx_dt dd_X10_pick 48 rfl) rfl ?_
    refine sw_callVL (ci := 6) (as := [.int (nI i)]) (st := []) (st2 := [.ref (5020 + i)]) O (ct_get hl hbs (lm_5002 (σ := σ) (B := B) hB (by omega)) (by omega) (i := i) (x := 5020 + i) (by omega) (by omega) rfl) ce_Jx4a65c_get_915e3 ml_X10_45 iv_Jx4a65c_get_915e3 cl_Jx4a65c rfl (lm_5002 (σ := σ) (B := B) hB (by omega)) (xx_dt dd_X10_pick 49 rfl) (by omega) rfl rfl (Nat.le_of_ble_eq_true rfl) rfl ?_
    refine sw_castO O (xx_dt dd_X10_pick 50 rfl) cl_X9 (lm_bid (σ := σ) (B := B) hB (by omega) (j := i) (by omega)) cw_X10_76 ?_
    refine sw_astore (ls2 := [.ref 9000, .int (nI i), .int (nI S), .int x, .ref (5020 + i), xx_d]) O (xx_dt dd_X10_pick 51 rfl) (by decide) rfl ?_
    refine sw_aload_n O (xx_dt dd_X10_pick 52 rfl) rfl ?_
    refine sw_get (v := .ref 9002) O (xx_dt dd_X10_pick 53 rfl) cl_X10 fl_X10_19 (lm_9000 (σ := σ) (fl1 hc)) (by decide) rfl ?_
    refine sw_iload_n O (xx_dt dd_X10_pick 54 rfl) rfl ?_
    refine sw_iconst (x := (-1)) O (xx_dt dd_X10_pick 55 rfl) (by decide) ?_
    refine sw_iastore (h2 := setM z (u2 σ 9002 i (-1)) h) O (xx_dt dd_X10_pick 56 rfl) ((im_9002 (z := z) (σ := σ) hc).get _) (pk_in i _ (by omega)) (by omega) (by rw [nI_clamp (by omega)]; exact ((im_9002 (z := z) (σ := σ) hc).put (by omega))) ?_
    refine sw_aload_n O (xx_dt dd_X10_pick 57 rfl) rfl ?_
    refine sw_iload_n O (xx_dt dd_X10_pick 58 rfl) rfl ?_
    refine sw_iconst (x := 1) O (xx_dt dd_X10_pick 59 rfl) (by decide) ?_
    refine sw_iadd O (xx_dt dd_X10_pick 60 rfl) ?_
    rw [nI_a1 i]
    refine sw_iload_n O (xx_dt dd_X10_pick 61 rfl) rfl ?_
    refine sw_iload_n O (xx_dt dd_X10_pick 62 rfl) rfl ?_
    refine sw_callVx (as := [.int (nI (i + 1)), .int (nI S), .int x]) (st := []) (st2 := []) O (ih (u2 σ 9002 i (-1)) S (nI S) x rfl (by omega) hc hB (fun j9 hj9 => by rw [(u2_ne (by omega))]; exact hpk j9 hj9) (fun j9 hj9 => by rw [show (u2 σ 9002 i (-1)) (5020 + j9) 3 = σ (5020 + j9) 3 from (congrFun (u2_ne (by omega)) 3)]; exact hgr j9 hj9) (fun j9 k9 hj9 hk9 => by rw [(u2_ne (by omega))]; exact hcd j9 k9 hj9 hk9)) ce_X10_pick ml_X10_57 iv_X10_pick cl_X10 rfl (lm_9000 (σ := u2 σ 9002 i (-1)) (fl1 hc)) (xx_dt dd_X10_pick 63 rfl) (by omega) rfl rfl (Nat.le_of_ble_eq_true rfl) rfl ?_
    refine sw_iconst (x := 0) O (xx_dt dd_X10_pick 64 rfl) (by decide) ?_
    refine sw_istore (ls2 := [.ref 9000, .int (nI i), .int (nI S), .int x, .ref (5020 + i), .int 0]) O (xx_dt dd_X10_pick 65 rfl) (by decide) rfl ?_
    refine sw_forB (S := XS9) (fun i119 s119 => (if (σ (5020 + i) 4) = 0 then (if (f_CcanTake s119 i (cd i i119) (gr i)) = 0 then .inl s119 else .inl (g_Ctake (g_rec (u2 (g_Ctake s119 i (cd i i119) 1 (gr i)) 9002 i (nI i119)) (S ||| 2 ^ i) (x + (f_Bamount (u2 (g_Ctake s119 i (cd i i119) 1 (gr i)) 9002 i (nI i119)) i i119))) i (cd i i119) (-1) (gr i))) else .inr s119)) (fun _ s119 => s119 9000 20 = nI 1 ∧ (∀ q, (q < 9000 ∨ 9005 < q) → s119 q = σ q)) (fun s119 => s119 9000 20 = nI 1 ∧ (∀ q, (q < 9000 ∨ 9005 < q) → s119 q = σ q)) (hp := fun s119 => setM z s119 h) (hd := 119) (lc := fun i119 s119 => [.ref 9000, .int (nI i), .int (nI S), .int x, .ref (5020 + i), .int (nI i119)]) (ex := 219) (lx := fun s119 => [.ref 9000, .int (nI i), .int (nI S), .int x, .ref (5020 + i), xx_d]) (N := (pk i)) (fun i119 s119 hi119 hP119 => ⟨⟨(by intro s' e'; revert e'; (try dsimp only); (repeat' split) <;> intro e' <;> first | (cases e'; done) | (have e9 := Sum.inl.inj e'; subst e9; (refine ⟨?_, ?_⟩ <;> (first | exact hP119.1 | exact hP119.2 | exact (fun q9 hq9 => by simp (disch := omega) only [u2_ne, fr_rec, fr_Ctake]; exact hP119.2 q9 hq9) | exact (by simp (disch := omega) only [u2_ne, fr_rec20, fr_Ctake]; exact hP119.1) | exact hi119 | exact .inl rfl | exact .inr rfl | (simp (disch := omega) only [u2_ne, uR_ne, fr_fill, fr_Ctake]; first | exact hP119.1 | exact hP119.2 | exact (fun q9 hq9 => by simp (disch := omega) only [u2_ne, fr_rec, fr_Ctake]; exact hP119.2 q9 hq9) | exact (by simp (disch := omega) only [u2_ne, fr_rec20, fr_Ctake]; exact hP119.1))))) | (have e9 := Sum.inr.inj e'; subst e9; (refine ⟨?_, ?_⟩ <;> (first | exact hP119.1 | exact hP119.2 | exact (fun q9 hq9 => by simp (disch := omega) only [u2_ne, fr_rec, fr_Ctake]; exact hP119.2 q9 hq9) | exact (by simp (disch := omega) only [u2_ne, fr_rec20, fr_Ctake]; exact hP119.1) | exact hi119 | exact .inl rfl | exact .inr rfl | (simp (disch := omega) only [u2_ne, uR_ne, fr_fill, fr_Ctake]; first | exact hP119.1 | exact hP119.2 | exact (fun q9 hq9 => by simp (disch := omega) only [u2_ne, fr_rec, fr_Ctake]; exact hP119.2 q9 hq9) | exact (by simp (disch := omega) only [u2_ne, fr_rec20, fr_Ctake]; exact hP119.1)))))), (by intro s' e'; revert e'; (try dsimp only); (repeat' split) <;> intro e' <;> first | (cases e'; done) | (have e9 := Sum.inl.inj e'; subst e9; (refine ⟨?_, ?_⟩ <;> (first | exact hP119.1 | exact hP119.2 | exact (fun q9 hq9 => by simp (disch := omega) only [u2_ne, fr_rec, fr_Ctake]; exact hP119.2 q9 hq9) | exact (by simp (disch := omega) only [u2_ne, fr_rec20, fr_Ctake]; exact hP119.1) | exact hi119 | exact .inl rfl | exact .inr rfl | (simp (disch := omega) only [u2_ne, uR_ne, fr_fill, fr_Ctake]; first | exact hP119.1 | exact hP119.2 | exact (fun q9 hq9 => by simp (disch := omega) only [u2_ne, fr_rec, fr_Ctake]; exact hP119.2 q9 hq9) | exact (by simp (disch := omega) only [u2_ne, fr_rec20, fr_Ctake]; exact hP119.1))))) | (have e9 := Sum.inr.inj e'; subst e9; (refine ⟨?_, ?_⟩ <;> (first | exact hP119.1 | exact hP119.2 | exact (fun q9 hq9 => by simp (disch := omega) only [u2_ne, fr_rec, fr_Ctake]; exact hP119.2 q9 hq9) | exact (by simp (disch := omega) only [u2_ne, fr_rec20, fr_Ctake]; exact hP119.1) | exact hi119 | exact .inl rfl | exact .inr rfl | (simp (disch := omega) only [u2_ne, uR_ne, fr_fill, fr_Ctake]; first | exact hP119.1 | exact hP119.2 | exact (fun q9 hq9 => by simp (disch := omega) only [u2_ne, fr_rec, fr_Ctake]; exact hP119.2 q9 hq9) | exact (by simp (disch := omega) only [u2_ne, fr_rec20, fr_Ctake]; exact hP119.1))))))⟩, fun kk119 kb119 => ?_⟩) (fun s119 hP119 => ⟨hP119, fun kx119 => ?_⟩) (pk i) 0 (g_rec (u2 σ 9002 i (-1)) S x) (by omega) (⟨(show (g_rec (u2 σ 9002 i (-1)) S x) 9000 20 = nI 1 from ((fr_rec20).trans hc)), (fun q hq => by simp (disch := omega) only [u2_ne, fr_rec])⟩) (fun hP119 => ?_)
    · refine sw_iload O (xx_dt dd_X10_pick 66 rfl) rfl ?_
      refine sw_aload O (xx_dt dd_X10_pick 67 rfl) rfl ?_
      have hq123 := (hpk i (by omega)).2
      refine sw_callVx (as := []) (st := [.int (nI i119)]) (st2 := [.int (nI (pk i)), .int (nI i119)]) O ((show XEx _ _ _ _ _ _ _ (some (.int (nI (pk i)))) _ from ct_X9_many hl (z := z) (σ := s119) hbs (B := B) ((congrFun (hP119.2 _ (by omega)) 900).trans hB) (by omega) (j := i) (by omega) (p := pk i) ((congrFun (hP119.2 _ (by omega)) 900).trans (hpk i (by omega)).1) (by have h9 := (hpk i (by omega)).2; omega))) ce_X9_many ml_X10_78 iv_X9_many cl_X9 rfl (lm_bid (σ := s119) (B := B) ((congrFun (hP119.2 _ (by omega)) 900).trans hB) (by omega) (j := i) (by omega)) (xx_dt dd_X10_pick 68 rfl) (by omega) rfl rfl (Nat.le_of_ble_eq_true rfl) rfl ?_
      refine sw_icmp_ge (tgt := 219) O (xx_dt dd_X10_pick 69 rfl) (by decide) (fun q2 => ?_) (fun q2 => ?_)
      · exact absurd q2 (nI_ge (b := (pk i)) hi119 (by omega))
      · have hk6 := (hpk i hi).2
        refine sw_aload O (xx_dt dd_X10_pick 70 rfl) rfl ?_
        refine sw_get (v := .int (σ (5020 + i) 4)) O (xx_dt dd_X10_pick 71 rfl) cl_X9 fl_X10_81 (lm_bid (σ := s119) (B := B) ((congrFun (hP119.2 _ (by omega)) 900).trans hB) (by omega) (j := i) (by omega)) (by decide) (congrArg Value.int (congrFun (hP119.2 _ (by omega)) 4)) ?_
        refine sw_if_ne (tgt := 219) O (xx_dt dd_X10_pick 72 rfl) (by decide) (fun q3 => ?_) (fun q3 => ?_)
        · refine sw_dum (ls2 := [.ref 9000, .int (nI i), .int (nI S), .int x, .ref (5020 + i), xx_d]) ⟨.inr rfl, .inr rfl, .inr rfl, .inr rfl, .inr rfl, .inl rfl, trivial⟩ ?_
          exact kb119 s119 (by simp only [if_neg q3])
        · refine sw_aload_n O (xx_dt dd_X10_pick 73 rfl) rfl ?_
          refine sw_aload O (xx_dt dd_X10_pick 74 rfl) rfl ?_
          refine sw_aload O (xx_dt dd_X10_pick 75 rfl) rfl ?_
          refine sw_iload O (xx_dt dd_X10_pick 76 rfl) rfl ?_
          have hk144 := (hcd i i119 (by omega) (by first | assumption | omega)).2
          refine sw_callVx (as := [.int (nI i119)]) (st := [.ref (5020 + i), .ref 9000]) (st2 := [.int (nI (cd i i119)), .ref (5020 + i), .ref 9000]) O (ct_codeN hl (z := z) (σ := s119) hbs (B := B) ((congrFun (hP119.2 _ (by omega)) 900).trans hB) (by omega) (j := i) (by omega) (p := pk i) ((congrFun (hP119.2 _ (by omega)) 900).trans (hpk i (by omega)).1) (by have h9 := (hpk i (by omega)).2; omega) (k := i119) (by first | omega | (have h9 := (hpk i (by omega)).2; omega)) (c := cd i i119) ((congrFun (hP119.2 _ (by omega)) (2 * i119)).trans (hcd i i119 (by omega) (by first | assumption | omega)).1)) ce_X9_code ml_X10_85 iv_X9_code cl_X9 rfl (lm_bid (σ := s119) (B := B) ((congrFun (hP119.2 _ (by omega)) 900).trans hB) (by omega) (j := i) (by omega)) (xx_dt dd_X10_pick 77 rfl) (by omega) rfl rfl (Nat.le_of_ble_eq_true rfl) rfl ?_
          refine sw_callVx (as := [.ref (5020 + i), .int (nI (cd i i119))]) (st := []) (st2 := [.int (f_CcanTake s119 i (cd i i119) (gr i))]) O (ct_X10_canTake hl (z := z) (σ := s119) hbs hP119.1 (B := B) ((congrFun (hP119.2 _ (by omega)) 900).trans hB) (by omega) (j := i) (by omega) (gr := gr i) ((congrFun (hP119.2 _ (by omega)) 3).trans (hgr i (by omega)).1) (by have h9 := (hgr i (by omega)).2; omega) (c := cd i i119) (by omega)) ce_X10_canTake ml_X10_89 iv_X10_canTake cl_X10 rfl (lm_9000 (σ := s119) (fl1 hP119.1)) (xx_dt dd_X10_pick 78 rfl) (by omega) rfl rfl (Nat.le_of_ble_eq_true rfl) rfl ?_
          refine sw_if_ne (tgt := 156) O (xx_dt dd_X10_pick 79 rfl) (by decide) (fun q4 => ?_) (fun q4 => ?_)
          · refine sw_aload_n O (xx_dt dd_X10_pick 81 rfl) rfl ?_
            refine sw_aload O (xx_dt dd_X10_pick 82 rfl) rfl ?_
            refine sw_aload O (xx_dt dd_X10_pick 83 rfl) rfl ?_
            refine sw_iload O (xx_dt dd_X10_pick 84 rfl) rfl ?_
            have hk163 := (hcd i i119 (by omega) (by first | assumption | omega)).2
            refine sw_callVx (as := [.int (nI i119)]) (st := [.ref (5020 + i), .ref 9000]) (st2 := [.int (nI (cd i i119)), .ref (5020 + i), .ref 9000]) O (ct_codeN hl (z := z) (σ := s119) hbs (B := B) ((congrFun (hP119.2 _ (by omega)) 900).trans hB) (by omega) (j := i) (by omega) (p := pk i) ((congrFun (hP119.2 _ (by omega)) 900).trans (hpk i (by omega)).1) (by have h9 := (hpk i (by omega)).2; omega) (k := i119) (by first | omega | (have h9 := (hpk i (by omega)).2; omega)) (c := cd i i119) ((congrFun (hP119.2 _ (by omega)) (2 * i119)).trans (hcd i i119 (by omega) (by first | assumption | omega)).1)) ce_X9_code ml_X10_85 iv_X9_code cl_X9 rfl (lm_bid (σ := s119) (B := B) ((congrFun (hP119.2 _ (by omega)) 900).trans hB) (by omega) (j := i) (by omega)) (xx_dt dd_X10_pick 85 rfl) (by omega) rfl rfl (Nat.le_of_ble_eq_true rfl) rfl ?_
            refine sw_iconst (x := 1) O (xx_dt dd_X10_pick 86 rfl) (by decide) ?_
            refine sw_callVx (as := [.ref (5020 + i), .int (nI (cd i i119)), .int 1]) (st := []) (st2 := []) O (ct_X10_take hl (z := z) (σ := s119) hbs hP119.1 (B := B) ((congrFun (hP119.2 _ (by omega)) 900).trans hB) (by omega) (j := i) (by omega) (gr := gr i) ((congrFun (hP119.2 _ (by omega)) 3).trans (hgr i (by omega)).1) (by have h9 := (hgr i (by omega)).2; omega) (c := cd i i119) (x := 1) (by omega)) ce_X10_take ml_X10_93 iv_X10_take cl_X10 rfl (lm_9000 (σ := s119) (fl1 hP119.1)) (xx_dt dd_X10_pick 87 rfl) (by omega) rfl rfl (Nat.le_of_ble_eq_true rfl) rfl ?_
            refine sw_aload_n O (xx_dt dd_X10_pick 88 rfl) rfl ?_
            refine sw_get (v := .ref 9002) O (xx_dt dd_X10_pick 89 rfl) cl_X10 fl_X10_19 (lm_9000 (σ := g_Ctake s119 i (cd i i119) 1 (gr i)) (fl1 ((congrFun (fr_Ctake (by omega)) 20).trans hP119.1))) (by decide) rfl ?_
            refine sw_iload_n O (xx_dt dd_X10_pick 90 rfl) rfl ?_
            refine sw_iload O (xx_dt dd_X10_pick 91 rfl) rfl ?_
            refine sw_iastore (h2 := setM z (u2 (g_Ctake s119 i (cd i i119) 1 (gr i)) 9002 i (nI i119)) h) O (xx_dt dd_X10_pick 92 rfl) ((im_9002 (z := z) (σ := g_Ctake s119 i (cd i i119) 1 (gr i)) ((congrFun (fr_Ctake (by omega)) 20).trans hP119.1)).get _) (pk_in i _ (by omega)) (by omega) (by rw [nI_clamp (by omega)]; exact ((im_9002 (z := z) (σ := g_Ctake s119 i (cd i i119) 1 (gr i)) ((congrFun (fr_Ctake (by omega)) 20).trans hP119.1)).put (by omega))) ?_
            refine sw_aload_n O (xx_dt dd_X10_pick 93 rfl) rfl ?_
            refine sw_iload_n O (xx_dt dd_X10_pick 94 rfl) rfl ?_
            refine sw_iconst (x := 1) O (xx_dt dd_X10_pick 95 rfl) (by decide) ?_
            refine sw_iadd O (xx_dt dd_X10_pick 96 rfl) ?_
            rw [nI_a1 i]
            refine sw_iload_n O (xx_dt dd_X10_pick 97 rfl) rfl ?_
            refine sw_iconst (x := 1) O (xx_dt dd_X10_pick 98 rfl) (by decide) ?_
            refine sw_iload_n O (xx_dt dd_X10_pick 99 rfl) rfl ?_
            refine sw_ishl O (xx_dt dd_X10_pick 100 rfl) ?_
            refine sw_ior O (xx_dt dd_X10_pick 101 rfl) ?_
            refine sw_iload_n O (xx_dt dd_X10_pick 102 rfl) rfl ?_
            refine sw_aload O (xx_dt dd_X10_pick 103 rfl) rfl ?_
            refine sw_iload O (xx_dt dd_X10_pick 104 rfl) rfl ?_
            refine sw_callVx (as := [.int (nI i119)]) (st := [.int x, .int ((nI S) ||| (1 <<< ((nI i) &&& 31))), .int (nI (i + 1)), .ref 9000]) (st2 := [.int (f_Bamount (u2 (g_Ctake s119 i (cd i i119) 1 (gr i)) 9002 i (nI i119)) i i119), .int x, .int ((nI S) ||| (1 <<< ((nI i) &&& 31))), .int (nI (i + 1)), .ref 9000]) O (ct_X9_amount hl (z := z) (σ := u2 (g_Ctake s119 i (cd i i119) 1 (gr i)) 9002 i (nI i119)) hbs (B := B) ((((congrFun (u2_ne (by omega)) 900).trans (congrFun (fr_Ctake (by omega)) 900)).trans (congrFun (hP119.2 _ (by omega)) 900)).trans hB) (by omega) (j := i) (by omega) (p := pk i) ((((congrFun (u2_ne (by omega)) 900).trans (congrFun (fr_Ctake (by omega)) 900)).trans (congrFun (hP119.2 _ (by omega)) 900)).trans (hpk i (by omega)).1) (by have h9 := (hpk i (by omega)).2; omega) (k := i119) (by first | omega | (have h9 := (hpk i (by omega)).2; omega))) ce_X9_amount ml_X10_97 iv_X9_amount cl_X9 rfl (lm_bid (σ := u2 (g_Ctake s119 i (cd i i119) 1 (gr i)) 9002 i (nI i119)) (B := B) ((((congrFun (u2_ne (by omega)) 900).trans (congrFun (fr_Ctake (by omega)) 900)).trans (congrFun (hP119.2 _ (by omega)) 900)).trans hB) (by omega) (j := i) (by omega)) (xx_dt dd_X10_pick 105 rfl) (by omega) rfl rfl (Nat.le_of_ble_eq_true rfl) rfl ?_
            refine sw_iadd O (xx_dt dd_X10_pick 106 rfl) ?_
            refine sw_callVx (as := [.int (nI (i + 1)), .int ((nI S) ||| (1 <<< ((nI i) &&& 31))), .int (x + (f_Bamount (u2 (g_Ctake s119 i (cd i i119) 1 (gr i)) 9002 i (nI i119)) i i119))]) (st := []) (st2 := []) O (ih (u2 (g_Ctake s119 i (cd i i119) 1 (gr i)) 9002 i (nI i119)) (S ||| 2 ^ i) ((nI S) ||| (1 <<< ((nI i) &&& 31))) (x + (f_Bamount (u2 (g_Ctake s119 i (cd i i119) 1 (gr i)) 9002 i (nI i119)) i i119)) (or_bit (S := S) (i := i) (by omega) (by omega)) (or_bit_lt (by omega) (by omega)) (((congrFun (u2_ne (by omega)) 20).trans (congrFun (fr_Ctake (by omega)) 20)).trans hP119.1) ((((congrFun (u2_ne (by omega)) 900).trans (congrFun (fr_Ctake (by omega)) 900)).trans (congrFun (hP119.2 _ (by omega)) 900)).trans hB) (fun j9 hj9 => by rw [(((u2_ne (by omega)).trans (fr_Ctake (by omega))).trans (hP119.2 _ (by omega)))]; exact hpk j9 hj9) (fun j9 hj9 => by rw [show (u2 (g_Ctake s119 i (cd i i119) 1 (gr i)) 9002 i (nI i119)) (5020 + j9) 3 = σ (5020 + j9) 3 from (((congrFun (u2_ne (by omega)) 3).trans (congrFun (fr_Ctake (by omega)) 3)).trans (congrFun (hP119.2 _ (by omega)) 3))]; exact hgr j9 hj9) (fun j9 k9 hj9 hk9 => by rw [(((u2_ne (by omega)).trans (fr_Ctake (by omega))).trans (hP119.2 _ (by omega)))]; exact hcd j9 k9 hj9 hk9)) ce_X10_pick ml_X10_57 iv_X10_pick cl_X10 rfl (lm_9000 (σ := u2 (g_Ctake s119 i (cd i i119) 1 (gr i)) 9002 i (nI i119)) (fl1 (((congrFun (u2_ne (by omega)) 20).trans (congrFun (fr_Ctake (by omega)) 20)).trans hP119.1))) (xx_dt dd_X10_pick 107 rfl) (by omega) rfl rfl (Nat.le_of_ble_eq_true rfl) rfl ?_
            refine sw_aload_n O (xx_dt dd_X10_pick 108 rfl) rfl ?_
            refine sw_aload O (xx_dt dd_X10_pick 109 rfl) rfl ?_
            refine sw_aload O (xx_dt dd_X10_pick 110 rfl) rfl ?_
            refine sw_iload O (xx_dt dd_X10_pick 111 rfl) rfl ?_
            have hk206 := (hcd i i119 (by omega) (by first | assumption | omega)).2
            refine sw_callVx (as := [.int (nI i119)]) (st := [.ref (5020 + i), .ref 9000]) (st2 := [.int (nI (cd i i119)), .ref (5020 + i), .ref 9000]) O (ct_codeN hl (z := z) (σ := g_rec (u2 (g_Ctake s119 i (cd i i119) 1 (gr i)) 9002 i (nI i119)) (S ||| 2 ^ i) (x + (f_Bamount (u2 (g_Ctake s119 i (cd i i119) 1 (gr i)) 9002 i (nI i119)) i i119))) hbs (B := B) (((((congrFun (fr_rec (by omega)) 900).trans (congrFun (u2_ne (by omega)) 900)).trans (congrFun (fr_Ctake (by omega)) 900)).trans (congrFun (hP119.2 _ (by omega)) 900)).trans hB) (by omega) (j := i) (by omega) (p := pk i) (((((congrFun (fr_rec (by omega)) 900).trans (congrFun (u2_ne (by omega)) 900)).trans (congrFun (fr_Ctake (by omega)) 900)).trans (congrFun (hP119.2 _ (by omega)) 900)).trans (hpk i (by omega)).1) (by have h9 := (hpk i (by omega)).2; omega) (k := i119) (by first | omega | (have h9 := (hpk i (by omega)).2; omega)) (c := cd i i119) (((((congrFun (fr_rec (by omega)) (2 * i119)).trans (congrFun (u2_ne (by omega)) (2 * i119))).trans (congrFun (fr_Ctake (by omega)) (2 * i119))).trans (congrFun (hP119.2 _ (by omega)) (2 * i119))).trans (hcd i i119 (by omega) (by first | assumption | omega)).1)) ce_X9_code ml_X10_85 iv_X9_code cl_X9 rfl (lm_bid (σ := g_rec (u2 (g_Ctake s119 i (cd i i119) 1 (gr i)) 9002 i (nI i119)) (S ||| 2 ^ i) (x + (f_Bamount (u2 (g_Ctake s119 i (cd i i119) 1 (gr i)) 9002 i (nI i119)) i i119))) (B := B) (((((congrFun (fr_rec (by omega)) 900).trans (congrFun (u2_ne (by omega)) 900)).trans (congrFun (fr_Ctake (by omega)) 900)).trans (congrFun (hP119.2 _ (by omega)) 900)).trans hB) (by omega) (j := i) (by omega)) (xx_dt dd_X10_pick 112 rfl) (by omega) rfl rfl (Nat.le_of_ble_eq_true rfl) rfl ?_
            refine sw_iconst (x := (-1)) O (xx_dt dd_X10_pick 113 rfl) (by decide) ?_
            refine sw_callVx (as := [.ref (5020 + i), .int (nI (cd i i119)), .int (-1)]) (st := []) (st2 := []) O (ct_X10_take hl (z := z) (σ := g_rec (u2 (g_Ctake s119 i (cd i i119) 1 (gr i)) 9002 i (nI i119)) (S ||| 2 ^ i) (x + (f_Bamount (u2 (g_Ctake s119 i (cd i i119) 1 (gr i)) 9002 i (nI i119)) i i119))) hbs ((((fr_rec20).trans (congrFun (u2_ne (by omega)) 20)).trans (congrFun (fr_Ctake (by omega)) 20)).trans hP119.1) (B := B) (((((congrFun (fr_rec (by omega)) 900).trans (congrFun (u2_ne (by omega)) 900)).trans (congrFun (fr_Ctake (by omega)) 900)).trans (congrFun (hP119.2 _ (by omega)) 900)).trans hB) (by omega) (j := i) (by omega) (gr := gr i) (((((congrFun (fr_rec (by omega)) 3).trans (congrFun (u2_ne (by omega)) 3)).trans (congrFun (fr_Ctake (by omega)) 3)).trans (congrFun (hP119.2 _ (by omega)) 3)).trans (hgr i (by omega)).1) (by have h9 := (hgr i (by omega)).2; omega) (c := cd i i119) (x := (-1)) (by omega)) ce_X10_take ml_X10_93 iv_X10_take cl_X10 rfl (lm_9000 (σ := g_rec (u2 (g_Ctake s119 i (cd i i119) 1 (gr i)) 9002 i (nI i119)) (S ||| 2 ^ i) (x + (f_Bamount (u2 (g_Ctake s119 i (cd i i119) 1 (gr i)) 9002 i (nI i119)) i i119))) (fl1 ((((fr_rec20).trans (congrFun (u2_ne (by omega)) 20)).trans (congrFun (fr_Ctake (by omega)) 20)).trans hP119.1))) (xx_dt dd_X10_pick 114 rfl) (by omega) rfl rfl (Nat.le_of_ble_eq_true rfl) rfl ?_
            refine sw_iinc (y := nI (i119 + 1)) (ls2 := [.ref 9000, .int (nI i), .int (nI S), .int x, .ref (5020 + i), .int (nI (i119 + 1))]) O (xx_dt dd_X10_pick 115 rfl) rfl (nI_1 _) (by decide) rfl ?_
            refine sw_goto (tgt := 119) O (xx_dt dd_X10_pick 116 rfl) (by decide) ?_
            exact kk119 (g_Ctake (g_rec (u2 (g_Ctake s119 i (cd i i119) 1 (gr i)) 9002 i (nI i119)) (S ||| 2 ^ i) (x + (f_Bamount (u2 (g_Ctake s119 i (cd i i119) 1 (gr i)) 9002 i (nI i119)) i i119))) i (cd i i119) (-1) (gr i)) (by simp only [if_pos q3, if_neg q4])
          · refine sw_goto (tgt := 213) O (xx_dt dd_X10_pick 80 rfl) (by decide) ?_
            refine sw_iinc (y := nI (i119 + 1)) (ls2 := [.ref 9000, .int (nI i), .int (nI S), .int x, .ref (5020 + i), .int (nI (i119 + 1))]) O (xx_dt dd_X10_pick 115 rfl) rfl (nI_1 _) (by decide) rfl ?_
            refine sw_goto (tgt := 119) O (xx_dt dd_X10_pick 116 rfl) (by decide) ?_
            exact kk119 s119 (by simp only [if_pos q3, if_pos q4])
    · show SW Y _ _ (setM z s119 h) 119 [.ref 9000, .int (nI i), .int (nI S), .int x, .ref (5020 + i), .int (nI ((pk i)))] []
      have hP119 : s119 9000 20 = nI 1 ∧ (∀ q, (q < 9000 ∨ 9005 < q) → s119 q = σ q) := hP119
      refine sw_iload O (xx_dt dd_X10_pick 66 rfl) rfl ?_
      refine sw_aload O (xx_dt dd_X10_pick 67 rfl) rfl ?_
      have hq123 := (hpk i (by omega)).2
      refine sw_callVx (as := []) (st := [.int (nI ((pk i)))]) (st2 := [.int (nI (pk i)), .int (nI ((pk i)))]) O ((show XEx _ _ _ _ _ _ _ (some (.int (nI (pk i)))) _ from ct_X9_many hl (z := z) (σ := s119) hbs (B := B) ((congrFun (hP119.2 _ (by omega)) 900).trans hB) (by omega) (j := i) (by omega) (p := pk i) ((congrFun (hP119.2 _ (by omega)) 900).trans (hpk i (by omega)).1) (by have h9 := (hpk i (by omega)).2; omega))) ce_X9_many ml_X10_78 iv_X9_many cl_X9 rfl (lm_bid (σ := s119) (B := B) ((congrFun (hP119.2 _ (by omega)) 900).trans hB) (by omega) (j := i) (by omega)) (xx_dt dd_X10_pick 68 rfl) (by omega) rfl rfl (Nat.le_of_ble_eq_true rfl) rfl ?_
      refine sw_icmp_ge (tgt := 219) O (xx_dt dd_X10_pick 69 rfl) (by decide) (fun q2 => ?_) (fun q2 => ?_)
      · refine sw_dum (ls2 := [.ref 9000, .int (nI i), .int (nI S), .int x, .ref (5020 + i), xx_d]) ⟨.inr rfl, .inr rfl, .inr rfl, .inr rfl, .inr rfl, .inl rfl, trivial⟩ ?_
        exact kx119
      · exact absurd (Int32.le_refl _) q2
    · show SW Y _ _ (setM z (x_CpickStep_119 σ g_rec i S x B pk gr cd (g_rec (u2 σ 9002 i (-1)) S x)) h) 219 [.ref 9000, .int (nI i), .int (nI S), .int x, .ref (5020 + i), xx_d] []
      exact sw_ret O (xx_dt dd_X10_pick 117 rfl) rfl (by rw [hQ]; exact ⟨rfl, by unfold g_CpickStep; rfl⟩)
  · exact absurd q1 (fun e => absurd (congrArg cn e) (by rw [cn_nI (by omega), cn_nI (by omega)]; omega))
theorem fr_CpickStep {σ : XS9} {g_rec : XS9 → Nat → Int32 → XS9} (fr_rec : ∀ {σ : XS9} {S : Nat} {x : Int32} {q : Nat}, (q < 9000 ∨ 9005 < q) → g_rec σ S x q = σ q) (fr_rec20 : ∀ {σ : XS9} {S : Nat} {x : Int32}, g_rec σ S x 9000 20 = σ 9000 20) {i S : Nat} {x : Int32} {B : Nat} {pk gr : Nat → Nat} {cd : Nat → Nat → Nat} {q : Nat} : ((q < 9000 ∨ 9005 < q) → g_CpickStep σ g_rec i S x B pk gr cd q = σ q) ∧ g_CpickStep σ g_rec i S x B pk gr cd 9000 20 = σ 9000 20 := by
  have H0 : ∀ s0 q, (q < 9000 ∨ 9005 < q) → (x_CpickStep_119 σ g_rec i S x B pk gr cd s0) q = s0 q := fun s0 q hq => xitB_keep (fun s : XS9 => s q) (fun i s s' e => by
    revert e
    (try dsimp only)
    (repeat' split) <;> intro e <;> rcases e with e | e <;> first | (cases e; done) | (injection e with e; subst e; first | rfl | simp (disch := omega) only [u2_ne, fr_rec, fr_Ctake])) _ _ _
  have H1 : ∀ s0, (x_CpickStep_119 σ g_rec i S x B pk gr cd s0) 9000 20 = s0 9000 20 := fun s0 => xitB_keep (fun s : XS9 => s 9000 20) (fun i s s' e => by
    revert e
    (try dsimp only)
    (repeat' split) <;> intro e <;> rcases e with e | e <;> first | (cases e; done) | (injection e with e; subst e; first | rfl | simp (disch := omega) only [u2_ne, fr_rec20, fr_Ctake])) _ _ _
  unfold g_CpickStep
  refine ⟨fun hq => ?_, ?_⟩
  · simp (disch := omega) only [H0, fr_rec, u2_ne]
  · simp (disch := omega) only [H1, fr_rec20, u2_ne]
def g_Cpick (B : Nat) (pk gr : Nat → Nat) (cd : Nat → Nat → Nat) : Nat → Nat → XS9 → Nat → Int32 → XS9
  | 0, _, σ, S, x => g_CpickBase σ S x B
  | f + 1, i, σ, S, x => g_CpickStep σ (fun σ S x => g_Cpick B pk gr cd f (i + 1) σ S x) i S x B pk gr cd
theorem fr2_Cpick {B : Nat} {pk gr : Nat → Nat} {cd : Nat → Nat → Nat} : ∀ (f i : Nat) {σ : XS9} {S : Nat} {x : Int32} {q : Nat}, ((q < 9000 ∨ 9005 < q) → g_Cpick B pk gr cd f i σ S x q = σ q) ∧ g_Cpick B pk gr cd f i σ S x 9000 20 = σ 9000 20
  | 0, i, σ, S, x, q => fr_CpickBase
  | f + 1, i, σ, S, x, q => fr_CpickStep (fun h => (fr2_Cpick f (i + 1)).1 h) (fr2_Cpick f (i + 1) (q := 0)).2
theorem ct_Cpick {l : Launch} {h : XH} (hl : l.stackTraces = false) {z : Int64} (hbs : xx_bs h) {B : Nat} {pk gr : Nat → Nat} {cd : Nat → Nat → Nat} (hB6 : B ≤ 6) : ∀ (f i : Nat), i + f = B → ∀ (σ : XS9) (S : Nat) (y x : Int32), y = nI S → S < 64 → σ 9000 20 = nI 1 → σ 5002 900 = nI B → (∀ j, j < B → σ (5030 + j) 900 = nI (2 * pk j) ∧ pk j ≤ 6) → (∀ j, j < B → σ (5020 + j) 3 = nI (gr j) ∧ gr j < 4) → (∀ j k, j < B → k < pk j → σ (5030 + j) (2 * k) = nI (cd j k) ∧ cd j k < 7776) → XEx l m_X10_pick (f + 6) 0 0 [.ref 9000, .int (nI i), .int y, .int x] (setM z σ h) none (setM z (g_Cpick B pk gr cd f i σ S x) h)
  | 0, i, e, σ, S, y, x, hy, hS, hc, hB, hpk, hgr, hcd => by
    subst hy
    obtain rfl : i = B := by omega
    exact ct_CpickBase hl hbs hc hB hB6 hS
  | f + 1, i, e, σ, S, y, x, hy, hS, hc, hB, hpk, hgr, hcd => by
    subst hy
    exact ct_CpickStep hl hbs hc hB hB6 hpk hgr hcd (fun h => (fr2_Cpick f (i + 1)).1 h) (fr2_Cpick f (i + 1) (q := 0)).2 (by omega) hS (d0 := f + 6) (by omega) (fun σ S y x e1 e2 e3 e4 e5 e6 e7 => ct_Cpick hl hbs hB6 f (i + 1) (by omega) σ S y x e1 e2 e3 e4 e5 e6 e7)
theorem fr_Cpick {B : Nat} {pk gr : Nat → Nat} {cd : Nat → Nat → Nat} {f i : Nat} {σ : XS9} {S : Nat} {x : Int32} {q : Nat} (h : q < 9000 ∨ 9005 < q) : g_Cpick B pk gr cd f i σ S x q = σ q := (fr2_Cpick f i).1 h
end
