/-! ===== the reference's choice ===== -/
theorem div6 {a : Nat} (ha : a < 100000) : nI a / 6 = nI (a / 6) := by
  apply i_ext
  rw [Int32.toInt_div, toI_nI (by omega), toI_nI (by omega)]
  have : (6 : Int32).toInt = 6 := rfl
  rw [this, Int.tdiv_eq_ediv_of_nonneg (by omega), Int.bmod_def]
  omega
theorem pow6_step {a i : Nat} (hi : i < 5) (h : a < 6 ^ (5 - i)) : a / 6 < 6 ^ (5 - (i + 1)) := by
  have : ∀ k : Fin 5, a < 6 ^ (5 - k.1) → a / 6 < 6 ^ (5 - (k.1 + 1)) := by
    intro k hk
    match k with
    | ⟨0, _⟩ => show a / 6 < 1296; have : a < 7776 := hk; omega
    | ⟨1, _⟩ => show a / 6 < 216; have : a < 1296 := hk; omega
    | ⟨2, _⟩ => show a / 6 < 36; have : a < 216 := hk; omega
    | ⟨3, _⟩ => show a / 6 < 6; have : a < 36 := hk; omega
    | ⟨4, _⟩ => show a / 6 < 1; have : a < 6 := hk; omega
  exact this ⟨i, hi⟩ h
theorem pow6_le {a i : Nat} (h : a < 6 ^ (5 - i)) : a < 7776 := by
  have : 6 ^ (5 - i) ≤ 6 ^ 5 := Nat.pow_le_pow_right (by decide) (by omega)
  omega
theorem nI_le0 {a : Nat} (ha : a < 2147483648) : nI a ≤ 0 ↔ a = 0 := by
  rw [show (0 : Int32) = nI 0 from rfl, nI_leI ha (by omega)]
  omega
theorem grp_ix {g r : Nat} : nI g * 5 + nI r = nI (5 * g + r) := by
  unfold nI
  rw [show (5 : Int32) = Int32.ofNat 5 from rfl, ← Int32.ofNat_mul, ← Int32.ofNat_add, Nat.mul_comm]
theorem mod6x {a : Nat} (ha : a < 100000) : nI a - nI a / 6 * 6 = nI (a % 6) := by
  have h1 : (nI a / 6).toInt = ((a / 6 : Nat) : Int) := by rw [div6 ha, toI_nI (by omega)]
  apply i_ext
  rw [Int32.toInt_sub, Int32.toInt_mul, h1, toI_nI (by omega), toI_nI (by omega)]
  have : (6 : Int32).toInt = 6 := rfl
  rw [this, Int.bmod_def, Int.bmod_def]
  omega
def x_CcanTake_5 (σ : XS9) (j c gr : Nat) (s0 : Nat) : Nat ⊕ Int32 := xitR (fun i5 s5 => (if (nI s5) ≤ 0 then .inr 1 else (if (σ 9004 i5) < (nI (s5 % 6)) then .inr 0 else (if (nI gr) ≤ 0 then .inl (s5 / 6) else (if (nI (s5 % 6)) ≤ 0 then .inl (s5 / 6) else (if ((σ 9005 (5 * gr + i5)) + (nI (s5 % 6))) ≤ (σ 5000 2) then .inl (s5 / 6) else .inr 0)))))) 5 0 s0
def f_CcanTake (σ : XS9) (j c gr : Nat) : Int32 := (match (x_CcanTake_5 σ j c gr c) with | .inl s5 => 1 | .inr r5 => r5)
theorem ct_X10_canTake {l : Launch} {h : XH} (hl : l.stackTraces = false) {z : Int64} {σ : XS9} (hbs : xx_bs h) (hc : σ 9000 20 = nI 1) {B : Nat} (hB : σ 5002 900 = nI B) (hB6 : B ≤ 6) {j : Nat} (hj : j < B) {gr : Nat} (hgr : σ (5020 + j) 3 = nI gr) (hgr4 : gr < 4) {c : Nat} (hcd : c < 7776) : XEx l m_X10_canTake 1 0 0 [.ref 9000, .ref (5020 + j), .int (nI c)] (setM z σ h) (some (.int (f_CcanTake σ j c gr))) (setM z σ h) := by
  refine XMet.of hl rfl rfl (Nat.le_of_ble_eq_true rfl) (fun Y O hh hQ => ?_)
  show SW Y 0 0 (setM z σ h) 0 [.ref 9000, .ref (5020 + j), .int (nI c), xx_d, xx_d, xx_d] []
  refine sw_iload_n O (xx_dt dd_X10_canTake 0 rfl) rfl ?_
  refine sw_istore_n (ls2 := [.ref 9000, .ref (5020 + j), .int (nI c), .int (nI c), xx_d, xx_d]) O (xx_dt dd_X10_canTake 1 rfl) (by decide) rfl ?_
  refine sw_iconst (x := 0) O (xx_dt dd_X10_canTake 2 rfl) (by decide) ?_
  refine sw_istore (ls2 := [.ref 9000, .ref (5020 + j), .int (nI c), .int (nI c), .int 0, xx_d]) O (xx_dt dd_X10_canTake 3 rfl) (by decide) rfl ?_
  refine sw_forR (S := Nat) (R := Int32) (fun i5 s5 => (if (nI s5) ≤ 0 then .inr 1 else (if (σ 9004 i5) < (nI (s5 % 6)) then .inr 0 else (if (nI gr) ≤ 0 then .inl (s5 / 6) else (if (nI (s5 % 6)) ≤ 0 then .inl (s5 / 6) else (if ((σ 9005 (5 * gr + i5)) + (nI (s5 % 6))) ≤ (σ 5000 2) then .inl (s5 / 6) else .inr 0)))))) (fun i s => s < 6 ^ (5 - i)) (FR := fun r9 => f_CcanTake σ j c gr = r9) (hp := fun _ => setM z σ h) (hd := 5) (lc := fun i5 s5 => [.ref 9000, .ref (5020 + j), .int (nI c), .int (nI s5), .int (nI i5), xx_d]) (N := 5) (fun i5 s5 hi5 hP5 => ⟨(by intro s' e'; have hs := pow6_step hi5 hP5; revert e'; (try dsimp only); (repeat' split) <;> intro e' <;> first | (cases e'; done) | (have e9 := Sum.inl.inj e'; subst e9; exact hs)), fun kk5 kr5 => ?_⟩) 5 0 c (by omega) (hcd) (fun sN5 eN5 hP5 => ?_) (fun r5 eN5 => ?_)
  · refine sw_iload_n O (xx_dt dd_X10_canTake 4 rfl) rfl ?_
    have hp5 := pow6_le hP5
    refine sw_if_le (tgt := 79) O (xx_dt dd_X10_canTake 5 rfl) (by decide) (fun q2 => ?_) (fun q2 => ?_)
    · have hfq2 : s5 ≤ 0 := (nI_leI (a := s5) (b := 0) (by omega) (by omega)).mp q2
      refine sw_iconst (x := 1) O (xx_dt dd_X10_canTake 44 rfl) (by decide) ?_
      exact sw_iret O (xx_dt dd_X10_canTake 45 rfl) rfl rfl (by rw [hQ, kr5 1 (by simp only [if_pos q2])]; exact ⟨rfl, rfl⟩)
    · have hfq2 : ¬ s5 ≤ 0 := fun e => q2 ((nI_leI (a := s5) (b := 0) (by omega) (by omega)).mpr e)
      refine sw_iload_n O (xx_dt dd_X10_canTake 6 rfl) rfl ?_
      refine sw_bipush (x := 6) O (xx_dt dd_X10_canTake 7 rfl) (by decide) ?_
      refine sw_irem O (xx_dt dd_X10_canTake 8 rfl) (by first | decide | assumption) ?_
      have hx12 := Nat.mod_lt s5 (by decide : 6 > 0)
      rw [mod6x (by omega)]
      refine sw_istore (ls2 := [.ref 9000, .ref (5020 + j), .int (nI c), .int (nI s5), .int (nI i5), .int (nI (s5 % 6))]) O (xx_dt dd_X10_canTake 9 rfl) (by decide) rfl ?_
      refine sw_iload O (xx_dt dd_X10_canTake 10 rfl) rfl ?_
      refine sw_aload_n O (xx_dt dd_X10_canTake 11 rfl) rfl ?_
      refine sw_get (v := .ref 9004) O (xx_dt dd_X10_canTake 12 rfl) cl_X10 fl_X10_25 (lm_9000 (σ := σ) (fl1 hc)) (by decide) rfl ?_
      refine sw_iload O (xx_dt dd_X10_canTake 13 rfl) rfl ?_
      refine sw_iaload (v := .int (σ 9004 i5)) O (xx_dt dd_X10_canTake 14 rfl) ((im_9004 (z := z) (σ := σ) hc).get _) (pk_in i5 _ (by omega)) (by rw [nI_clamp (by omega)]; try exact rfl) ?_
      refine sw_icmp_gt (tgt := 66) O (xx_dt dd_X10_canTake 15 rfl) (by decide) (fun q3 => ?_) (fun q3 => ?_)
      · refine sw_iconst (x := 0) O (xx_dt dd_X10_canTake 36 rfl) (by decide) ?_
        exact sw_iret O (xx_dt dd_X10_canTake 37 rfl) rfl rfl (by rw [hQ, kr5 0 (by simp only [if_neg q2, if_pos q3])]; exact ⟨rfl, rfl⟩)
      · refine sw_aload_n O (xx_dt dd_X10_canTake 16 rfl) rfl ?_
        refine sw_get (v := .int (nI gr)) O (xx_dt dd_X10_canTake 17 rfl) cl_X9 fl_X10_100 (lm_bid (σ := σ) (B := B) hB (by omega) (j := j) (by omega)) (by decide) (congrArg Value.int hgr) ?_
        refine sw_if_le (tgt := 68) O (xx_dt dd_X10_canTake 18 rfl) (by decide) (fun q4 => ?_) (fun q4 => ?_)
        · refine sw_iload_n O (xx_dt dd_X10_canTake 38 rfl) rfl ?_
          refine sw_bipush (x := 6) O (xx_dt dd_X10_canTake 39 rfl) (by decide) ?_
          refine sw_idiv O (xx_dt dd_X10_canTake 40 rfl) (by first | decide | assumption) ?_
          have hx71 := trivial
          rw [div6 (by omega)]
          refine sw_istore_n (ls2 := [.ref 9000, .ref (5020 + j), .int (nI c), .int (nI (s5 / 6)), .int (nI i5), .int (nI (s5 % 6))]) O (xx_dt dd_X10_canTake 41 rfl) (by decide) rfl ?_
          refine sw_iinc (y := nI (i5 + 1)) (ls2 := [.ref 9000, .ref (5020 + j), .int (nI c), .int (nI (s5 / 6)), .int (nI (i5 + 1)), .int (nI (s5 % 6))]) O (xx_dt dd_X10_canTake 42 rfl) rfl (nI_1 _) (by decide) rfl ?_
          refine sw_goto (tgt := 5) O (xx_dt dd_X10_canTake 43 rfl) (by decide) ?_
          refine sw_dum (ls2 := [.ref 9000, .ref (5020 + j), .int (nI c), .int (nI (s5 / 6)), .int (nI (i5 + 1)), xx_d]) ⟨.inr rfl, .inr rfl, .inr rfl, .inr rfl, .inr rfl, .inl rfl, trivial⟩ ?_
          exact kk5 (s5 / 6) (by simp only [if_neg q2, if_neg q3, if_pos q4])
        · refine sw_iload O (xx_dt dd_X10_canTake 19 rfl) rfl ?_
          refine sw_if_le (tgt := 68) O (xx_dt dd_X10_canTake 20 rfl) (by decide) (fun q5 => ?_) (fun q5 => ?_)
          · refine sw_iload_n O (xx_dt dd_X10_canTake 38 rfl) rfl ?_
            refine sw_bipush (x := 6) O (xx_dt dd_X10_canTake 39 rfl) (by decide) ?_
            refine sw_idiv O (xx_dt dd_X10_canTake 40 rfl) (by first | decide | assumption) ?_
            have hx71 := trivial
            rw [div6 (by omega)]
            refine sw_istore_n (ls2 := [.ref 9000, .ref (5020 + j), .int (nI c), .int (nI (s5 / 6)), .int (nI i5), .int (nI (s5 % 6))]) O (xx_dt dd_X10_canTake 41 rfl) (by decide) rfl ?_
            refine sw_iinc (y := nI (i5 + 1)) (ls2 := [.ref 9000, .ref (5020 + j), .int (nI c), .int (nI (s5 / 6)), .int (nI (i5 + 1)), .int (nI (s5 % 6))]) O (xx_dt dd_X10_canTake 42 rfl) rfl (nI_1 _) (by decide) rfl ?_
            refine sw_goto (tgt := 5) O (xx_dt dd_X10_canTake 43 rfl) (by decide) ?_
            refine sw_dum (ls2 := [.ref 9000, .ref (5020 + j), .int (nI c), .int (nI (s5 / 6)), .int (nI (i5 + 1)), xx_d]) ⟨.inr rfl, .inr rfl, .inr rfl, .inr rfl, .inr rfl, .inl rfl, trivial⟩ ?_
            exact kk5 (s5 / 6) (by simp only [if_neg q2, if_neg q3, if_neg q4, if_pos q5])
          · refine sw_aload_n O (xx_dt dd_X10_canTake 21 rfl) rfl ?_
            refine sw_get (v := .ref 9005) O (xx_dt dd_X10_canTake 22 rfl) cl_X10 fl_X10_28 (lm_9000 (σ := σ) (fl1 hc)) (by decide) rfl ?_
            refine sw_aload_n O (xx_dt dd_X10_canTake 23 rfl) rfl ?_
            refine sw_get (v := .int (nI gr)) O (xx_dt dd_X10_canTake 24 rfl) cl_X9 fl_X10_100 (lm_bid (σ := σ) (B := B) hB (by omega) (j := j) (by omega)) (by decide) (congrArg Value.int hgr) ?_
            refine sw_iconst (x := 5) O (xx_dt dd_X10_canTake 25 rfl) (by decide) ?_
            refine sw_imul O (xx_dt dd_X10_canTake 26 rfl) ?_
            refine sw_iload O (xx_dt dd_X10_canTake 27 rfl) rfl ?_
            refine sw_iadd O (xx_dt dd_X10_canTake 28 rfl) ?_
            have hx51 := trivial
            rw [grp_ix]
            refine sw_iaload (v := .int (σ 9005 (5 * gr + i5))) O (xx_dt dd_X10_canTake 29 rfl) ((im_9005 (z := z) (σ := σ) hc).get _) (pk_in (5 * gr + i5) _ (by omega)) (by rw [nI_clamp (by omega)]; try exact rfl) ?_
            refine sw_iload O (xx_dt dd_X10_canTake 30 rfl) rfl ?_
            refine sw_iadd O (xx_dt dd_X10_canTake 31 rfl) ?_
            refine sw_aload_n O (xx_dt dd_X10_canTake 32 rfl) rfl ?_
            refine sw_get (v := .ref 5000) O (xx_dt dd_X10_canTake 33 rfl) cl_X10 fl_X10_3 (lm_9000 (σ := σ) (fl1 hc)) (by decide) rfl ?_
            refine sw_get (v := .int (σ 5000 2)) O (xx_dt dd_X10_canTake 34 rfl) cl_X14 fl_X10_103 (lm_mod (σ := σ)) (by decide) rfl ?_
            refine sw_icmp_le (tgt := 68) O (xx_dt dd_X10_canTake 35 rfl) (by decide) (fun q6 => ?_) (fun q6 => ?_)
            · refine sw_iload_n O (xx_dt dd_X10_canTake 38 rfl) rfl ?_
              refine sw_bipush (x := 6) O (xx_dt dd_X10_canTake 39 rfl) (by decide) ?_
              refine sw_idiv O (xx_dt dd_X10_canTake 40 rfl) (by first | decide | assumption) ?_
              have hx71 := trivial
              rw [div6 (by omega)]
              refine sw_istore_n (ls2 := [.ref 9000, .ref (5020 + j), .int (nI c), .int (nI (s5 / 6)), .int (nI i5), .int (nI (s5 % 6))]) O (xx_dt dd_X10_canTake 41 rfl) (by decide) rfl ?_
              refine sw_iinc (y := nI (i5 + 1)) (ls2 := [.ref 9000, .ref (5020 + j), .int (nI c), .int (nI (s5 / 6)), .int (nI (i5 + 1)), .int (nI (s5 % 6))]) O (xx_dt dd_X10_canTake 42 rfl) rfl (nI_1 _) (by decide) rfl ?_
              refine sw_goto (tgt := 5) O (xx_dt dd_X10_canTake 43 rfl) (by decide) ?_
              refine sw_dum (ls2 := [.ref 9000, .ref (5020 + j), .int (nI c), .int (nI (s5 / 6)), .int (nI (i5 + 1)), xx_d]) ⟨.inr rfl, .inr rfl, .inr rfl, .inr rfl, .inr rfl, .inl rfl, trivial⟩ ?_
              exact kk5 (s5 / 6) (by simp only [if_neg q2, if_neg q3, if_neg q4, if_neg q5, if_pos q6])
            · refine sw_iconst (x := 0) O (xx_dt dd_X10_canTake 36 rfl) (by decide) ?_
              exact sw_iret O (xx_dt dd_X10_canTake 37 rfl) rfl rfl (by rw [hQ, kr5 0 (by simp only [if_neg q2, if_neg q3, if_neg q4, if_neg q5, if_neg q6])]; exact ⟨rfl, rfl⟩)
  · show SW Y _ _ (setM z σ h) 5 [.ref 9000, .ref (5020 + j), .int (nI c), .int (nI sN5), .int (nI 5), xx_d] []
    refine sw_iload_n O (xx_dt dd_X10_canTake 4 rfl) rfl ?_
    refine sw_if_le (tgt := 79) O (xx_dt dd_X10_canTake 5 rfl) (by decide) (fun q1 => ?_) (fun q1 => ?_)
    · refine sw_iconst (x := 1) O (xx_dt dd_X10_canTake 44 rfl) (by decide) ?_
      exact sw_iret O (xx_dt dd_X10_canTake 45 rfl) rfl rfl (by rw [hQ]; exact ⟨by unfold f_CcanTake; simp only [x_CcanTake_5, eN5], rfl⟩)
    · exact absurd ((nI_le0 (by have h9 : sN5 < 6 ^ (5 - 5) := hP5; omega)).mpr (by have h9 : sN5 < 1 := hP5; omega)) q1
  · unfold f_CcanTake; simp only [x_CcanTake_5, eN5]
def x_Ctake_6 (σ : XS9) (j c : Nat) (x : Int32) (gr : Nat) (s0 : XS9 × Nat) : XS9 × Nat := xitB (fun i6 s6 => (if (nI (s6.2)) ≤ 0 then .inr (s6.1, s6.2) else .inl (u2 (u2 s6.1 9004 i6 ((s6.1 9004 i6) - (x * (nI (s6.2 % 6))))) 9005 (5 * gr + i6) ((s6.1 9005 (5 * gr + i6)) + (x * (nI (s6.2 % 6)))), s6.2 / 6))) 5 0 s0
def g_Ctake (σ : XS9) (j c : Nat) (x : Int32) (gr : Nat) : XS9 := (x_Ctake_6 σ j c x gr (σ, c)).1
theorem ct_X10_take {l : Launch} {h : XH} (hl : l.stackTraces = false) {z : Int64} {σ : XS9} (hbs : xx_bs h) (hc : σ 9000 20 = nI 1) {B : Nat} (hB : σ 5002 900 = nI B) (hB6 : B ≤ 6) {j : Nat} (hj : j < B) {gr : Nat} (hgr : σ (5020 + j) 3 = nI gr) (hgr4 : gr < 4) {c : Nat} {x : Int32} (hcd : c < 7776) : XEx l m_X10_take 1 0 0 [.ref 9000, .ref (5020 + j), .int (nI c), .int x] (setM z σ h) (none) (setM z (g_Ctake σ j c x gr) h) := by
  refine XMet.of hl rfl rfl (Nat.le_of_ble_eq_true rfl) (fun Y O hh hQ => ?_)
  show SW Y 0 0 (setM z σ h) 0 [.ref 9000, .ref (5020 + j), .int (nI c), .int x, xx_d, xx_d] []
  refine sw_iload_n O (xx_dt dd_X10_take 0 rfl) rfl ?_
  refine sw_istore (ls2 := [.ref 9000, .ref (5020 + j), .int (nI c), .int x, .int (nI c), xx_d]) O (xx_dt dd_X10_take 1 rfl) (by decide) rfl ?_
  refine sw_iconst (x := 0) O (xx_dt dd_X10_take 2 rfl) (by decide) ?_
  refine sw_istore (ls2 := [.ref 9000, .ref (5020 + j), .int (nI c), .int x, .int (nI c), .int 0]) O (xx_dt dd_X10_take 3 rfl) (by decide) rfl ?_
  refine sw_forB (S := XS9 × Nat) (fun i6 s6 => (if (nI (s6.2)) ≤ 0 then .inr (s6.1, s6.2) else .inl (u2 (u2 s6.1 9004 i6 ((s6.1 9004 i6) - (x * (nI (s6.2 % 6))))) 9005 (5 * gr + i6) ((s6.1 9005 (5 * gr + i6)) + (x * (nI (s6.2 % 6)))), s6.2 / 6))) (fun i (s : XS9 × Nat) => s.1 9000 20 = nI 1 ∧ s.1 5002 900 = nI B ∧ s.1 (5020 + j) 3 = nI gr ∧ s.2 < 6 ^ (5 - i)) (fun (s : XS9 × Nat) => s.1 9000 20 = nI 1 ∧ s.1 5002 900 = nI B ∧ s.1 (5020 + j) 3 = nI gr ∧ True) (hp := fun s6 => setM z s6.1 h) (hd := 6) (lc := fun i6 s6 => [.ref 9000, .ref (5020 + j), .int (nI c), .int x, .int (nI (s6.2)), .int (nI i6)]) (ex := 65) (lx := fun s6 => [.ref 9000, .ref (5020 + j), .int (nI c), .int x, .int (nI (s6.2)), xx_d]) (N := 5) (fun i6 s6 hi6 hP6 => ⟨⟨(by intro s' e'; have hs := pow6_step hi6 hP6.2.2.2; revert e'; (try dsimp only); split <;> intro e' <;> first | (cases e'; done) | (have e9 := Sum.inl.inj e'; subst e9; refine ⟨?_, ?_, ?_, hs⟩ <;> (simp (disch := omega) only [u2_ne]; first | exact hP6.1 | exact hP6.2.1 | exact hP6.2.2.1))), (by intro s' e'; revert e'; (try dsimp only); split <;> intro e' <;> first | (cases e'; done) | (have e9 := Sum.inr.inj e'; subst e9; exact ⟨hP6.1, hP6.2.1, hP6.2.2.1, trivial⟩))⟩, fun kk6 kb6 => ?_⟩) (fun s6 hP6 => ⟨⟨hP6.1, hP6.2.1, hP6.2.2.1, trivial⟩, fun kx6 => ?_⟩) 5 0 (σ, c) (by omega) (⟨hc, hB, hgr, hcd⟩) (fun hP6 => ?_)
  · refine sw_iload O (xx_dt dd_X10_take 4 rfl) rfl ?_
    have hp5 := pow6_le hP6.2.2.2
    refine sw_if_le (tgt := 65) O (xx_dt dd_X10_take 5 rfl) (by decide) (fun q2 => ?_) (fun q2 => ?_)
    · have hfq2 : s6.2 ≤ 0 := (nI_leI (a := s6.2) (b := 0) (by omega) (by omega)).mp q2
      refine sw_dum (ls2 := [.ref 9000, .ref (5020 + j), .int (nI c), .int x, .int (nI (s6.2)), xx_d]) ⟨.inr rfl, .inr rfl, .inr rfl, .inr rfl, .inr rfl, .inl rfl, trivial⟩ ?_
      exact kb6 (s6.1, s6.2) (by simp only [if_pos q2])
    · have hfq2 : ¬ s6.2 ≤ 0 := fun e => q2 ((nI_leI (a := s6.2) (b := 0) (by omega) (by omega)).mpr e)
      refine sw_aload_n O (xx_dt dd_X10_take 6 rfl) rfl ?_
      refine sw_get (v := .ref 9004) O (xx_dt dd_X10_take 7 rfl) cl_X10 fl_X10_25 (lm_9000 (σ := s6.1) (fl1 hP6.1)) (by decide) rfl ?_
      refine sw_iload O (xx_dt dd_X10_take 8 rfl) rfl ?_
      refine sw_dup2 O (xx_dt dd_X10_take 9 rfl) rfl rfl ?_
      refine sw_iaload (v := .int (s6.1 9004 i6)) O (xx_dt dd_X10_take 10 rfl) ((im_9004 (z := z) (σ := s6.1) hP6.1).get _) (pk_in i6 _ (by omega)) (by rw [nI_clamp (by omega)]; try exact rfl) ?_
      refine sw_iload_n O (xx_dt dd_X10_take 11 rfl) rfl ?_
      refine sw_iload O (xx_dt dd_X10_take 12 rfl) rfl ?_
      refine sw_bipush (x := 6) O (xx_dt dd_X10_take 13 rfl) (by decide) ?_
      refine sw_irem O (xx_dt dd_X10_take 14 rfl) (by first | decide | assumption) ?_
      have hx24 := Nat.mod_lt s6.2 (by decide : 6 > 0)
      rw [mod6x (by omega)]
      refine sw_imul O (xx_dt dd_X10_take 15 rfl) ?_
      refine sw_isub O (xx_dt dd_X10_take 16 rfl) ?_
      refine sw_iastore (h2 := setM z (u2 s6.1 9004 i6 ((s6.1 9004 i6) - (x * (nI (s6.2 % 6))))) h) O (xx_dt dd_X10_take 17 rfl) ((im_9004 (z := z) (σ := s6.1) hP6.1).get _) (pk_in i6 _ (by omega)) (by omega) (by rw [nI_clamp (by omega)]; exact ((im_9004 (z := z) (σ := s6.1) hP6.1).put (by omega))) ?_
      refine sw_aload_n O (xx_dt dd_X10_take 18 rfl) rfl ?_
      refine sw_get (v := .ref 9005) O (xx_dt dd_X10_take 19 rfl) cl_X10 fl_X10_28 (lm_9000 (σ := u2 s6.1 9004 i6 ((s6.1 9004 i6) - (x * (nI (s6.2 % 6))))) (fl1 hP6.1)) (by decide) rfl ?_
      refine sw_aload_n O (xx_dt dd_X10_take 20 rfl) rfl ?_
      refine sw_get (v := .int (nI gr)) O (xx_dt dd_X10_take 21 rfl) cl_X9 fl_X10_100 (lm_bid (σ := u2 s6.1 9004 i6 ((s6.1 9004 i6) - (x * (nI (s6.2 % 6))))) (B := B) hP6.2.1 (by omega) (j := j) (by omega)) (by decide) (congrArg Value.int ((congrFun (u2_ne (by omega)) 3).trans hP6.2.2.1)) ?_
      refine sw_iconst (x := 5) O (xx_dt dd_X10_take 22 rfl) (by decide) ?_
      refine sw_imul O (xx_dt dd_X10_take 23 rfl) ?_
      refine sw_iload O (xx_dt dd_X10_take 24 rfl) rfl ?_
      refine sw_iadd O (xx_dt dd_X10_take 25 rfl) ?_
      have hx40 := trivial
      rw [grp_ix]
      refine sw_dup2 O (xx_dt dd_X10_take 26 rfl) rfl rfl ?_
      refine sw_iaload (v := .int (s6.1 9005 (5 * gr + i6))) O (xx_dt dd_X10_take 27 rfl) ((im_9005 (z := z) (σ := u2 s6.1 9004 i6 ((s6.1 9004 i6) - (x * (nI (s6.2 % 6))))) hP6.1).get _) (pk_in (5 * gr + i6) _ (by omega)) (by rw [nI_clamp (by omega)]; try exact rfl) ?_
      refine sw_iload_n O (xx_dt dd_X10_take 28 rfl) rfl ?_
      refine sw_iload O (xx_dt dd_X10_take 29 rfl) rfl ?_
      refine sw_bipush (x := 6) O (xx_dt dd_X10_take 30 rfl) (by decide) ?_
      refine sw_irem O (xx_dt dd_X10_take 31 rfl) (by first | decide | assumption) ?_
      have hx48 := Nat.mod_lt s6.2 (by decide : 6 > 0)
      rw [mod6x (by omega)]
      refine sw_imul O (xx_dt dd_X10_take 32 rfl) ?_
      refine sw_iadd O (xx_dt dd_X10_take 33 rfl) ?_
      refine sw_iastore (h2 := setM z (u2 (u2 s6.1 9004 i6 ((s6.1 9004 i6) - (x * (nI (s6.2 % 6))))) 9005 (5 * gr + i6) ((s6.1 9005 (5 * gr + i6)) + (x * (nI (s6.2 % 6))))) h) O (xx_dt dd_X10_take 34 rfl) ((im_9005 (z := z) (σ := u2 s6.1 9004 i6 ((s6.1 9004 i6) - (x * (nI (s6.2 % 6))))) hP6.1).get _) (pk_in (5 * gr + i6) _ (by omega)) (by omega) (by rw [nI_clamp (by omega)]; exact ((im_9005 (z := z) (σ := u2 s6.1 9004 i6 ((s6.1 9004 i6) - (x * (nI (s6.2 % 6))))) hP6.1).put (by omega))) ?_
      refine sw_iload O (xx_dt dd_X10_take 35 rfl) rfl ?_
      refine sw_bipush (x := 6) O (xx_dt dd_X10_take 36 rfl) (by decide) ?_
      refine sw_idiv O (xx_dt dd_X10_take 37 rfl) (by first | decide | assumption) ?_
      have hx56 := trivial
      rw [div6 (by omega)]
      refine sw_istore (ls2 := [.ref 9000, .ref (5020 + j), .int (nI c), .int x, .int (nI (s6.2 / 6)), .int (nI i6)]) O (xx_dt dd_X10_take 38 rfl) (by decide) rfl ?_
      refine sw_iinc (y := nI (i6 + 1)) (ls2 := [.ref 9000, .ref (5020 + j), .int (nI c), .int x, .int (nI (s6.2 / 6)), .int (nI (i6 + 1))]) O (xx_dt dd_X10_take 39 rfl) rfl (nI_1 _) (by decide) rfl ?_
      refine sw_goto (tgt := 6) O (xx_dt dd_X10_take 40 rfl) (by decide) ?_
      exact kk6 (u2 (u2 s6.1 9004 i6 ((s6.1 9004 i6) - (x * (nI (s6.2 % 6))))) 9005 (5 * gr + i6) ((s6.1 9005 (5 * gr + i6)) + (x * (nI (s6.2 % 6)))), s6.2 / 6) (by simp only [if_neg q2])
  · show SW Y _ _ (setM z s6.1 h) 6 [.ref 9000, .ref (5020 + j), .int (nI c), .int x, .int (nI (s6.2)), .int (nI 5)] []
    have hZ6 := hP6
    have hP6 : s6.1 9000 20 = nI 1 ∧ s6.1 5002 900 = nI B ∧ s6.1 (5020 + j) 3 = nI gr ∧ True := ⟨hP6.1, hP6.2.1, hP6.2.2.1, trivial⟩
    refine sw_iload O (xx_dt dd_X10_take 4 rfl) rfl ?_
    refine sw_if_le (tgt := 65) O (xx_dt dd_X10_take 5 rfl) (by decide) (fun q1 => ?_) (fun q1 => ?_)
    · refine sw_dum (ls2 := [.ref 9000, .ref (5020 + j), .int (nI c), .int x, .int (nI (s6.2)), xx_d]) ⟨.inr rfl, .inr rfl, .inr rfl, .inr rfl, .inr rfl, .inl rfl, trivial⟩ ?_
      exact kx6
    · exact absurd ((nI_le0 (by have h9 : s6.2 < 1 := hZ6.2.2.2; omega)).mpr (by have h9 : s6.2 < 1 := hZ6.2.2.2; omega)) q1
  · show SW Y _ _ (setM z ((x_Ctake_6 σ j c x gr (σ, c)).1) h) 65 [.ref 9000, .ref (5020 + j), .int (nI c), .int x, .int (nI ((x_Ctake_6 σ j c x gr (σ, c)).2)), xx_d] []
    exact sw_ret O (xx_dt dd_X10_take 41 rfl) rfl (by rw [hQ]; exact ⟨rfl, by unfold g_Ctake; rfl⟩)
