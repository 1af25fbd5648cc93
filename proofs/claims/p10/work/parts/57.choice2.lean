/-! ===== the reference's choice: amounts, objections, payments ===== -/
def f_Camount (σ : XS9) (i : Nat) : Int32 := (if (σ 9001 i) = (-1) then 0 else f_Bamount σ i (cn (σ 9001 i)))
theorem ct_X10_amount {l : Launch} {h : XH} (hl : l.stackTraces = false) {z : Int64} {σ : XS9} (hbs : xx_bs h) (hc : σ 9000 20 = nI 1) {B : Nat} (hB : σ 5002 900 = nI B) (hB6 : B ≤ 6) {pk : Nat → Nat} (hpk : ∀ j, j < B → σ (5030 + j) 900 = nI (2 * pk j) ∧ pk j ≤ 6) (hpi : ∀ j, j < B → σ 9001 j = -1 ∨ ∃ n, n < pk j ∧ σ 9001 j = nI n) {i : Nat} (hi : i < B) : XEx l m_X10_amount 4 0 0 [.ref 9000, .int (nI i)] (setM z σ h) (some (.int (f_Camount σ i))) (setM z σ h) := by
  refine XMet.of hl rfl rfl (Nat.le_of_ble_eq_true rfl) (fun Y O hh hQ => ?_)
  show SW Y 0 0 (setM z σ h) 0 [.ref 9000, .int (nI i)] []
  refine sw_aload_n O (xx_dt dd_X10_amount 0 rfl) rfl ?_
  refine sw_get (v := .ref 9001) O (xx_dt dd_X10_amount 1 rfl) cl_X10 fl_X10_15 (lm_9000 (σ := σ) (fl1 hc)) (by decide) rfl ?_
  refine sw_iload_n O (xx_dt dd_X10_amount 2 rfl) rfl ?_
  refine sw_iaload (v := .int (σ 9001 i)) O (xx_dt dd_X10_amount 3 rfl) ((im_9001 (z := z) (σ := σ) hc).get _) (pk_in i _ (by omega)) (by rw [nI_clamp (by omega)]; try exact rfl) ?_
  refine sw_iconst (x := (-1)) O (xx_dt dd_X10_amount 4 rfl) (by decide) ?_
  refine sw_icmp_ne (tgt := 14) O (xx_dt dd_X10_amount 5 rfl) (by decide) (fun q1 => ?_) (fun q1 => ?_)
  · refine sw_aload_n O (xx_dt dd_X10_amount 8 rfl) rfl ?_
    refine sw_get (v := .ref 5000) O (xx_dt dd_X10_amount 9 rfl) cl_X10 fl_X10_3 (lm_9000 (σ := σ) (fl1 hc)) (by decide) rfl ?_
    refine sw_get (v := .ref 5002) O (xx_dt dd_X10_amount 10 rfl) cl_X14 fl_X10_67 (lm_mod (σ := σ)) (by decide) rfl ?_
    refine sw_iload_n O (xx_dt dd_X10_amount 11 rfl) rfl ?_
    refine sw_callVL (ci := 6) (as := [.int (nI i)]) (st := []) (st2 := [.ref (5020 + i)]) O (ct_get hl hbs (lm_5002 (σ := σ) (B := B) hB (by omega)) (by omega) (i := i) (x := 5020 + i) (by omega) (by omega) rfl) ce_Jx4a65c_get_915e3 ml_X10_45 iv_Jx4a65c_get_915e3 cl_Jx4a65c rfl (lm_5002 (σ := σ) (B := B) hB (by omega)) (xx_dt dd_X10_amount 12 rfl) (by decide) rfl rfl (Nat.le_of_ble_eq_true rfl) rfl ?_
    refine sw_castO O (xx_dt dd_X10_amount 13 rfl) cl_X9 (lm_bid (σ := σ) (B := B) hB (by omega) (j := i) (by omega)) cw_X10_76 ?_
    refine sw_aload_n O (xx_dt dd_X10_amount 14 rfl) rfl ?_
    refine sw_get (v := .ref 9001) O (xx_dt dd_X10_amount 15 rfl) cl_X10 fl_X10_15 (lm_9000 (σ := σ) (fl1 hc)) (by decide) rfl ?_
    refine sw_iload_n O (xx_dt dd_X10_amount 16 rfl) rfl ?_
    have hz33 := (kept_nat (hpi i (by omega)) (by assumption) (by have h9 := (hpk i (by omega)).2; omega)).2
    refine sw_iaload (v := .int (nI (cn (σ 9001 i)))) O (xx_dt dd_X10_amount 17 rfl) ((im_9001 (z := z) (σ := σ) hc).get _) (pk_in i _ (by omega)) (by rw [nI_clamp (by omega)]; exact (congrArg Value.int (kept_nat (hpi i (by omega)) (by assumption) (by have h9 := (hpk i (by omega)).2; omega)).1)) ?_
    refine sw_callVx (as := [.int (nI (cn (σ 9001 i)))]) (st := []) (st2 := [.int (f_Bamount σ i (cn (σ 9001 i)))]) O (ct_X9_amount hl (z := z) (σ := σ) hbs (B := B) hB (by omega) (j := i) (by omega) (p := pk i) (hpk i (by omega)).1 (by have h9 := (hpk i (by omega)).2; omega) (k := cn (σ 9001 i)) (by first | omega | (have h9 := (hpk i (by omega)).2; omega))) ce_X9_amount ml_X10_97 iv_X9_amount cl_X9 rfl (lm_bid (σ := σ) (B := B) hB (by omega) (j := i) (by omega)) (xx_dt dd_X10_amount 18 rfl) (by decide) rfl rfl (Nat.le_of_ble_eq_true rfl) rfl ?_
    exact sw_iret O (xx_dt dd_X10_amount 19 rfl) rfl rfl (by rw [hQ]; exact ⟨by unfold f_Camount; simp only [if_neg q1], rfl⟩)
  · refine sw_iconst (x := 0) O (xx_dt dd_X10_amount 6 rfl) (by decide) ?_
    refine sw_goto (tgt := 37) O (xx_dt dd_X10_amount 7 rfl) (by decide) ?_
    exact sw_iret O (xx_dt dd_X10_amount 19 rfl) rfl rfl (by rw [hQ]; exact ⟨by unfold f_Camount; simp only [if_pos q1], rfl⟩)
def x_Cwinners_4 (σ : XS9)  (s0 : Int32) : Int32 := xit (fun i4 s4 => (if (σ 9001 i4) = (-1) then s4 ||| 0 else s4 ||| (1 <<< ((nI i4) &&& 31)))) 6 0 s0
def f_Cwinners (σ : XS9)  : Int32 := (x_Cwinners_4 σ 0)
theorem ct_X10_winners {l : Launch} {h : XH} (hl : l.stackTraces = false) {z : Int64} {σ : XS9} (hbs : xx_bs h) (hc : σ 9000 20 = nI 1)  : XEx l m_X10_winners 0 0 0 [.ref 9000] (setM z σ h) (some (.int (f_Cwinners σ))) (setM z σ h) := by
  refine XMet.of hl rfl rfl (Nat.le_of_ble_eq_true rfl) (fun Y O hh hQ => ?_)
  show SW Y 0 0 (setM z σ h) 0 [.ref 9000, xx_d, xx_d] []
  refine sw_iconst (x := 0) O (xx_dt dd_X10_winners 0 rfl) (by decide) ?_
  refine sw_istore_n (ls2 := [.ref 9000, .int 0, xx_d]) O (xx_dt dd_X10_winners 1 rfl) (by decide) rfl ?_
  refine sw_iconst (x := 0) O (xx_dt dd_X10_winners 2 rfl) (by decide) ?_
  refine sw_istore_n (ls2 := [.ref 9000, .int 0, .int 0]) O (xx_dt dd_X10_winners 3 rfl) (by decide) rfl ?_
  refine sw_for (S := Int32) (fun i4 s4 => (if (σ 9001 i4) = (-1) then s4 ||| 0 else s4 ||| (1 <<< ((nI i4) &&& 31)))) (fun _ _ => True) (hp := fun _ => setM z σ h) (hd := 4) (lc := fun i4 s4 => [.ref 9000, .int s4, .int (nI i4)]) (N := 6) (fun i4 s4 hi4 hP4 => ⟨trivial, fun kk4 => ?_⟩) 6 0 0 (by omega) (trivial) (fun hP4 => ?_)
  · refine sw_iload_n O (xx_dt dd_X10_winners 4 rfl) rfl ?_
    refine sw_bipush (x := 6) O (xx_dt dd_X10_winners 5 rfl) (by decide) ?_
    refine sw_icmp_ge (tgt := 36) O (xx_dt dd_X10_winners 6 rfl) (by decide) (fun q1 => ?_) (fun q1 => ?_)
    · exact absurd q1 (nI_ge (b := 6) hi4 (by omega))
    · refine sw_iload_n O (xx_dt dd_X10_winners 7 rfl) rfl ?_
      refine sw_aload_n O (xx_dt dd_X10_winners 8 rfl) rfl ?_
      refine sw_get (v := .ref 9001) O (xx_dt dd_X10_winners 9 rfl) cl_X10 fl_X10_15 (lm_9000 (σ := σ) (fl1 hc)) (by decide) rfl ?_
      refine sw_iload_n O (xx_dt dd_X10_winners 10 rfl) rfl ?_
      refine sw_iaload (v := .int (σ 9001 i4)) O (xx_dt dd_X10_winners 11 rfl) ((im_9001 (z := z) (σ := σ) hc).get _) (pk_in i4 _ (by omega)) (by rw [nI_clamp (by omega)]; try exact rfl) ?_
      refine sw_iconst (x := (-1)) O (xx_dt dd_X10_winners 12 rfl) (by decide) ?_
      refine sw_icmp_ne (tgt := 25) O (xx_dt dd_X10_winners 13 rfl) (by decide) (fun q2 => ?_) (fun q2 => ?_)
      · refine sw_iconst (x := 1) O (xx_dt dd_X10_winners 16 rfl) (by decide) ?_
        refine sw_iload_n O (xx_dt dd_X10_winners 17 rfl) rfl ?_
        refine sw_ishl O (xx_dt dd_X10_winners 18 rfl) ?_
        refine sw_ior O (xx_dt dd_X10_winners 19 rfl) ?_
        refine sw_istore_n (ls2 := [.ref 9000, .int (s4 ||| (1 <<< ((nI i4) &&& 31))), .int (nI i4)]) O (xx_dt dd_X10_winners 20 rfl) (by decide) rfl ?_
        refine sw_iinc (y := nI (i4 + 1)) (ls2 := [.ref 9000, .int (s4 ||| (1 <<< ((nI i4) &&& 31))), .int (nI (i4 + 1))]) O (xx_dt dd_X10_winners 21 rfl) rfl (nI_1 _) (by decide) rfl ?_
        refine sw_goto (tgt := 4) O (xx_dt dd_X10_winners 22 rfl) (by decide) ?_
        simp only [if_neg q2] at kk4
        exact kk4
      · refine sw_iconst (x := 0) O (xx_dt dd_X10_winners 14 rfl) (by decide) ?_
        refine sw_goto (tgt := 28) O (xx_dt dd_X10_winners 15 rfl) (by decide) ?_
        refine sw_ior O (xx_dt dd_X10_winners 19 rfl) ?_
        refine sw_istore_n (ls2 := [.ref 9000, .int (s4 ||| 0), .int (nI i4)]) O (xx_dt dd_X10_winners 20 rfl) (by decide) rfl ?_
        refine sw_iinc (y := nI (i4 + 1)) (ls2 := [.ref 9000, .int (s4 ||| 0), .int (nI (i4 + 1))]) O (xx_dt dd_X10_winners 21 rfl) rfl (nI_1 _) (by decide) rfl ?_
        refine sw_goto (tgt := 4) O (xx_dt dd_X10_winners 22 rfl) (by decide) ?_
        simp only [if_pos q2] at kk4
        exact kk4
  · show SW Y _ _ (setM z σ h) 4 [.ref 9000, .int (x_Cwinners_4 σ 0), .int (nI 6)] []
    refine sw_iload_n O (xx_dt dd_X10_winners 4 rfl) rfl ?_
    refine sw_bipush (x := 6) O (xx_dt dd_X10_winners 5 rfl) (by decide) ?_
    refine sw_icmp_ge (tgt := 36) O (xx_dt dd_X10_winners 6 rfl) (by decide) (fun q1 => ?_) (fun q1 => ?_)
    · refine sw_iload_n O (xx_dt dd_X10_winners 23 rfl) rfl ?_
      exact sw_iret O (xx_dt dd_X10_winners 24 rfl) rfl rfl (by rw [hQ]; exact ⟨by unfold f_Cwinners; rfl, rfl⟩)
    · exact absurd (Int32.le_refl _) q1
def f_Cworth (σ : XS9) (S : Nat) : Int32 := σ 9003 S
theorem ct_X10_worth {l : Launch} {h : XH} (hl : l.stackTraces = false) {z : Int64} {σ : XS9} (hbs : xx_bs h) (hc : σ 9000 20 = nI 1) {S : Nat} (hS : S < 64) : XEx l m_X10_worth 0 0 0 [.ref 9000, .int (nI S)] (setM z σ h) (some (.int (f_Cworth σ S))) (setM z σ h) := by
  refine XMet.of hl rfl rfl (Nat.le_of_ble_eq_true rfl) (fun Y O hh hQ => ?_)
  show SW Y 0 0 (setM z σ h) 0 [.ref 9000, .int (nI S)] []
  refine sw_aload_n O (xx_dt dd_X10_worth 0 rfl) rfl ?_
  refine sw_get (v := .ref 9003) O (xx_dt dd_X10_worth 1 rfl) cl_X10 fl_X10_22 (lm_9000 (σ := σ) (fl1 hc)) (by decide) rfl ?_
  refine sw_iload_n O (xx_dt dd_X10_worth 2 rfl) rfl ?_
  refine sw_iaload (v := .int (σ 9003 S)) O (xx_dt dd_X10_worth 3 rfl) ((im_9003 (z := z) (σ := σ) hc).get _) (pk_in S _ (by omega)) (by rw [nI_clamp (by omega)]; try exact rfl) ?_
  exact sw_iret O (xx_dt dd_X10_worth 4 rfl) rfl rfl (by rw [hQ]; exact ⟨by unfold f_Cworth; rfl, rfl⟩)
theorem pow_le6 {B : Nat} (hB : B ≤ 6) : 2 ^ B ≤ 64 ∧ 0 < 2 ^ B := by
  have : ∀ a : Fin 7, 2 ^ a.1 ≤ 64 ∧ 0 < 2 ^ a.1 := by decide
  exact this ⟨B, by omega⟩
def bclr (S k : Nat) : Nat := S &&& (63 - 2 ^ k)
theorem bclr_lt {S k : Nat} (hS : S < 64) : bclr S k < 64 := Nat.lt_of_le_of_lt Nat.and_le_left hS
theorem bclr_eq {S k : Nat} (hS : S < 64) (hk : k < 6) : nI S &&& (((1 : Int32) <<< (nI k &&& 31)) ^^^ (-1)) = nI (bclr S k) := by
  have : ∀ (a : Fin 64) (b : Fin 6), nI a.1 &&& (((1 : Int32) <<< (nI b.1 &&& 31)) ^^^ (-1)) = nI (bclr a.1 b.1) := by decide +kernel
  exact this ⟨S, hS⟩ ⟨k, hk⟩
theorem nI_prd {a : Nat} (ha : 0 < a) : nI a + (-1) = nI (a - 1) := by
  obtain ⟨b, rfl⟩ : ∃ b, a = b + 1 := ⟨a - 1, by omega⟩
  exact pk_m1 b
def f_Call (σ : XS9) (B : Nat) : Int32 := nI (2 ^ B - 1)
theorem ct_Call0 {l : Launch} {h : XH} (hl : l.stackTraces = false) {z : Int64} {σ : XS9} (hbs : xx_bs h) (hc : σ 9000 20 = nI 1) {B : Nat} (hB : σ 5002 900 = nI B) (hB6 : B ≤ 6)  : XEx l m_X10_all 1 0 0 [.ref 9000] (setM z σ h) (some (.int (f_Call σ B))) (setM z σ h) := by
  refine XMet.of hl rfl rfl (Nat.le_of_ble_eq_true rfl) (fun Y O hh hQ => ?_)
  show SW Y 0 0 (setM z σ h) 0 [.ref 9000] []
  refine sw_iconst (x := 1) O (xx_dt dd_X10_all 0 rfl) (by decide) ?_
  refine sw_aload_n O (xx_dt dd_X10_all 1 rfl) rfl ?_
  refine sw_get (v := .ref 5000) O (xx_dt dd_X10_all 2 rfl) cl_X10 fl_X10_3 (lm_9000 (σ := σ) (fl1 hc)) (by decide) rfl ?_
  refine sw_get (v := .ref 5002) O (xx_dt dd_X10_all 3 rfl) cl_X14 fl_X10_67 (lm_mod (σ := σ)) (by decide) rfl ?_
  refine sw_callVL (ci := 6) (as := []) (st := [.int 1]) (st2 := [.int (nI B), .int 1]) O (ct_AL_size hl (lm_5002 (σ := σ) (B := B) hB (by omega))) ce_Jx4a65c_size_8abf5 ml_X10_39 iv_Jx4a65c_size_8abf5 cl_Jx4a65c rfl (lm_5002 (σ := σ) (B := B) hB (by omega)) (xx_dt dd_X10_all 4 rfl) (by decide) rfl rfl (Nat.le_of_ble_eq_true rfl) rfl ?_
  refine sw_ishl O (xx_dt dd_X10_all 5 rfl) ?_
  refine sw_iconst (x := 1) O (xx_dt dd_X10_all 6 rfl) (by decide) ?_
  refine sw_isub O (xx_dt dd_X10_all 7 rfl) ?_
  have hx13 := pow_le6 hB6
  rw [all_nat (C := B) (by omega)]
  exact sw_iret O (xx_dt dd_X10_all 8 rfl) rfl rfl (by rw [hQ]; exact ⟨by unfold f_Call; rfl, rfl⟩)
theorem ct_X10_all {l : Launch} {h : XH} (hl : l.stackTraces = false) {z : Int64} {σ : XS9} (hbs : xx_bs h) (hc : σ 9000 20 = nI 1) {B : Nat} (hB : σ 5002 900 = nI B) (hB6 : B ≤ 6)  : XEx l m_X10_all 1 0 0 [.ref 9000] (setM z σ h) (some (.int (nI (2 ^ B - 1)))) (setM z σ h) := ct_Call0 hl hbs hc hB hB6
def x_Cobjection_9 (σ : XS9) (S qa B : Nat) (s0 : Int32) : Int32 := xit (fun i9 s9 => (if (((nI S) >>> ((nI i9) &&& 31)) &&& 1) = 1 then s9 - (f_Camount σ i9) else (if (σ 9001 i9) = (-1) then s9 - 0 else s9 - (σ qa i9)))) B 0 s0
def f_Cobjection (σ : XS9) (S qa B : Nat) : Int32 := (x_Cobjection_9 σ S qa B (f_Cworth σ S))
theorem ct_X10_objection {l : Launch} {h : XH} (hl : l.stackTraces = false) {z : Int64} {σ : XS9} (hbs : xx_bs h) (hc : σ 9000 20 = nI 1) {B : Nat} (hB : σ 5002 900 = nI B) (hB6 : B ≤ 6) {pk : Nat → Nat} (hpk : ∀ j, j < B → σ (5030 + j) 900 = nI (2 * pk j) ∧ pk j ≤ 6) (hpi : ∀ j, j < B → σ 9001 j = -1 ∨ ∃ n, n < pk j ∧ σ 9001 j = nI n) {qa : Nat} (hqa : 20000 ≤ qa ∧ qa < 20010) (hqf : σ qa 20 = nI 1) (hqn : σ qa 21 = nI 6) {S : Nat} (hS : S < 64) : XEx l m_X10_objection 5 0 0 [.ref 9000, .int (nI S), .ref qa] (setM z σ h) (some (.int (f_Cobjection σ S qa B))) (setM z σ h) := by
  refine XMet.of hl rfl rfl (Nat.le_of_ble_eq_true rfl) (fun Y O hh hQ => ?_)
  show SW Y 0 0 (setM z σ h) 0 [.ref 9000, .int (nI S), .ref qa, xx_d, xx_d] []
  refine sw_aload_n O (xx_dt dd_X10_objection 0 rfl) rfl ?_
  refine sw_iload_n O (xx_dt dd_X10_objection 1 rfl) rfl ?_
  refine sw_callVx (as := [.int (nI S)]) (st := []) (st2 := [.int (f_Cworth σ S)]) O (ct_X10_worth hl (z := z) (σ := σ) hbs hc (S := S) (by first | omega | assumption)) ce_X10_worth ml_X10_106 iv_X10_worth cl_X10 rfl (lm_9000 (σ := σ) (fl1 hc)) (xx_dt dd_X10_objection 2 rfl) (by decide) rfl rfl (Nat.le_of_ble_eq_true rfl) rfl ?_
  refine sw_istore_n (ls2 := [.ref 9000, .int (nI S), .ref qa, .int (f_Cworth σ S), xx_d]) O (xx_dt dd_X10_objection 3 rfl) (by decide) rfl ?_
  refine sw_iconst (x := 0) O (xx_dt dd_X10_objection 4 rfl) (by decide) ?_
  refine sw_istore (ls2 := [.ref 9000, .int (nI S), .ref qa, .int (f_Cworth σ S), .int 0]) O (xx_dt dd_X10_objection 5 rfl) (by decide) rfl ?_
  refine sw_for (S := Int32) (fun i9 s9 => (if (((nI S) >>> ((nI i9) &&& 31)) &&& 1) = 1 then s9 - (f_Camount σ i9) else (if (σ 9001 i9) = (-1) then s9 - 0 else s9 - (σ qa i9)))) (fun _ _ => True) (hp := fun _ => setM z σ h) (hd := 9) (lc := fun i9 s9 => [.ref 9000, .int (nI S), .ref qa, .int s9, .int (nI i9)]) (N := B) (fun i9 s9 hi9 hP9 => ⟨trivial, fun kk9 => ?_⟩) B 0 (f_Cworth σ S) (by omega) (trivial) (fun hP9 => ?_)
  · refine sw_iload O (xx_dt dd_X10_objection 6 rfl) rfl ?_
    refine sw_aload_n O (xx_dt dd_X10_objection 7 rfl) rfl ?_
    refine sw_get (v := .ref 5000) O (xx_dt dd_X10_objection 8 rfl) cl_X10 fl_X10_3 (lm_9000 (σ := σ) (fl1 hc)) (by decide) rfl ?_
    refine sw_get (v := .ref 5002) O (xx_dt dd_X10_objection 9 rfl) cl_X14 fl_X10_67 (lm_mod (σ := σ)) (by decide) rfl ?_
    refine sw_callVL (ci := 6) (as := []) (st := [.int (nI i9)]) (st2 := [.int (nI B), .int (nI i9)]) O (ct_AL_size hl (lm_5002 (σ := σ) (B := B) hB (by omega))) ce_Jx4a65c_size_8abf5 ml_X10_39 iv_Jx4a65c_size_8abf5 cl_Jx4a65c rfl (lm_5002 (σ := σ) (B := B) hB (by omega)) (xx_dt dd_X10_objection 10 rfl) (by decide) rfl rfl (Nat.le_of_ble_eq_true rfl) rfl ?_
    refine sw_icmp_ge (tgt := 71) O (xx_dt dd_X10_objection 11 rfl) (by decide) (fun q1 => ?_) (fun q1 => ?_)
    · exact absurd q1 (nI_ge (b := B) hi9 (by omega))
    · refine sw_iload_n O (xx_dt dd_X10_objection 12 rfl) rfl ?_
      refine sw_iload_n O (xx_dt dd_X10_objection 13 rfl) rfl ?_
      refine sw_iload O (xx_dt dd_X10_objection 14 rfl) rfl ?_
      refine sw_ishr O (xx_dt dd_X10_objection 15 rfl) ?_
      refine sw_iconst (x := 1) O (xx_dt dd_X10_objection 16 rfl) (by decide) ?_
      refine sw_iand O (xx_dt dd_X10_objection 17 rfl) ?_
      refine sw_iconst (x := 1) O (xx_dt dd_X10_objection 18 rfl) (by decide) ?_
      refine sw_icmp_ne (tgt := 44) O (xx_dt dd_X10_objection 19 rfl) (by decide) (fun q2 => ?_) (fun q2 => ?_)
      · refine sw_aload_n O (xx_dt dd_X10_objection 24 rfl) rfl ?_
        refine sw_get (v := .ref 9001) O (xx_dt dd_X10_objection 25 rfl) cl_X10 fl_X10_15 (lm_9000 (σ := σ) (fl1 hc)) (by decide) rfl ?_
        refine sw_iload O (xx_dt dd_X10_objection 26 rfl) rfl ?_
        refine sw_iaload (v := .int (σ 9001 i9)) O (xx_dt dd_X10_objection 27 rfl) ((im_9001 (z := z) (σ := σ) hc).get _) (pk_in i9 _ (by omega)) (by rw [nI_clamp (by omega)]; try exact rfl) ?_
        refine sw_iconst (x := (-1)) O (xx_dt dd_X10_objection 28 rfl) (by decide) ?_
        refine sw_icmp_ne (tgt := 59) O (xx_dt dd_X10_objection 29 rfl) (by decide) (fun q3 => ?_) (fun q3 => ?_)
        · refine sw_aload_n O (xx_dt dd_X10_objection 32 rfl) rfl ?_
          refine sw_iload O (xx_dt dd_X10_objection 33 rfl) rfl ?_
          refine sw_iaload (v := .int (σ qa i9)) O (xx_dt dd_X10_objection 34 rfl) ((lm_tmp (z := z) (σ := σ) (h := h) (q := qa) (by omega) (fl1 hqf) hqn (by omega)).get _) (pk_in i9 _ (by omega)) (by rw [nI_clamp (by omega)]; try exact rfl) ?_
          refine sw_isub O (xx_dt dd_X10_objection 35 rfl) ?_
          refine sw_istore_n (ls2 := [.ref 9000, .int (nI S), .ref qa, .int (s9 - (σ qa i9)), .int (nI i9)]) O (xx_dt dd_X10_objection 36 rfl) (by decide) rfl ?_
          refine sw_iinc (y := nI (i9 + 1)) (ls2 := [.ref 9000, .int (nI S), .ref qa, .int (s9 - (σ qa i9)), .int (nI (i9 + 1))]) O (xx_dt dd_X10_objection 37 rfl) rfl (nI_1 _) (by decide) rfl ?_
          refine sw_goto (tgt := 9) O (xx_dt dd_X10_objection 38 rfl) (by decide) ?_
          simp only [if_neg q2, if_neg q3] at kk9
          exact kk9
        · refine sw_iconst (x := 0) O (xx_dt dd_X10_objection 30 rfl) (by decide) ?_
          refine sw_goto (tgt := 63) O (xx_dt dd_X10_objection 31 rfl) (by decide) ?_
          refine sw_isub O (xx_dt dd_X10_objection 35 rfl) ?_
          refine sw_istore_n (ls2 := [.ref 9000, .int (nI S), .ref qa, .int (s9 - 0), .int (nI i9)]) O (xx_dt dd_X10_objection 36 rfl) (by decide) rfl ?_
          refine sw_iinc (y := nI (i9 + 1)) (ls2 := [.ref 9000, .int (nI S), .ref qa, .int (s9 - 0), .int (nI (i9 + 1))]) O (xx_dt dd_X10_objection 37 rfl) rfl (nI_1 _) (by decide) rfl ?_
          refine sw_goto (tgt := 9) O (xx_dt dd_X10_objection 38 rfl) (by decide) ?_
          simp only [if_neg q2, if_pos q3] at kk9
          exact kk9
      · refine sw_aload_n O (xx_dt dd_X10_objection 20 rfl) rfl ?_
        refine sw_iload O (xx_dt dd_X10_objection 21 rfl) rfl ?_
        refine sw_callVx (as := [.int (nI i9)]) (st := [.int s9]) (st2 := [.int (f_Camount σ i9), .int s9]) O (ct_X10_amount hl (z := z) (σ := σ) hbs hc (B := B) hB (by omega) (pk := pk) hpk hpi (i := i9) (by omega)) ce_X10_amount ml_X10_109 iv_X10_amount cl_X10 rfl (lm_9000 (σ := σ) (fl1 hc)) (xx_dt dd_X10_objection 22 rfl) (by decide) rfl rfl (Nat.le_of_ble_eq_true rfl) rfl ?_
        refine sw_goto (tgt := 63) O (xx_dt dd_X10_objection 23 rfl) (by decide) ?_
        refine sw_isub O (xx_dt dd_X10_objection 35 rfl) ?_
        refine sw_istore_n (ls2 := [.ref 9000, .int (nI S), .ref qa, .int (s9 - (f_Camount σ i9)), .int (nI i9)]) O (xx_dt dd_X10_objection 36 rfl) (by decide) rfl ?_
        refine sw_iinc (y := nI (i9 + 1)) (ls2 := [.ref 9000, .int (nI S), .ref qa, .int (s9 - (f_Camount σ i9)), .int (nI (i9 + 1))]) O (xx_dt dd_X10_objection 37 rfl) rfl (nI_1 _) (by decide) rfl ?_
        refine sw_goto (tgt := 9) O (xx_dt dd_X10_objection 38 rfl) (by decide) ?_
        simp only [if_pos q2] at kk9
        exact kk9
  · show SW Y _ _ (setM z σ h) 9 [.ref 9000, .int (nI S), .ref qa, .int (x_Cobjection_9 σ S qa B (f_Cworth σ S)), .int (nI B)] []
    refine sw_iload O (xx_dt dd_X10_objection 6 rfl) rfl ?_
    refine sw_aload_n O (xx_dt dd_X10_objection 7 rfl) rfl ?_
    refine sw_get (v := .ref 5000) O (xx_dt dd_X10_objection 8 rfl) cl_X10 fl_X10_3 (lm_9000 (σ := σ) (fl1 hc)) (by decide) rfl ?_
    refine sw_get (v := .ref 5002) O (xx_dt dd_X10_objection 9 rfl) cl_X14 fl_X10_67 (lm_mod (σ := σ)) (by decide) rfl ?_
    refine sw_callVL (ci := 6) (as := []) (st := [.int (nI B)]) (st2 := [.int (nI B), .int (nI B)]) O (ct_AL_size hl (lm_5002 (σ := σ) (B := B) hB (by omega))) ce_Jx4a65c_size_8abf5 ml_X10_39 iv_Jx4a65c_size_8abf5 cl_Jx4a65c rfl (lm_5002 (σ := σ) (B := B) hB (by omega)) (xx_dt dd_X10_objection 10 rfl) (by decide) rfl rfl (Nat.le_of_ble_eq_true rfl) rfl ?_
    refine sw_icmp_ge (tgt := 71) O (xx_dt dd_X10_objection 11 rfl) (by decide) (fun q1 => ?_) (fun q1 => ?_)
    · refine sw_iload_n O (xx_dt dd_X10_objection 39 rfl) rfl ?_
      exact sw_iret O (xx_dt dd_X10_objection 40 rfl) rfl rfl (by rw [hQ]; exact ⟨by unfold f_Cobjection; rfl, rfl⟩)
    · exact absurd (Int32.le_refl _) q1
def x_Craise_22 (σ : XS9) (S x qa B : Nat) (s6 : XS9 × Nat × Int32) (s0 : XS9 × Nat × Int32) : XS9 × Nat × Int32 := xitB (fun i22 s22 => (if (nI (s22.2.1)) ≤ 0 then .inr (s22.1, s22.2.1, s22.2.2) else (if (((nI S) >>> ((nI i22) &&& 31)) &&& 1) = 1 then .inl (s22.1, s22.2.1, s22.2.2) else (if (σ 9001 i22) = (-1) then .inl (s22.1, s22.2.1, s22.2.2) else (if (s22.1 qa i22) < (f_Camount s22.1 i22) then .inl (u2 s22.1 qa i22 ((s22.1 qa i22) + 1), s22.2.1 - 1, 1) else .inl (s22.1, s22.2.1, s22.2.2)))))) B 0 s0
def x_Craise_6 (σ : XS9) (S x qa B : Nat) (s0 : XS9 × Nat × Int32) : XS9 × Nat × Int32 := xitB (fun i6 s6 => (if (nI (s6.2.1)) ≤ 0 then .inr (s6.1, s6.2.1, s6.2.2) else (if s6.2.2 = 0 then .inr (s6.1, s6.2.1, s6.2.2) else .inl ((x_Craise_22 σ S x qa B s6 (s6.1, s6.2.1, 0)).1, (x_Craise_22 σ S x qa B s6 (s6.1, s6.2.1, 0)).2.1, (x_Craise_22 σ S x qa B s6 (s6.1, s6.2.1, 0)).2.2)))) (x + 1) 0 s0
theorem raise_in {σ : XS9} {S x qa B : Nat} {s6 : XS9 × Nat × Int32} (hB6 : B ≤ 6) (hx : s6.2.1 < 2147483648) (h1 : s6.1 qa 20 = nI 1) (h2 : s6.1 qa 21 = nI 6) (hf : ∀ q9, q9 ≠ qa → s6.1 q9 = σ q9) : (x_Craise_22 σ S x qa B s6 (s6.1, s6.2.1, 0)).1 qa 20 = nI 1 ∧ (x_Craise_22 σ S x qa B s6 (s6.1, s6.2.1, 0)).1 qa 21 = nI 6 ∧ (∀ q9, q9 ≠ qa → (x_Craise_22 σ S x qa B s6 (s6.1, s6.2.1, 0)).1 q9 = σ q9) ∧ ((x_Craise_22 σ S x qa B s6 (s6.1, s6.2.1, 0)).2.1 ≤ s6.2.1 ∧ ((x_Craise_22 σ S x qa B s6 (s6.1, s6.2.1, 0)).2.2 = 0 ∨ (x_Craise_22 σ S x qa B s6 (s6.1, s6.2.1, 0)).2.1 + 1 ≤ s6.2.1)) := by
  unfold x_Craise_22
  refine xitB_inv (fun s22 : XS9 × Nat × Int32 => s22.1 qa 20 = nI 1 ∧ s22.1 qa 21 = nI 6 ∧ (∀ q9, q9 ≠ qa → s22.1 q9 = σ q9) ∧ (s22.2.1 ≤ s6.2.1 ∧ (s22.2.2 = 0 ∨ s22.2.1 + 1 ≤ s6.2.1))) (N := B) (fun i22 s22 hi22 hP22 => ⟨(by intro s' e'; revert e'; (try dsimp only); (repeat' split) <;> intro e' <;> first | (cases e'; done) | (have e9 := Sum.inl.inj e'; subst e9; first | exact hP22 | (refine ⟨by dsimp only; rw [u2_oi (by omega)]; exact hP22.1, by dsimp only; rw [u2_oi (by omega)]; exact hP22.2.1, fun q9 hq9 => by dsimp only; rw [u2_ne hq9]; exact hP22.2.2.1 q9 hq9, ?_⟩; have h1 := hP22.2.2.2.1; have h2 := hx; have h0 : ¬ s22.2.1 = 0 := fun h => absurd ((nI_le0 (by omega)).mpr h) (by assumption); exact ⟨by dsimp only; omega, .inr (by dsimp only; omega)⟩))), (by intro s' e'; revert e'; (try dsimp only); (repeat' split) <;> intro e' <;> first | (cases e'; done) | (have e9 := Sum.inr.inj e'; subst e9; first | exact hP22 | (refine ⟨by dsimp only; rw [u2_oi (by omega)]; exact hP22.1, by dsimp only; rw [u2_oi (by omega)]; exact hP22.2.1, fun q9 hq9 => by dsimp only; rw [u2_ne hq9]; exact hP22.2.2.1 q9 hq9, ?_⟩; have h1 := hP22.2.2.2.1; have h2 := hx; have h0 : ¬ s22.2.1 = 0 := fun h => absurd ((nI_le0 (by omega)).mpr h) (by assumption); exact ⟨by dsimp only; omega, .inr (by dsimp only; omega)⟩)))⟩) B 0 (s6.1, s6.2.1, 0) (by omega) ⟨h1, h2, hf, Nat.le_refl _, .inl rfl⟩
def g_Craise (σ : XS9) (S x qa B : Nat) : XS9 := (x_Craise_6 σ S x qa B (σ, x, 1)).1
theorem ct_X10_raise {l : Launch} {h : XH} (hl : l.stackTraces = false) {z : Int64} {σ : XS9} (hbs : xx_bs h) (hc : σ 9000 20 = nI 1) {B : Nat} (hB : σ 5002 900 = nI B) (hB6 : B ≤ 6) {pk : Nat → Nat} (hpk : ∀ j, j < B → σ (5030 + j) 900 = nI (2 * pk j) ∧ pk j ≤ 6) (hpi : ∀ j, j < B → σ 9001 j = -1 ∨ ∃ n, n < pk j ∧ σ 9001 j = nI n) {qa : Nat} (hqa : 20000 ≤ qa ∧ qa < 20010) (hqf : σ qa 20 = nI 1) (hqn : σ qa 21 = nI 6) {S x : Nat} (hS : S < 64) (hx : x < 2147483648) : XEx l m_X10_raise 5 0 0 [.ref 9000, .int (nI S), .int (nI x), .ref qa] (setM z σ h) (none) (setM z (g_Craise σ S x qa B) h) := by
  refine XMet.of hl rfl rfl (Nat.le_of_ble_eq_true rfl) (fun Y O hh hQ => ?_)
  show SW Y 0 0 (setM z σ h) 0 [.ref 9000, .int (nI S), .int (nI x), .ref qa, xx_d, xx_d, xx_d] []
  refine sw_iload_n O (xx_dt dd_X10_raise 0 rfl) rfl ?_
  refine sw_istore (ls2 := [.ref 9000, .int (nI S), .int (nI x), .ref qa, .int (nI x), xx_d, xx_d]) O (xx_dt dd_X10_raise 1 rfl) (by decide) rfl ?_
  refine sw_iconst (x := 1) O (xx_dt dd_X10_raise 2 rfl) (by decide) ?_
  refine sw_istore (ls2 := [.ref 9000, .int (nI S), .int (nI x), .ref qa, .int (nI x), .int 1, xx_d]) O (xx_dt dd_X10_raise 3 rfl) (by decide) rfl ?_
  refine sw_forB (S := XS9 × Nat × Int32) (fun i6 s6 => (if (nI (s6.2.1)) ≤ 0 then .inr (s6.1, s6.2.1, s6.2.2) else (if s6.2.2 = 0 then .inr (s6.1, s6.2.1, s6.2.2) else .inl ((x_Craise_22 σ S x qa B s6 (s6.1, s6.2.1, 0)).1, (x_Craise_22 σ S x qa B s6 (s6.1, s6.2.1, 0)).2.1, (x_Craise_22 σ S x qa B s6 (s6.1, s6.2.1, 0)).2.2)))) (fun i (s : XS9 × Nat × Int32) => s.1 qa 20 = nI 1 ∧ s.1 qa 21 = nI 6 ∧ (∀ q9, q9 ≠ qa → s.1 q9 = σ q9) ∧ (s.2.1 ≤ x ∧ (s.2.2 = 0 ∨ s.2.1 + i ≤ x))) (fun (s : XS9 × Nat × Int32) => s.1 qa 20 = nI 1 ∧ s.1 qa 21 = nI 6 ∧ (∀ q9, q9 ≠ qa → s.1 q9 = σ q9) ∧ (s.2.1 ≤ x)) (hp := fun s6 => setM z s6.1 h) (hd := 6) (lc := fun i6 s6 => [.ref 9000, .int (nI S), .int (nI x), .ref qa, .int (nI (s6.2.1)), .int s6.2.2, xx_d]) (ex := 102) (lx := fun s6 => [.ref 9000, .int (nI S), .int (nI x), .ref qa, .int (nI (s6.2.1)), .int s6.2.2, xx_d]) (N := (x + 1)) (fun i6 s6 hi6 hP6 => ⟨⟨(by intro s' e'; have h9 := raise_in (σ := σ) (S := S) (x := x) (B := B) hB6 (Nat.lt_of_le_of_lt hP6.2.2.2.1 hx) hP6.1 hP6.2.1 hP6.2.2.1; revert e'; (try dsimp only); (repeat' split) <;> intro e' <;> first | (cases e'; done) | (have e9 := Sum.inl.inj e'; subst e9; refine ⟨h9.1, h9.2.1, h9.2.2.1, Nat.le_trans h9.2.2.2.1 hP6.2.2.2.1, ?_⟩; rcases h9.2.2.2.2 with q | q; exact .inl q; rcases hP6.2.2.2.2 with w | w; exact absurd w (by assumption); exact .inr (by dsimp only; omega))), (by intro s' e'; revert e'; (try dsimp only); (repeat' split) <;> intro e' <;> first | (cases e'; done) | (have e9 := Sum.inr.inj e'; subst e9; exact ⟨hP6.1, hP6.2.1, hP6.2.2.1, hP6.2.2.2.1⟩))⟩, fun kk6 kb6 => ?_⟩) (fun s6 hP6 => ⟨⟨hP6.1, hP6.2.1, hP6.2.2.1, hP6.2.2.2.1⟩, fun kx6 => ?_⟩) (x + 1) 0 (σ, x, 1) (by omega) (⟨hqf, hqn, fun _ _ => rfl, Nat.le_refl _, .inr (Nat.le_refl _)⟩) (fun hP6 => ?_)
  · refine sw_iload O (xx_dt dd_X10_raise 4 rfl) rfl ?_
    have hs6 : s6.2.1 < 2147483648 := Nat.lt_of_le_of_lt hP6.2.2.2.1 hx
    refine sw_if_le (tgt := 102) O (xx_dt dd_X10_raise 5 rfl) (by decide) (fun q2 => ?_) (fun q2 => ?_)
    · exact kb6 (s6.1, s6.2.1, s6.2.2) (by simp only [if_pos q2])
    · refine sw_iload O (xx_dt dd_X10_raise 6 rfl) rfl ?_
      refine sw_if_eq (tgt := 102) O (xx_dt dd_X10_raise 7 rfl) (by decide) (fun q3 => ?_) (fun q3 => ?_)
      · exact kb6 (s6.1, s6.2.1, s6.2.2) (by simp only [if_neg q2, if_pos q3])
      · refine sw_iconst (x := 0) O (xx_dt dd_X10_raise 8 rfl) (by decide) ?_
        refine sw_istore (ls2 := [.ref 9000, .int (nI S), .int (nI x), .ref qa, .int (nI (s6.2.1)), .int 0, xx_d]) O (xx_dt dd_X10_raise 9 rfl) (by decide) rfl ?_
        refine sw_iconst (x := 0) O (xx_dt dd_X10_raise 10 rfl) (by decide) ?_
        refine sw_istore (ls2 := [.ref 9000, .int (nI S), .int (nI x), .ref qa, .int (nI (s6.2.1)), .int 0, .int 0]) O (xx_dt dd_X10_raise 11 rfl) (by decide) rfl ?_
        refine sw_forB (S := XS9 × Nat × Int32) (fun i22 s22 => (if (nI (s22.2.1)) ≤ 0 then .inr (s22.1, s22.2.1, s22.2.2) else (if (((nI S) >>> ((nI i22) &&& 31)) &&& 1) = 1 then .inl (s22.1, s22.2.1, s22.2.2) else (if (σ 9001 i22) = (-1) then .inl (s22.1, s22.2.1, s22.2.2) else (if (s22.1 qa i22) < (f_Camount s22.1 i22) then .inl (u2 s22.1 qa i22 ((s22.1 qa i22) + 1), s22.2.1 - 1, 1) else .inl (s22.1, s22.2.1, s22.2.2)))))) (fun _ s22 => s22.1 qa 20 = nI 1 ∧ s22.1 qa 21 = nI 6 ∧ (∀ q9, q9 ≠ qa → s22.1 q9 = σ q9) ∧ (s22.2.1 ≤ s6.2.1 ∧ (s22.2.2 = 0 ∨ s22.2.1 + 1 ≤ s6.2.1))) (fun s22 => s22.1 qa 20 = nI 1 ∧ s22.1 qa 21 = nI 6 ∧ (∀ q9, q9 ≠ qa → s22.1 q9 = σ q9) ∧ (s22.2.1 ≤ s6.2.1 ∧ (s22.2.2 = 0 ∨ s22.2.1 + 1 ≤ s6.2.1))) (hp := fun s22 => setM z s22.1 h) (hd := 22) (lc := fun i22 s22 => [.ref 9000, .int (nI S), .int (nI x), .ref qa, .int (nI (s22.2.1)), .int s22.2.2, .int (nI i22)]) (ex := 99) (lx := fun s22 => [.ref 9000, .int (nI S), .int (nI x), .ref qa, .int (nI (s22.2.1)), .int s22.2.2, xx_d]) (N := B) (fun i22 s22 hi22 hP22 => ⟨⟨(by intro s' e'; revert e'; (try dsimp only); (repeat' split) <;> intro e' <;> first | (cases e'; done) | (have e9 := Sum.inl.inj e'; subst e9; first | exact hP22 | (refine ⟨by dsimp only; rw [u2_oi (by omega)]; exact hP22.1, by dsimp only; rw [u2_oi (by omega)]; exact hP22.2.1, fun q9 hq9 => by dsimp only; rw [u2_ne hq9]; exact hP22.2.2.1 q9 hq9, ?_⟩; have h1 := hP22.2.2.2.1; have h2 := hs6; have h0 : ¬ s22.2.1 = 0 := fun h => absurd ((nI_le0 (by omega)).mpr h) (by assumption); exact ⟨by dsimp only; omega, .inr (by dsimp only; omega)⟩))), (by intro s' e'; revert e'; (try dsimp only); (repeat' split) <;> intro e' <;> first | (cases e'; done) | (have e9 := Sum.inr.inj e'; subst e9; first | exact hP22 | (refine ⟨by dsimp only; rw [u2_oi (by omega)]; exact hP22.1, by dsimp only; rw [u2_oi (by omega)]; exact hP22.2.1, fun q9 hq9 => by dsimp only; rw [u2_ne hq9]; exact hP22.2.2.1 q9 hq9, ?_⟩; have h1 := hP22.2.2.2.1; have h2 := hs6; have h0 : ¬ s22.2.1 = 0 := fun h => absurd ((nI_le0 (by omega)).mpr h) (by assumption); exact ⟨by dsimp only; omega, .inr (by dsimp only; omega)⟩)))⟩, fun kk22 kb22 => ?_⟩) (fun s22 hP22 => ⟨hP22, fun kx22 => ?_⟩) B 0 (s6.1, s6.2.1, 0) (by omega) (⟨(show s6.1 qa 20 = nI 1 from hP6.1), (show s6.1 qa 21 = nI 6 from hP6.2.1), hP6.2.2.1, ⟨Nat.le_refl _, .inl rfl⟩⟩) (fun hP22 => ?_)
        · refine sw_iload O (xx_dt dd_X10_raise 12 rfl) rfl ?_
          refine sw_aload_n O (xx_dt dd_X10_raise 13 rfl) rfl ?_
          refine sw_get (v := .ref 5000) O (xx_dt dd_X10_raise 14 rfl) cl_X10 fl_X10_3 (lm_9000 (σ := s22.1) (fl1 ((congrFun (hP22.2.2.1 _ (by omega)) 20).trans hc))) (by decide) rfl ?_
          refine sw_get (v := .ref 5002) O (xx_dt dd_X10_raise 15 rfl) cl_X14 fl_X10_67 (lm_mod (σ := s22.1)) (by decide) rfl ?_
          refine sw_callVL (ci := 6) (as := []) (st := [.int (nI i22)]) (st2 := [.int (nI B), .int (nI i22)]) O (ct_AL_size hl (lm_5002 (σ := s22.1) (B := B) ((congrFun (hP22.2.2.1 _ (by omega)) 900).trans hB) (by omega))) ce_Jx4a65c_size_8abf5 ml_X10_39 iv_Jx4a65c_size_8abf5 cl_Jx4a65c rfl (lm_5002 (σ := s22.1) (B := B) ((congrFun (hP22.2.2.1 _ (by omega)) 900).trans hB) (by omega)) (xx_dt dd_X10_raise 16 rfl) (by decide) rfl rfl (Nat.le_of_ble_eq_true rfl) rfl ?_
          refine sw_icmp_ge (tgt := 99) O (xx_dt dd_X10_raise 17 rfl) (by decide) (fun q4 => ?_) (fun q4 => ?_)
          · exact absurd q4 (nI_ge (b := B) hi22 (by omega))
          · refine sw_iload O (xx_dt dd_X10_raise 18 rfl) rfl ?_
            refine sw_if_le (tgt := 99) O (xx_dt dd_X10_raise 19 rfl) (by decide) (fun q5 => ?_) (fun q5 => ?_)
            · have hfq5 : s22.2.1 ≤ 0 := (nI_leI (a := s22.2.1) (b := 0) (by omega) (by omega)).mp q5
              refine sw_dum (ls2 := [.ref 9000, .int (nI S), .int (nI x), .ref qa, .int (nI (s22.2.1)), .int s22.2.2, xx_d]) ⟨.inr rfl, .inr rfl, .inr rfl, .inr rfl, .inr rfl, .inr rfl, .inl rfl, trivial⟩ ?_
              exact kb22 (s22.1, s22.2.1, s22.2.2) (by simp only [if_pos q5])
            · have hfq5 : ¬ s22.2.1 ≤ 0 := fun e => q5 ((nI_leI (a := s22.2.1) (b := 0) (by omega) (by omega)).mpr e)
              refine sw_iload_n O (xx_dt dd_X10_raise 20 rfl) rfl ?_
              refine sw_iload O (xx_dt dd_X10_raise 21 rfl) rfl ?_
              refine sw_ishr O (xx_dt dd_X10_raise 22 rfl) ?_
              refine sw_iconst (x := 1) O (xx_dt dd_X10_raise 23 rfl) (by decide) ?_
              refine sw_iand O (xx_dt dd_X10_raise 24 rfl) ?_
              refine sw_iconst (x := 1) O (xx_dt dd_X10_raise 25 rfl) (by decide) ?_
              refine sw_icmp_eq (tgt := 93) O (xx_dt dd_X10_raise 26 rfl) (by decide) (fun q6 => ?_) (fun q6 => ?_)
              · refine sw_iinc (y := nI (i22 + 1)) (ls2 := [.ref 9000, .int (nI S), .int (nI x), .ref qa, .int (nI (s22.2.1)), .int s22.2.2, .int (nI (i22 + 1))]) O (xx_dt dd_X10_raise 51 rfl) rfl (nI_1 _) (by decide) rfl ?_
                refine sw_goto (tgt := 22) O (xx_dt dd_X10_raise 52 rfl) (by decide) ?_
                exact kk22 (s22.1, s22.2.1, s22.2.2) (by simp only [if_neg q5, if_pos q6])
              · refine sw_aload_n O (xx_dt dd_X10_raise 27 rfl) rfl ?_
                refine sw_get (v := .ref 9001) O (xx_dt dd_X10_raise 28 rfl) cl_X10 fl_X10_15 (lm_9000 (σ := s22.1) (fl1 ((congrFun (hP22.2.2.1 _ (by omega)) 20).trans hc))) (by decide) rfl ?_
                refine sw_iload O (xx_dt dd_X10_raise 29 rfl) rfl ?_
                refine sw_iaload (v := .int (σ 9001 i22)) O (xx_dt dd_X10_raise 30 rfl) ((im_9001 (z := z) (σ := s22.1) ((congrFun (hP22.2.2.1 _ (by omega)) 20).trans hc)).get _) (pk_in i22 _ (by omega)) (by rw [nI_clamp (by omega)]; exact (congrArg Value.int (congrFun (hP22.2.2.1 _ (by omega)) i22))) ?_
                refine sw_iconst (x := (-1)) O (xx_dt dd_X10_raise 31 rfl) (by decide) ?_
                refine sw_icmp_eq (tgt := 93) O (xx_dt dd_X10_raise 32 rfl) (by decide) (fun q7 => ?_) (fun q7 => ?_)
                · refine sw_iinc (y := nI (i22 + 1)) (ls2 := [.ref 9000, .int (nI S), .int (nI x), .ref qa, .int (nI (s22.2.1)), .int s22.2.2, .int (nI (i22 + 1))]) O (xx_dt dd_X10_raise 51 rfl) rfl (nI_1 _) (by decide) rfl ?_
                  refine sw_goto (tgt := 22) O (xx_dt dd_X10_raise 52 rfl) (by decide) ?_
                  exact kk22 (s22.1, s22.2.1, s22.2.2) (by simp only [if_neg q5, if_neg q6, if_pos q7])
                · refine sw_aload_n O (xx_dt dd_X10_raise 33 rfl) rfl ?_
                  refine sw_iload O (xx_dt dd_X10_raise 34 rfl) rfl ?_
                  refine sw_iaload (v := .int (s22.1 qa i22)) O (xx_dt dd_X10_raise 35 rfl) ((lm_tmp (z := z) (σ := s22.1) (h := h) (q := qa) (by omega) (fl1 hP22.1) hP22.2.1 (by omega)).get _) (pk_in i22 _ (by omega)) (by rw [nI_clamp (by omega)]; try exact rfl) ?_
                  refine sw_aload_n O (xx_dt dd_X10_raise 36 rfl) rfl ?_
                  refine sw_iload O (xx_dt dd_X10_raise 37 rfl) rfl ?_
                  refine sw_callVx (as := [.int (nI i22)]) (st := [.int (s22.1 qa i22)]) (st2 := [.int (f_Camount s22.1 i22), .int (s22.1 qa i22)]) O (ct_X10_amount hl (z := z) (σ := s22.1) hbs ((congrFun (hP22.2.2.1 _ (by omega)) 20).trans hc) (B := B) ((congrFun (hP22.2.2.1 _ (by omega)) 900).trans hB) (by omega) (pk := pk) (fun j9 hj9 => by rw [show s22.1 (5030 + j9) 900 = σ (5030 + j9) 900 from (congrFun (hP22.2.2.1 _ (by omega)) 900)]; exact hpk j9 hj9) (fun j9 hj9 => by rw [show s22.1 9001 = σ 9001 from (hP22.2.2.1 _ (by omega))]; exact hpi j9 hj9) (i := i22) (by omega)) ce_X10_amount ml_X10_109 iv_X10_amount cl_X10 rfl (lm_9000 (σ := s22.1) (fl1 ((congrFun (hP22.2.2.1 _ (by omega)) 20).trans hc))) (xx_dt dd_X10_raise 38 rfl) (by decide) rfl rfl (Nat.le_of_ble_eq_true rfl) rfl ?_
                  refine sw_icmp_lt (tgt := 79) O (xx_dt dd_X10_raise 39 rfl) (by decide) (fun q8 => ?_) (fun q8 => ?_)
                  · refine sw_aload_n O (xx_dt dd_X10_raise 41 rfl) rfl ?_
                    refine sw_iload O (xx_dt dd_X10_raise 42 rfl) rfl ?_
                    refine sw_dup2 O (xx_dt dd_X10_raise 43 rfl) rfl rfl ?_
                    refine sw_iaload (v := .int (s22.1 qa i22)) O (xx_dt dd_X10_raise 44 rfl) ((lm_tmp (z := z) (σ := s22.1) (h := h) (q := qa) (by omega) (fl1 hP22.1) hP22.2.1 (by omega)).get _) (pk_in i22 _ (by omega)) (by rw [nI_clamp (by omega)]; try exact rfl) ?_
                    refine sw_iconst (x := 1) O (xx_dt dd_X10_raise 45 rfl) (by decide) ?_
                    refine sw_iadd O (xx_dt dd_X10_raise 46 rfl) ?_
                    refine sw_iastore (h2 := setM z (u2 s22.1 qa i22 ((s22.1 qa i22) + 1)) h) O (xx_dt dd_X10_raise 47 rfl) ((lm_tmp (z := z) (σ := s22.1) (h := h) (q := qa) (by omega) (fl1 hP22.1) hP22.2.1 (by omega)).get _) (pk_in i22 _ (by omega)) (by omega) (by rw [nI_clamp (by omega)]; exact ((lm_tmp (z := z) (σ := s22.1) (h := h) (q := qa) (by omega) (fl1 hP22.1) hP22.2.1 (by omega)).put (by omega))) ?_
                    refine sw_iinc (y := nI (s22.2.1 - 1)) (ls2 := [.ref 9000, .int (nI S), .int (nI x), .ref qa, .int (nI (s22.2.1 - 1)), .int s22.2.2, .int (nI i22)]) O (xx_dt dd_X10_raise 48 rfl) rfl (nI_prd (by omega)) (by decide) rfl ?_
                    refine sw_iconst (x := 1) O (xx_dt dd_X10_raise 49 rfl) (by decide) ?_
                    refine sw_istore (ls2 := [.ref 9000, .int (nI S), .int (nI x), .ref qa, .int (nI (s22.2.1 - 1)), .int 1, .int (nI i22)]) O (xx_dt dd_X10_raise 50 rfl) (by decide) rfl ?_
                    refine sw_iinc (y := nI (i22 + 1)) (ls2 := [.ref 9000, .int (nI S), .int (nI x), .ref qa, .int (nI (s22.2.1 - 1)), .int 1, .int (nI (i22 + 1))]) O (xx_dt dd_X10_raise 51 rfl) rfl (nI_1 _) (by decide) rfl ?_
                    refine sw_goto (tgt := 22) O (xx_dt dd_X10_raise 52 rfl) (by decide) ?_
                    exact kk22 (u2 s22.1 qa i22 ((s22.1 qa i22) + 1), s22.2.1 - 1, 1) (by simp only [if_neg q5, if_neg q6, if_neg q7, if_pos q8])
                  · refine sw_goto (tgt := 93) O (xx_dt dd_X10_raise 40 rfl) (by decide) ?_
                    refine sw_iinc (y := nI (i22 + 1)) (ls2 := [.ref 9000, .int (nI S), .int (nI x), .ref qa, .int (nI (s22.2.1)), .int s22.2.2, .int (nI (i22 + 1))]) O (xx_dt dd_X10_raise 51 rfl) rfl (nI_1 _) (by decide) rfl ?_
                    refine sw_goto (tgt := 22) O (xx_dt dd_X10_raise 52 rfl) (by decide) ?_
                    exact kk22 (s22.1, s22.2.1, s22.2.2) (by simp only [if_neg q5, if_neg q6, if_neg q7, if_neg q8])
        · show SW Y _ _ (setM z s22.1 h) 22 [.ref 9000, .int (nI S), .int (nI x), .ref qa, .int (nI (s22.2.1)), .int s22.2.2, .int (nI B)] []
          have hP22 : s22.1 qa 20 = nI 1 ∧ s22.1 qa 21 = nI 6 ∧ (∀ q9, q9 ≠ qa → s22.1 q9 = σ q9) ∧ (s22.2.1 ≤ s6.2.1 ∧ (s22.2.2 = 0 ∨ s22.2.1 + 1 ≤ s6.2.1)) := hP22
          refine sw_iload O (xx_dt dd_X10_raise 12 rfl) rfl ?_
          refine sw_aload_n O (xx_dt dd_X10_raise 13 rfl) rfl ?_
          refine sw_get (v := .ref 5000) O (xx_dt dd_X10_raise 14 rfl) cl_X10 fl_X10_3 (lm_9000 (σ := s22.1) (fl1 ((congrFun (hP22.2.2.1 _ (by omega)) 20).trans hc))) (by decide) rfl ?_
          refine sw_get (v := .ref 5002) O (xx_dt dd_X10_raise 15 rfl) cl_X14 fl_X10_67 (lm_mod (σ := s22.1)) (by decide) rfl ?_
          refine sw_callVL (ci := 6) (as := []) (st := [.int (nI B)]) (st2 := [.int (nI B), .int (nI B)]) O (ct_AL_size hl (lm_5002 (σ := s22.1) (B := B) ((congrFun (hP22.2.2.1 _ (by omega)) 900).trans hB) (by omega))) ce_Jx4a65c_size_8abf5 ml_X10_39 iv_Jx4a65c_size_8abf5 cl_Jx4a65c rfl (lm_5002 (σ := s22.1) (B := B) ((congrFun (hP22.2.2.1 _ (by omega)) 900).trans hB) (by omega)) (xx_dt dd_X10_raise 16 rfl) (by decide) rfl rfl (Nat.le_of_ble_eq_true rfl) rfl ?_
          refine sw_icmp_ge (tgt := 99) O (xx_dt dd_X10_raise 17 rfl) (by decide) (fun q4 => ?_) (fun q4 => ?_)
          · refine sw_dum (ls2 := [.ref 9000, .int (nI S), .int (nI x), .ref qa, .int (nI (s22.2.1)), .int s22.2.2, xx_d]) ⟨.inr rfl, .inr rfl, .inr rfl, .inr rfl, .inr rfl, .inr rfl, .inl rfl, trivial⟩ ?_
            exact kx22
          · exact absurd (Int32.le_refl _) q4
        · show SW Y _ _ (setM z ((x_Craise_22 σ S x qa B s6 (s6.1, s6.2.1, 0)).1) h) 99 [.ref 9000, .int (nI S), .int (nI x), .ref qa, .int (nI ((x_Craise_22 σ S x qa B s6 (s6.1, s6.2.1, 0)).2.1)), .int ((x_Craise_22 σ S x qa B s6 (s6.1, s6.2.1, 0)).2.2), xx_d] []
          refine sw_goto (tgt := 6) O (xx_dt dd_X10_raise 53 rfl) (by decide) ?_
          exact kk6 ((x_Craise_22 σ S x qa B s6 (s6.1, s6.2.1, 0)).1, (x_Craise_22 σ S x qa B s6 (s6.1, s6.2.1, 0)).2.1, (x_Craise_22 σ S x qa B s6 (s6.1, s6.2.1, 0)).2.2) (by simp only [if_neg q2, if_neg q3])
  · show SW Y _ _ (setM z s6.1 h) 6 [.ref 9000, .int (nI S), .int (nI x), .ref qa, .int (nI (s6.2.1)), .int s6.2.2, xx_d] []
    have hZ6 := hP6
    have hP6 : s6.1 qa 20 = nI 1 ∧ s6.1 qa 21 = nI 6 ∧ (∀ q9, q9 ≠ qa → s6.1 q9 = σ q9) ∧ (s6.2.1 ≤ x) := ⟨hP6.1, hP6.2.1, hP6.2.2.1, hP6.2.2.2.1⟩
    refine sw_iload O (xx_dt dd_X10_raise 4 rfl) rfl ?_
    refine sw_if_le (tgt := 102) O (xx_dt dd_X10_raise 5 rfl) (by decide) (fun q1 => ?_) (fun q1 => ?_)
    · exact kx6
    · have hm : s6.2.2 = 0 := (hZ6.2.2.2.2).elim id (fun w => absurd w (by omega))
      refine sw_iload O (xx_dt dd_X10_raise 6 rfl) rfl ?_
      refine sw_if_eq (tgt := 102) O (xx_dt dd_X10_raise 7 rfl) (by decide) (fun q2 => ?_) (fun q2 => absurd hm q2)
      refine sw_dum (ls2 := [.ref 9000, .int (nI S), .int (nI x), .ref qa, .int (nI (s6.2.1)), .int (s6.2.2), xx_d]) ⟨.inr rfl, .inr rfl, .inr rfl, .inr rfl, .inr rfl, .inr rfl, .inl rfl, trivial⟩ ?_
      exact kx6
  · show SW Y _ _ (setM z ((x_Craise_6 σ S x qa B (σ, x, 1)).1) h) 102 [.ref 9000, .int (nI S), .int (nI x), .ref qa, .int (nI ((x_Craise_6 σ S x qa B (σ, x, 1)).2.1)), .int ((x_Craise_6 σ S x qa B (σ, x, 1)).2.2), xx_d] []
    exact sw_ret O (xx_dt dd_X10_raise 54 rfl) rfl (by rw [hQ]; exact ⟨rfl, by unfold g_Craise; rfl⟩)
