section
/-! ===== the other public methods, without texts ===== -/
theorem xitB_inv {S : Type} {step : Nat → S → S ⊕ S} (P : S → Prop) {N : Nat} (h : ∀ i s, i < N → P s → (∀ s', step i s = .inl s' → P s') ∧ ∀ s', step i s = .inr s' → P s') : ∀ (f i : Nat) (s : S), i + f = N → P s → P (xitB step f i s)
  | 0, _, _, _, hP => hP
  | f + 1, i, s, e, hP => by
    unfold xitB
    split
    · rename_i s' e2
      exact xitB_inv P h f (i + 1) s' (by omega) ((h i s (by omega) hP).1 s' e2)
    · rename_i s' e2
      exact (h i s (by omega) hP).2 s' e2
def o_packs (σ : XS9) (x y : Int32) (C : Nat) (rg : Nat → Nat) : Int32 ⊕ String := (if n_lt x (2 ^ C) then (if n_bt y 1 6 then .inl (f_pack σ (nI (cn x)) (cn y) C rg) else .inr eIAE) else .inr eIAE)
def g_packs (σ : XS9) (x y : Int32) (C : Nat) (rg : Nat → Nat) : XS9 := (if n_lt x (2 ^ C) then (if n_bt y 1 6 then g_pack σ (nI (cn x)) (cn y) C rg else σ) else σ)
theorem ct_X7_packs {l : Launch} {h : XH} (hl : l.stackTraces = false) {σ : XS9} {C : Nat} (hC : σ 1006 1 = nI C) (hC10 : C ≤ 10) {rg : Nat → Nat} (hrg : ∀ i, i < C → σ 1151 i = nI (rg i) ∧ rg i < 5) {x y : Int32} : XEo l m_X7_packs 13 1 6 [.ref 1000, .int x, .int y] (setC σ h) ((xoi (o_packs σ x y C rg))) (setC (g_packs σ x y C rg) h) := by
  refine XMet.of hl rfl rfl (Nat.le_of_ble_eq_true rfl) (fun Y O hh hQ => ?_)
  show SW Y 1 6 (setC σ h) 0 [.ref 1000, .int x, .int y] []
  refine sw_iload_n O (xx_dt dd_X7_packs 0 rfl) rfl ?_
  refine sw_aload_n O (xx_dt dd_X7_packs 1 rfl) rfl ?_
  refine sw_get (v := .ref 1006) O (xx_dt dd_X7_packs 2 rfl) cl_X7 fl_X7_50 (ly_1000 σ h) (by decide) rfl ?_
  refine sw_get (v := .int (nI C)) O (xx_dt dd_X7_packs 3 rfl) cl_X5 fl_X7_215 (ly_1006 σ h) (by decide) (congrArg Value.int hC) ?_
  by_cases q1 : n_lt x (2 ^ C)
  · refine sw_callSx (as := [.int x, .int (nI C)]) (st := []) (st2 := []) (k' := 0) (n' := 0) O (ct_X7_needSet_ok hl (C := C) (by omega) q1) ce_X7_needSet ml_X7_228 st_X7_needSet (xx_dt dd_X7_packs 4 rfl) (by decide) rfl rfl (Nat.le_of_ble_eq_true rfl) rfl ?_
    refine sw_lsE (ls2 := [.ref 1000, .int (nI (cn x)), .int y]) (by rw [← q1.1]) ?_
    have hvq1 := q1.2
    have hpq1 := Nat.lt_of_lt_of_le q1.2 (pow10 (C := C) (by omega))
    refine sw_iload_n O (xx_dt dd_X7_packs 5 rfl) rfl ?_
    refine sw_iconst (x := 1) O (xx_dt dd_X7_packs 6 rfl) (by decide) ?_
    refine sw_bipush (x := 6) O (xx_dt dd_X7_packs 7 rfl) (by decide) ?_
    by_cases q2 : n_bt y 1 6
    · refine sw_callSx (as := [.int y, .int 1, .int 6]) (st := []) (st2 := []) (k' := 0) (n' := 0) O (ct_X7_needBetween_ok hl  q2) ce_X7_needBetween ml_X7_61 st_X7_needBetween (xx_dt dd_X7_packs 8 rfl) (by decide) rfl rfl (Nat.le_of_ble_eq_true rfl) rfl ?_
      refine sw_lsE (ls2 := [.ref 1000, .int (nI (cn x)), .int (nI (cn y))]) (by rw [← (bt_nat 6 q2 (by decide) (by decide) (by decide)).1]) ?_
      have hvq2 := (bt_nat 6 q2 (by decide) (by decide) (by decide)).2
      refine sw_aload_n O (xx_dt dd_X7_packs 9 rfl) rfl ?_
      refine sw_get (v := .ref 1006) O (xx_dt dd_X7_packs 10 rfl) cl_X7 fl_X7_50 (ly_1000 σ h) (by decide) rfl ?_
      refine sw_aload_n O (xx_dt dd_X7_packs 11 rfl) rfl ?_
      refine sw_get (v := .ref 1001) O (xx_dt dd_X7_packs 12 rfl) cl_X7 fl_X7_12 (ly_1000 σ h) (by decide) rfl ?_
      refine sw_iload_n O (xx_dt dd_X7_packs 13 rfl) rfl ?_
      refine sw_iload_n O (xx_dt dd_X7_packs 14 rfl) rfl ?_
      refine sw_callVx (as := [.ref 1001, .int (nI (cn x)), .int (nI (cn y))]) (st := []) (st2 := [.int (f_pack σ (nI (cn x)) (cn y) C rg)]) O (ct_X5_pack hl (σ := σ) (C := C) hC (by omega) (rg := rg) hrg (x := nI (cn x)) (ch := cn y) (by omega)) ce_X5_pack ml_X7_232 iv_X5_pack cl_X5 rfl (ly_1006 σ h) (xx_dt dd_X7_packs 15 rfl) (by first | decide | omega) rfl rfl (Nat.le_of_ble_eq_true rfl) rfl ?_
      exact sw_iret O (xx_dt dd_X7_packs 16 rfl) rfl (xx_bool (bo_pack 10 0 _ _)) (by rw [hQ]; exact ⟨by unfold o_packs; simp only [if_pos q1, if_pos q2]; rfl, by unfold g_packs; simp only [if_pos q1, if_pos q2]⟩)
    · exact sw_callSt (as := [.int y, .int 1, .int 6]) (st := []) (k := 0) (n := 0) (k' := 1) (n' := 6) O (ct_X7_needBetween_no hl  q2) ce_X7_needBetween ml_X7_61 st_X7_needBetween (xx_dt dd_X7_packs 8 rfl) (by decide) rfl rfl (Nat.le_of_ble_eq_true rfl)  (by rw [hQ]; exact ⟨by unfold o_packs; simp only [if_pos q1, if_neg q2]; rfl, by unfold g_packs; simp only [if_pos q1, if_neg q2]⟩)
  · exact sw_callSt (as := [.int x, .int (nI C)]) (st := []) (k := 0) (n := 0) (k' := 1) (n' := 6) O (ct_X7_needSet_no hl (C := C) (by omega) q1) ce_X7_needSet ml_X7_228 st_X7_needSet (xx_dt dd_X7_packs 4 rfl) (by decide) rfl rfl (Nat.le_of_ble_eq_true rfl)  (by rw [hQ]; exact ⟨by unfold o_packs; simp only [if_neg q1]; rfl, by unfold g_packs; simp only [if_neg q1]⟩)
def o_channel (σ : XS9) (x y z : Int32) (C : Nat) (rg : Nat → Nat) : Int32 ⊕ String := (if n_lt z C then (if n_lt x (2 ^ C) then (if n_bt y 1 6 then (if (f_pack σ (nI (cn x)) (cn y) C rg) = 0 then .inl (-1) else .inl (f_channelOf (g_pack σ (nI (cn x)) (cn y) C rg) (nI (cn z)))) else .inr eIAE) else .inr eIAE) else .inr eIOB)
def g_channel (σ : XS9) (x y z : Int32) (C : Nat) (rg : Nat → Nat) : XS9 := (if n_lt z C then (if n_lt x (2 ^ C) then (if n_bt y 1 6 then g_pack σ (nI (cn x)) (cn y) C rg else σ) else σ) else σ)
theorem ct_X7_channel {l : Launch} {h : XH} (hl : l.stackTraces = false) {σ : XS9} {C : Nat} (hC : σ 1006 1 = nI C) (hC10 : C ≤ 10) {rg : Nat → Nat} (hrg : ∀ i, i < C → σ 1151 i = nI (rg i) ∧ rg i < 5) {x y z : Int32} : XEo l m_X7_channel 13 1 6 [.ref 1000, .int x, .int y, .int z] (setC σ h) ((xoi (o_channel σ x y z C rg))) (setC (g_channel σ x y z C rg) h) := by
  refine XMet.of hl rfl rfl (Nat.le_of_ble_eq_true rfl) (fun Y O hh hQ => ?_)
  show SW Y 1 6 (setC σ h) 0 [.ref 1000, .int x, .int y, .int z] []
  refine sw_aload_n O (xx_dt dd_X7_channel 0 rfl) rfl ?_
  refine sw_iload_n O (xx_dt dd_X7_channel 1 rfl) rfl ?_
  by_cases q1 : n_lt z C
  · refine sw_callVx (as := [.int z]) (st := []) (st2 := []) (k' := 0) (n' := 0) O (ct_X7_needStation_ok hl (σ := σ) (C := C) hC (by omega) q1) ce_X7_needStation ml_X7_222 iv_X7_needStation cl_X7 rfl (ly_1000 σ h) (xx_dt dd_X7_channel 2 rfl) (by decide) rfl rfl (Nat.le_of_ble_eq_true rfl) rfl ?_
    refine sw_lsE (ls2 := [.ref 1000, .int x, .int y, .int (nI (cn z))]) (by rw [← q1.1]) ?_
    have hvq1 := q1.2
    refine sw_iload_n O (xx_dt dd_X7_channel 3 rfl) rfl ?_
    refine sw_aload_n O (xx_dt dd_X7_channel 4 rfl) rfl ?_
    refine sw_get (v := .ref 1006) O (xx_dt dd_X7_channel 5 rfl) cl_X7 fl_X7_50 (ly_1000 σ h) (by decide) rfl ?_
    refine sw_get (v := .int (nI C)) O (xx_dt dd_X7_channel 6 rfl) cl_X5 fl_X7_215 (ly_1006 σ h) (by decide) (congrArg Value.int hC) ?_
    by_cases q2 : n_lt x (2 ^ C)
    · refine sw_callSx (as := [.int x, .int (nI C)]) (st := []) (st2 := []) (k' := 0) (n' := 0) O (ct_X7_needSet_ok hl (C := C) (by omega) q2) ce_X7_needSet ml_X7_228 st_X7_needSet (xx_dt dd_X7_channel 7 rfl) (by decide) rfl rfl (Nat.le_of_ble_eq_true rfl) rfl ?_
      refine sw_lsE (ls2 := [.ref 1000, .int (nI (cn x)), .int y, .int (nI (cn z))]) (by rw [← q2.1]) ?_
      have hvq2 := q2.2
      have hpq2 := Nat.lt_of_lt_of_le q2.2 (pow10 (C := C) (by omega))
      refine sw_iload_n O (xx_dt dd_X7_channel 8 rfl) rfl ?_
      refine sw_iconst (x := 1) O (xx_dt dd_X7_channel 9 rfl) (by decide) ?_
      refine sw_bipush (x := 6) O (xx_dt dd_X7_channel 10 rfl) (by decide) ?_
      by_cases q3 : n_bt y 1 6
      · refine sw_callSx (as := [.int y, .int 1, .int 6]) (st := []) (st2 := []) (k' := 0) (n' := 0) O (ct_X7_needBetween_ok hl  q3) ce_X7_needBetween ml_X7_61 st_X7_needBetween (xx_dt dd_X7_channel 11 rfl) (by decide) rfl rfl (Nat.le_of_ble_eq_true rfl) rfl ?_
        refine sw_lsE (ls2 := [.ref 1000, .int (nI (cn x)), .int (nI (cn y)), .int (nI (cn z))]) (by rw [← (bt_nat 6 q3 (by decide) (by decide) (by decide)).1]) ?_
        have hvq3 := (bt_nat 6 q3 (by decide) (by decide) (by decide)).2
        refine sw_aload_n O (xx_dt dd_X7_channel 12 rfl) rfl ?_
        refine sw_get (v := .ref 1006) O (xx_dt dd_X7_channel 13 rfl) cl_X7 fl_X7_50 (ly_1000 σ h) (by decide) rfl ?_
        refine sw_aload_n O (xx_dt dd_X7_channel 14 rfl) rfl ?_
        refine sw_get (v := .ref 1001) O (xx_dt dd_X7_channel 15 rfl) cl_X7 fl_X7_12 (ly_1000 σ h) (by decide) rfl ?_
        refine sw_iload_n O (xx_dt dd_X7_channel 16 rfl) rfl ?_
        refine sw_iload_n O (xx_dt dd_X7_channel 17 rfl) rfl ?_
        refine sw_callVx (as := [.ref 1001, .int (nI (cn x)), .int (nI (cn y))]) (st := []) (st2 := [.int (f_pack σ (nI (cn x)) (cn y) C rg)]) O (ct_X5_pack hl (σ := σ) (C := C) hC (by omega) (rg := rg) hrg (x := nI (cn x)) (ch := cn y) (by omega)) ce_X5_pack ml_X7_232 iv_X5_pack cl_X5 rfl (ly_1006 σ h) (xx_dt dd_X7_channel 18 rfl) (by first | decide | omega) rfl rfl (Nat.le_of_ble_eq_true rfl) rfl ?_
        refine sw_if_eq (tgt := 50) O (xx_dt dd_X7_channel 19 rfl) (by decide) (fun q4 => ?_) (fun q4 => ?_)
        · refine sw_iconst (x := (-1)) O (xx_dt dd_X7_channel 25 rfl) (by decide) ?_
          exact sw_iret O (xx_dt dd_X7_channel 26 rfl) rfl rfl (by rw [hQ]; exact ⟨by unfold o_channel; simp only [if_pos q1, if_pos q2, if_pos q3, if_pos q4]; rfl, by unfold g_channel; simp only [if_pos q1, if_pos q2, if_pos q3, if_pos q4]⟩)
        · refine sw_aload_n O (xx_dt dd_X7_channel 20 rfl) rfl ?_
          refine sw_get (v := .ref 1006) O (xx_dt dd_X7_channel 21 rfl) cl_X7 fl_X7_50 (ly_1000 (g_pack σ (nI (cn x)) (cn y) C rg) h) (by decide) rfl ?_
          refine sw_iload_n O (xx_dt dd_X7_channel 22 rfl) rfl ?_
          refine sw_callVx (as := [.int (nI (cn z))]) (st := []) (st2 := [.int (f_channelOf (g_pack σ (nI (cn x)) (cn y) C rg) (nI (cn z)))]) O (ct_X5_channelOf hl (σ := g_pack σ (nI (cn x)) (cn y) C rg) (x := nI (cn z))) ce_X5_channelOf ml_X7_236 iv_X5_channelOf cl_X5 rfl (ly_1006 (g_pack σ (nI (cn x)) (cn y) C rg) h) (xx_dt dd_X7_channel 23 rfl) (by first | decide | omega) rfl rfl (Nat.le_of_ble_eq_true rfl) rfl ?_
          refine sw_goto (tgt := 51) O (xx_dt dd_X7_channel 24 rfl) (by decide) ?_
          exact sw_iret O (xx_dt dd_X7_channel 26 rfl) rfl rfl (by rw [hQ]; exact ⟨by unfold o_channel; simp only [if_pos q1, if_pos q2, if_pos q3, if_neg q4]; rfl, by unfold g_channel; simp only [if_pos q1, if_pos q2, if_pos q3, if_neg q4]⟩)
      · exact sw_callSt (as := [.int y, .int 1, .int 6]) (st := []) (k := 0) (n := 0) (k' := 1) (n' := 6) O (ct_X7_needBetween_no hl  q3) ce_X7_needBetween ml_X7_61 st_X7_needBetween (xx_dt dd_X7_channel 11 rfl) (by decide) rfl rfl (Nat.le_of_ble_eq_true rfl)  (by rw [hQ]; exact ⟨by unfold o_channel; simp only [if_pos q1, if_pos q2, if_neg q3]; rfl, by unfold g_channel; simp only [if_pos q1, if_pos q2, if_neg q3]⟩)
    · exact sw_callSt (as := [.int x, .int (nI C)]) (st := []) (k := 0) (n := 0) (k' := 1) (n' := 6) O (ct_X7_needSet_no hl (C := C) (by omega) q2) ce_X7_needSet ml_X7_228 st_X7_needSet (xx_dt dd_X7_channel 7 rfl) (by decide) rfl rfl (Nat.le_of_ble_eq_true rfl)  (by rw [hQ]; exact ⟨by unfold o_channel; simp only [if_pos q1, if_neg q2]; rfl, by unfold g_channel; simp only [if_pos q1, if_neg q2]⟩)
  · exact sw_callVt (as := [.int z]) (st := []) (k := 0) (n := 0) (k' := 1) (n' := 6) O (ct_X7_needStation_no hl (σ := σ) (C := C) hC (by omega) q1) ce_X7_needStation ml_X7_222 iv_X7_needStation cl_X7 rfl (ly_1000 σ h) (xx_dt dd_X7_channel 2 rfl) (by decide) rfl rfl (Nat.le_of_ble_eq_true rfl)  (by rw [hQ]; exact ⟨by unfold o_channel; simp only [if_neg q1]; rfl, by unfold g_channel; simp only [if_neg q1]⟩)
def o_clear (σ : XS9) (x : Int32) (C : Nat) (rg : Nat → Nat) : Int32 ⊕ String := (if n_bt x 1 6 then .inl (f_cheapest σ (cn x) C rg) else .inr eIAE)
def g_clear (σ : XS9) (x : Int32) (C : Nat) (rg : Nat → Nat) : XS9 := (if n_bt x 1 6 then g_cheapest σ (cn x) C rg else σ)
theorem ct_X7_clear {l : Launch} {h : XH} (hl : l.stackTraces = false) {σ : XS9} {C : Nat} (hC : σ 1006 1 = nI C) (hC10 : C ≤ 10) {rg : Nat → Nat} (hrg : ∀ i, i < C → σ 1151 i = nI (rg i) ∧ rg i < 5) {x : Int32} : XEo l m_X7_clear 13 1 6 [.ref 1000, .int x] (setC σ h) ((xoi (o_clear σ x C rg))) (setC (g_clear σ x C rg) h) := by
  refine XMet.of hl rfl rfl (Nat.le_of_ble_eq_true rfl) (fun Y O hh hQ => ?_)
  show SW Y 1 6 (setC σ h) 0 [.ref 1000, .int x] []
  refine sw_iload_n O (xx_dt dd_X7_clear 0 rfl) rfl ?_
  refine sw_iconst (x := 1) O (xx_dt dd_X7_clear 1 rfl) (by decide) ?_
  refine sw_bipush (x := 6) O (xx_dt dd_X7_clear 2 rfl) (by decide) ?_
  by_cases q1 : n_bt x 1 6
  · refine sw_callSx (as := [.int x, .int 1, .int 6]) (st := []) (st2 := []) (k' := 0) (n' := 0) O (ct_X7_needBetween_ok hl  q1) ce_X7_needBetween ml_X7_61 st_X7_needBetween (xx_dt dd_X7_clear 3 rfl) (by decide) rfl rfl (Nat.le_of_ble_eq_true rfl) rfl ?_
    refine sw_lsE (ls2 := [.ref 1000, .int (nI (cn x))]) (by rw [← (bt_nat 6 q1 (by decide) (by decide) (by decide)).1]) ?_
    have hvq1 := (bt_nat 6 q1 (by decide) (by decide) (by decide)).2
    refine sw_aload_n O (xx_dt dd_X7_clear 4 rfl) rfl ?_
    refine sw_get (v := .ref 1006) O (xx_dt dd_X7_clear 5 rfl) cl_X7 fl_X7_50 (ly_1000 σ h) (by decide) rfl ?_
    refine sw_aload_n O (xx_dt dd_X7_clear 6 rfl) rfl ?_
    refine sw_get (v := .ref 1001) O (xx_dt dd_X7_clear 7 rfl) cl_X7 fl_X7_12 (ly_1000 σ h) (by decide) rfl ?_
    refine sw_iload_n O (xx_dt dd_X7_clear 8 rfl) rfl ?_
    refine sw_callVx (as := [.ref 1001, .int (nI (cn x))]) (st := []) (st2 := [.int (f_cheapest σ (cn x) C rg)]) O (ct_X5_cheapest hl (σ := σ) (C := C) hC (by omega) (rg := rg) hrg (ch := cn x) (by omega)) ce_X5_cheapest ml_X7_239 iv_X5_cheapest cl_X5 rfl (ly_1006 σ h) (xx_dt dd_X7_clear 9 rfl) (by first | decide | omega) rfl rfl (Nat.le_of_ble_eq_true rfl) rfl ?_
    exact sw_iret O (xx_dt dd_X7_clear 10 rfl) rfl rfl (by rw [hQ]; exact ⟨by unfold o_clear; simp only [if_pos q1]; rfl, by unfold g_clear; simp only [if_pos q1]⟩)
  · exact sw_callSt (as := [.int x, .int 1, .int 6]) (st := []) (k := 0) (n := 0) (k' := 1) (n' := 6) O (ct_X7_needBetween_no hl  q1) ce_X7_needBetween ml_X7_61 st_X7_needBetween (xx_dt dd_X7_clear 3 rfl) (by decide) rfl rfl (Nat.le_of_ble_eq_true rfl)  (by rw [hQ]; exact ⟨by unfold o_clear; simp only [if_neg q1]; rfl, by unfold g_clear; simp only [if_neg q1]⟩)
def o_settle (σ : XS9) (x : Int32) (R : Nat) (sp : Nat → Nat) : Int32 ⊕ String := (if n_bt x 0 2 then (if σ 1000 7 = 2 then .inl (f_winners (g_give (u2 (u2 σ 1000 9 x) 1000 7 3) R sp)) else .inr eISE) else .inr eIAE)
def g_settle (σ : XS9) (x : Int32) (R : Nat) (sp : Nat → Nat) : XS9 := (if n_bt x 0 2 then (if σ 1000 7 = 2 then g_give (u2 (u2 σ 1000 9 x) 1000 7 3) R sp else σ) else σ)
theorem ct_X7_settle {l : Launch} {h : XH} (hl : l.stackTraces = false) {σ : XS9} {R : Nat} (hR : σ 1001 4 = nI R) (hR5 : R ≤ 5) {sp : Nat → Nat} (hsp : ∀ r, r < 5 → σ 1010 r = nI (sp r) ∧ sp r ≤ 5) (hcd : XCD σ) {x : Int32} : XEo l m_X7_settle 7 1 6 [.ref 1000, .int x] (setC σ h) ((xoi (o_settle σ x R sp))) (setC (g_settle σ x R sp) h) := by
  refine XMet.of hl rfl rfl (Nat.le_of_ble_eq_true rfl) (fun Y O hh hQ => ?_)
  show SW Y 1 6 (setC σ h) 0 [.ref 1000, .int x] []
  refine sw_iload_n O (xx_dt dd_X7_settle 0 rfl) rfl ?_
  refine sw_iconst (x := 0) O (xx_dt dd_X7_settle 1 rfl) (by decide) ?_
  refine sw_iconst (x := 2) O (xx_dt dd_X7_settle 2 rfl) (by decide) ?_
  by_cases q1 : n_bt x 0 2
  · refine sw_callSx (as := [.int x, .int 0, .int 2]) (st := []) (st2 := []) (k' := 0) (n' := 0) O (ct_X7_needBetween_ok hl  q1) ce_X7_needBetween ml_X7_61 st_X7_needBetween (xx_dt dd_X7_settle 3 rfl) (by decide) rfl rfl (Nat.le_of_ble_eq_true rfl) rfl ?_
    refine sw_aload_n O (xx_dt dd_X7_settle 4 rfl) rfl ?_
    refine sw_iconst (x := 2) O (xx_dt dd_X7_settle 5 rfl) (by decide) ?_
    by_cases q2 : σ 1000 7 = 2
    · refine sw_callVx (as := [.int 2]) (st := []) (st2 := []) (k' := 0) (n' := 0) O (ct_X7_needStage_ok hl (σ := σ) q2) ce_X7_needStage ml_X7_65 iv_X7_needStage cl_X7 rfl (ly_1000 σ h) (xx_dt dd_X7_settle 6 rfl) (by decide) rfl rfl (Nat.le_of_ble_eq_true rfl) rfl ?_
      refine sw_aload_n O (xx_dt dd_X7_settle 7 rfl) rfl ?_
      refine sw_iload_n O (xx_dt dd_X7_settle 8 rfl) rfl ?_
      refine sw_put (h2 := setC (u2 σ 1000 9 x) h) O (xx_dt dd_X7_settle 9 rfl) cl_X7 fl_X7_190 (ly_1000 σ h) (by decide) (by decide) rfl (fun _ => ⟨rfl, rfl⟩) pu_1000_9 ?_
      refine sw_aload_n O (xx_dt dd_X7_settle 10 rfl) rfl ?_
      refine sw_iconst (x := 3) O (xx_dt dd_X7_settle 11 rfl) (by decide) ?_
      refine sw_put (h2 := setC (u2 (u2 σ 1000 9 x) 1000 7 3) h) O (xx_dt dd_X7_settle 12 rfl) cl_X7 fl_X7_54 (ly_1000 (u2 σ 1000 9 x) h) (by decide) (by decide) rfl (fun _ => ⟨rfl, rfl⟩) pu_1000_7 ?_
      refine sw_aload_n O (xx_dt dd_X7_settle 13 rfl) rfl ?_
      refine sw_get (v := .ref 1005) O (xx_dt dd_X7_settle 14 rfl) cl_X7 fl_X7_43 (ly_1000 (u2 (u2 σ 1000 9 x) 1000 7 3) h) (by decide) rfl ?_
      refine sw_aload_n O (xx_dt dd_X7_settle 15 rfl) rfl ?_
      refine sw_get (v := .ref 1001) O (xx_dt dd_X7_settle 16 rfl) cl_X7 fl_X7_12 (ly_1000 (u2 (u2 σ 1000 9 x) 1000 7 3) h) (by decide) rfl ?_
      refine sw_aload_n O (xx_dt dd_X7_settle 17 rfl) rfl ?_
      refine sw_get (v := .ref 1003) O (xx_dt dd_X7_settle 18 rfl) cl_X7 fl_X7_29 (ly_1000 (u2 (u2 σ 1000 9 x) 1000 7 3) h) (by decide) rfl ?_
      refine sw_callVx (as := [.ref 1001, .ref 1003]) (st := []) (st2 := []) O (ct_X3_give hl (σ := u2 (u2 σ 1000 9 x) 1000 7 3) (R := R) hR (by omega) (sp := sp) hsp (hcd.of (fun i9 hi9 => ((u2_ne (by omega)).trans (u2_ne (by omega)))))) ce_X3_give ml_X7_193 iv_X3_give cl_X3 rfl (ly_1005 (u2 (u2 σ 1000 9 x) 1000 7 3) h) (xx_dt dd_X7_settle 19 rfl) (by first | decide | omega) rfl rfl (Nat.le_of_ble_eq_true rfl) rfl ?_
      refine sw_aload_n O (xx_dt dd_X7_settle 20 rfl) rfl ?_
      refine sw_get (v := .ref 1003) O (xx_dt dd_X7_settle 21 rfl) cl_X7 fl_X7_29 (ly_1000 (g_give (u2 (u2 σ 1000 9 x) 1000 7 3) R sp) h) (by decide) rfl ?_
      refine sw_callVx (as := []) (st := []) (st2 := [.int (f_winners (g_give (u2 (u2 σ 1000 9 x) 1000 7 3) R sp))]) O (ct_X2_winners hl (σ := g_give (u2 (u2 σ 1000 9 x) 1000 7 3) R sp)) ce_X2_winners ml_X7_197 iv_X2_winners cl_X2 rfl (ly_1003 (g_give (u2 (u2 σ 1000 9 x) 1000 7 3) R sp) h) (xx_dt dd_X7_settle 22 rfl) (by first | decide | omega) rfl rfl (Nat.le_of_ble_eq_true rfl) rfl ?_
      exact sw_iret O (xx_dt dd_X7_settle 23 rfl) rfl rfl (by rw [hQ]; exact ⟨by unfold o_settle; simp only [if_pos q1, if_pos q2]; rfl, by unfold g_settle; simp only [if_pos q1, if_pos q2]⟩)
    · exact sw_callVt (as := [.int 2]) (st := []) (k := 0) (n := 0) (k' := 1) (n' := 6) O (ct_X7_needStage_no hl (σ := σ) q2) ce_X7_needStage ml_X7_65 iv_X7_needStage cl_X7 rfl (ly_1000 σ h) (xx_dt dd_X7_settle 6 rfl) (by decide) rfl rfl (Nat.le_of_ble_eq_true rfl)  (by rw [hQ]; exact ⟨by unfold o_settle; simp only [if_pos q1, if_neg q2]; rfl, by unfold g_settle; simp only [if_pos q1, if_neg q2]⟩)
  · exact sw_callSt (as := [.int x, .int 0, .int 2]) (st := []) (k := 0) (n := 0) (k' := 1) (n' := 6) O (ct_X7_needBetween_no hl  q1) ce_X7_needBetween ml_X7_61 st_X7_needBetween (xx_dt dd_X7_settle 3 rfl) (by decide) rfl rfl (Nat.le_of_ble_eq_true rfl)  (by rw [hQ]; exact ⟨by unfold o_settle; simp only [if_neg q1]; rfl, by unfold g_settle; simp only [if_neg q1]⟩)
def o_fail (σ : XS9) (x : Int32) (R B : Nat) (sp : Nat → Nat) : Int32 ⊕ String := (if n_lt x B then (if σ 1000 7 = 3 then (if (σ 1040 (cn x)) = (-1) then .inr eISE else .inl ((f_amountWon σ (cn x)) / 10)) else .inr eISE) else .inr eIOB)
def g_fail (σ : XS9) (x : Int32) (R B : Nat) (sp : Nat → Nat) : XS9 := (if n_lt x B then (if σ 1000 7 = 3 then (if (σ 1040 (cn x)) = (-1) then σ else g_give (g_find (g_leaveOut (u2 σ 1000 10 ((σ 1000 10) + ((f_amountWon σ (cn x)) / 10))) (cn x))) R sp) else σ) else σ)
theorem ct_X7_fail {l : Launch} {h : XH} (hl : l.stackTraces = false) {σ : XS9} {R : Nat} (hR : σ 1001 4 = nI R) (hR5 : R ≤ 5) {B : Nat} (hB : σ 1001 9 = nI B) (hB6 : B ≤ 6) {sp : Nat → Nat} (hsp : ∀ r, r < 5 → σ 1010 r = nI (sp r) ∧ sp r ≤ 5) (hcd : XCD σ) {x : Int32} : XEo l m_X7_fail 7 1 6 [.ref 1000, .int x] (setC σ h) ((xoi (o_fail σ x R B sp))) (setC (g_fail σ x R B sp) h) := by
  refine XMet.of hl rfl rfl (Nat.le_of_ble_eq_true rfl) (fun Y O hh hQ => ?_)
  show SW Y 1 6 (setC σ h) 0 [.ref 1000, .int x, xx_d] []
  refine sw_aload_n O (xx_dt dd_X7_fail 0 rfl) rfl ?_
  refine sw_iload_n O (xx_dt dd_X7_fail 1 rfl) rfl ?_
  by_cases q1 : n_lt x B
  · refine sw_callVx (as := [.int x]) (st := []) (st2 := []) (k' := 0) (n' := 0) O (ct_X7_needBidder_ok hl (σ := σ) (B := B) hB (by omega) q1) ce_X7_needBidder ml_X7_124 iv_X7_needBidder cl_X7 rfl (ly_1000 σ h) (xx_dt dd_X7_fail 2 rfl) (by decide) rfl rfl (Nat.le_of_ble_eq_true rfl) rfl ?_
    refine sw_lsE (ls2 := [.ref 1000, .int (nI (cn x)), xx_d]) (by rw [← q1.1]) ?_
    have hvq1 := q1.2
    refine sw_aload_n O (xx_dt dd_X7_fail 3 rfl) rfl ?_
    refine sw_iconst (x := 3) O (xx_dt dd_X7_fail 4 rfl) (by decide) ?_
    by_cases q2 : σ 1000 7 = 3
    · refine sw_callVx (as := [.int 3]) (st := []) (st2 := []) (k' := 0) (n' := 0) O (ct_X7_needStage_ok hl (σ := σ) q2) ce_X7_needStage ml_X7_65 iv_X7_needStage cl_X7 rfl (ly_1000 σ h) (xx_dt dd_X7_fail 5 rfl) (by decide) rfl rfl (Nat.le_of_ble_eq_true rfl) rfl ?_
      refine sw_aload_n O (xx_dt dd_X7_fail 6 rfl) rfl ?_
      refine sw_get (v := .ref 1003) O (xx_dt dd_X7_fail 7 rfl) cl_X7 fl_X7_29 (ly_1000 σ h) (by decide) rfl ?_
      refine sw_get (v := .ref 1040) O (xx_dt dd_X7_fail 8 rfl) cl_X2 fl_X7_200 (ly_1003 σ h) (by decide) rfl ?_
      refine sw_iload_n O (xx_dt dd_X7_fail 9 rfl) rfl ?_
      refine sw_iaload (v := .int (σ 1040 (cn x))) O (xx_dt dd_X7_fail 10 rfl) (ly_1040 σ h) (pk_in (cn x) _ (by omega)) (by rw [nI_clamp (by omega)]; try exact rfl) ?_
      refine sw_iconst (x := (-1)) O (xx_dt dd_X7_fail 11 rfl) (by decide) ?_
      refine sw_icmp_ne (tgt := 33) O (xx_dt dd_X7_fail 12 rfl) (by decide) (fun q3 => ?_) (fun q3 => ?_)
      · refine sw_aload_n O (xx_dt dd_X7_fail 18 rfl) rfl ?_
        refine sw_get (v := .ref 1003) O (xx_dt dd_X7_fail 19 rfl) cl_X7 fl_X7_29 (ly_1000 σ h) (by decide) rfl ?_
        refine sw_iload_n O (xx_dt dd_X7_fail 20 rfl) rfl ?_
        refine sw_callVx (as := [.int (nI (cn x))]) (st := []) (st2 := [.int (f_amountWon σ (cn x))]) O (ct_X2_amountWon hl (σ := σ) (i := cn x) (by omega)) ce_X2_amountWon ml_X7_205 iv_X2_amountWon cl_X2 rfl (ly_1003 σ h) (xx_dt dd_X7_fail 21 rfl) (by first | decide | omega) rfl rfl (Nat.le_of_ble_eq_true rfl) rfl ?_
        refine sw_bipush (x := 10) O (xx_dt dd_X7_fail 22 rfl) (by decide) ?_
        refine sw_idiv O (xx_dt dd_X7_fail 23 rfl) (by first | decide | assumption) ?_
        refine sw_istore_n (ls2 := [.ref 1000, .int (nI (cn x)), .int ((f_amountWon σ (cn x)) / 10)]) O (xx_dt dd_X7_fail 24 rfl) (by decide) rfl ?_
        refine sw_aload_n O (xx_dt dd_X7_fail 25 rfl) rfl ?_
        refine sw_dup O (xx_dt dd_X7_fail 26 rfl) rfl ?_
        refine sw_get (v := .int (σ 1000 10)) O (xx_dt dd_X7_fail 27 rfl) cl_X7 fl_X7_209 (ly_1000 σ h) (by decide) rfl ?_
        refine sw_iload_n O (xx_dt dd_X7_fail 28 rfl) rfl ?_
        refine sw_iadd O (xx_dt dd_X7_fail 29 rfl) ?_
        refine sw_put (h2 := setC (u2 σ 1000 10 ((σ 1000 10) + ((f_amountWon σ (cn x)) / 10))) h) O (xx_dt dd_X7_fail 30 rfl) cl_X7 fl_X7_209 (ly_1000 σ h) (by decide) (by decide) rfl (fun _ => ⟨rfl, rfl⟩) pu_1000_10 ?_
        refine sw_aload_n O (xx_dt dd_X7_fail 31 rfl) rfl ?_
        refine sw_get (v := .ref 1003) O (xx_dt dd_X7_fail 32 rfl) cl_X7 fl_X7_29 (ly_1000 (u2 σ 1000 10 ((σ 1000 10) + ((f_amountWon σ (cn x)) / 10))) h) (by decide) rfl ?_
        refine sw_iload_n O (xx_dt dd_X7_fail 33 rfl) rfl ?_
        refine sw_callVx (as := [.int (nI (cn x))]) (st := []) (st2 := []) O (ct_X2_leaveOut hl (σ := u2 σ 1000 10 ((σ 1000 10) + ((f_amountWon σ (cn x)) / 10))) (i := cn x) (by omega)) ce_X2_leaveOut ml_X7_212 iv_X2_leaveOut cl_X2 rfl (ly_1003 (u2 σ 1000 10 ((σ 1000 10) + ((f_amountWon σ (cn x)) / 10))) h) (xx_dt dd_X7_fail 34 rfl) (by first | decide | omega) rfl rfl (Nat.le_of_ble_eq_true rfl) rfl ?_
        refine sw_aload_n O (xx_dt dd_X7_fail 35 rfl) rfl ?_
        refine sw_get (v := .ref 1004) O (xx_dt dd_X7_fail 36 rfl) cl_X7 fl_X7_36 (ly_1000 (g_leaveOut (u2 σ 1000 10 ((σ 1000 10) + ((f_amountWon σ (cn x)) / 10))) (cn x)) h) (by decide) rfl ?_
        refine sw_aload_n O (xx_dt dd_X7_fail 37 rfl) rfl ?_
        refine sw_get (v := .ref 1003) O (xx_dt dd_X7_fail 38 rfl) cl_X7 fl_X7_29 (ly_1000 (g_leaveOut (u2 σ 1000 10 ((σ 1000 10) + ((f_amountWon σ (cn x)) / 10))) (cn x)) h) (by decide) rfl ?_
        refine sw_callVx (as := [.ref 1003]) (st := []) (st2 := []) O (ct_X4_find hl (σ := g_leaveOut (u2 σ 1000 10 ((σ 1000 10) + ((f_amountWon σ (cn x)) / 10))) (cn x))) ce_X4_find ml_X7_186 iv_X4_find cl_X4 rfl (ly_1004 (g_leaveOut (u2 σ 1000 10 ((σ 1000 10) + ((f_amountWon σ (cn x)) / 10))) (cn x)) h) (xx_dt dd_X7_fail 39 rfl) (by first | decide | omega) rfl rfl (Nat.le_of_ble_eq_true rfl) rfl ?_
        refine sw_aload_n O (xx_dt dd_X7_fail 40 rfl) rfl ?_
        refine sw_get (v := .ref 1005) O (xx_dt dd_X7_fail 41 rfl) cl_X7 fl_X7_43 (ly_1000 (g_find (g_leaveOut (u2 σ 1000 10 ((σ 1000 10) + ((f_amountWon σ (cn x)) / 10))) (cn x))) h) (by decide) rfl ?_
        refine sw_aload_n O (xx_dt dd_X7_fail 42 rfl) rfl ?_
        refine sw_get (v := .ref 1001) O (xx_dt dd_X7_fail 43 rfl) cl_X7 fl_X7_12 (ly_1000 (g_find (g_leaveOut (u2 σ 1000 10 ((σ 1000 10) + ((f_amountWon σ (cn x)) / 10))) (cn x))) h) (by decide) rfl ?_
        refine sw_aload_n O (xx_dt dd_X7_fail 44 rfl) rfl ?_
        refine sw_get (v := .ref 1003) O (xx_dt dd_X7_fail 45 rfl) cl_X7 fl_X7_29 (ly_1000 (g_find (g_leaveOut (u2 σ 1000 10 ((σ 1000 10) + ((f_amountWon σ (cn x)) / 10))) (cn x))) h) (by decide) rfl ?_
        refine sw_callVx (as := [.ref 1001, .ref 1003]) (st := []) (st2 := []) O (ct_X3_give hl (σ := g_find (g_leaveOut (u2 σ 1000 10 ((σ 1000 10) + ((f_amountWon σ (cn x)) / 10))) (cn x))) (R := R) (((congrFun (fr_find (by omega)) 4).trans (congrFun (fr_leaveOut (by omega)) 4)).trans hR) (by omega) (sp := sp) (fun j9 hj9 => by rw [show (g_find (g_leaveOut (u2 σ 1000 10 ((σ 1000 10) + ((f_amountWon σ (cn x)) / 10))) (cn x))) 1010 = σ 1010 from ((fr_find (by omega)).trans (fr_leaveOut (by omega)))]; exact hsp j9 hj9) (hcd.of (fun i9 hi9 => (((fr_find (by omega)).trans (fr_leaveOut (by omega))).trans (u2_ne (by omega)))))) ce_X3_give ml_X7_193 iv_X3_give cl_X3 rfl (ly_1005 (g_find (g_leaveOut (u2 σ 1000 10 ((σ 1000 10) + ((f_amountWon σ (cn x)) / 10))) (cn x))) h) (xx_dt dd_X7_fail 46 rfl) (by first | decide | omega) rfl rfl (Nat.le_of_ble_eq_true rfl) rfl ?_
        refine sw_iload_n O (xx_dt dd_X7_fail 47 rfl) rfl ?_
        exact sw_iret O (xx_dt dd_X7_fail 48 rfl) rfl rfl (by rw [hQ]; exact ⟨by unfold o_fail; simp only [if_pos q1, if_pos q2, if_neg q3]; rfl, by unfold g_fail; simp only [if_pos q1, if_pos q2, if_neg q3]⟩)
      · exact sw_throw (k := 0) (n := 0) O ex_ISE th_X7_fail_23 (xx_dt dd_X7_fail 13 rfl) (xx_dt dd_X7_fail 14 rfl) (xx_dt dd_X7_fail 15 rfl) (xx_dt dd_X7_fail 16 rfl) (xx_dt dd_X7_fail 17 rfl) (by decide) (by decide) (by rw [hQ]; exact ⟨by unfold o_fail; simp only [if_pos q1, if_pos q2, if_pos q3]; rfl, by unfold g_fail; simp only [if_pos q1, if_pos q2, if_pos q3]⟩)
    · exact sw_callVt (as := [.int 3]) (st := []) (k := 0) (n := 0) (k' := 1) (n' := 6) O (ct_X7_needStage_no hl (σ := σ) q2) ce_X7_needStage ml_X7_65 iv_X7_needStage cl_X7 rfl (ly_1000 σ h) (xx_dt dd_X7_fail 5 rfl) (by decide) rfl rfl (Nat.le_of_ble_eq_true rfl)  (by rw [hQ]; exact ⟨by unfold o_fail; simp only [if_pos q1, if_neg q2]; rfl, by unfold g_fail; simp only [if_pos q1, if_neg q2]⟩)
  · exact sw_callVt (as := [.int x]) (st := []) (k := 0) (n := 0) (k' := 1) (n' := 6) O (ct_X7_needBidder_no hl (σ := σ) (B := B) hB (by omega) q1) ce_X7_needBidder ml_X7_124 iv_X7_needBidder cl_X7 rfl (ly_1000 σ h) (xx_dt dd_X7_fail 2 rfl) (by decide) rfl rfl (Nat.le_of_ble_eq_true rfl)  (by rw [hQ]; exact ⟨by unfold o_fail; simp only [if_neg q1]; rfl, by unfold g_fail; simp only [if_neg q1]⟩)
theorem bo_agreeWith {σ : XS9} {R B : Nat} : f_agreeWith σ R B = 0 ∨ f_agreeWith σ R B = 1 := by
  unfold f_agreeWith
  split
  · exact .inr rfl
  · rename_i r e
    unfold x_agreeWith_2 at e
    refine xitR_all (P := fun r : Int32 => r = 0 ∨ r = 1) (fun i s r e => ?_) _ _ _ _ e
    revert e
    (try dsimp only)
    cases e2 : x_agreeWith_16 σ R B i 0 with
    | inl s16 =>
      (try dsimp only)
      split <;> intro e
      · cases e
      · exact .inl (Sum.inr.inj e).symm
    | inr r16 =>
      intro e
      rw [← Sum.inr.inj e]
      unfold x_agreeWith_16 at e2
      refine xitR_all (P := fun r : Int32 => r = 0 ∨ r = 1) (fun i s r e => ?_) _ _ _ _ e2
      revert e
      (try dsimp only)
      split <;> intro e
      · cases e
      · exact .inl (Sum.inr.inj e).symm
def x_isSettlementSound_12 (σ : XS9) (R B w : Nat) (s0 : Unit) : Unit ⊕ Int32 := xitR (fun i12 s12 => (if (f_paymentOf σ i12 w) ≤ (f_amountWon σ i12) then .inl () else .inr 0)) B 0 s0
def f_isSettlementSound (σ : XS9) (R B w : Nat) : Int32 := (if (σ 1000 7) = 3 then (match (x_isSettlementSound_12 σ R B w ()) with | .inl s12 => f_agreeWith σ R B | .inr r12 => r12) else 1)
theorem ct_X7_isSettlementSound {l : Launch} {h : XH} (hl : l.stackTraces = false) {σ : XS9} {R : Nat} (hR : σ 1001 4 = nI R) (hR5 : R ≤ 5) {B : Nat} (hB : σ 1001 9 = nI B) (hB6 : B ≤ 6) {w : Nat} (hw : σ 1000 9 = nI w) (hw3 : w < 3)  : XEx l m_X7_isSettlementSound 3 0 0 [.ref 1000] (setC σ h) (some (.int (f_isSettlementSound σ R B w))) (setC σ h) := by
  refine XMet.of hl rfl rfl (Nat.le_of_ble_eq_true rfl) (fun Y O hh hQ => ?_)
  show SW Y 0 0 (setC σ h) 0 [.ref 1000, xx_d] []
  refine sw_aload_n O (xx_dt dd_X7_isSettlementSound 0 rfl) rfl ?_
  refine sw_get (v := .int (σ 1000 7)) O (xx_dt dd_X7_isSettlementSound 1 rfl) cl_X7 fl_X7_54 (ly_1000 σ h) (by decide) rfl ?_
  refine sw_iconst (x := 3) O (xx_dt dd_X7_isSettlementSound 2 rfl) (by decide) ?_
  refine sw_icmp_eq (tgt := 10) O (xx_dt dd_X7_isSettlementSound 3 rfl) (by decide) (fun q1 => ?_) (fun q1 => ?_)
  · refine sw_iconst (x := 0) O (xx_dt dd_X7_isSettlementSound 6 rfl) (by decide) ?_
    refine sw_istore_n (ls2 := [.ref 1000, .int 0]) O (xx_dt dd_X7_isSettlementSound 7 rfl) (by decide) rfl ?_
    refine sw_forR (R := Int32) (fun i12 s12 => (if (f_paymentOf σ i12 w) ≤ (f_amountWon σ i12) then .inl () else .inr 0)) (fun _ _ => True) (FR := fun r9 => f_isSettlementSound σ R B w = r9) (hp := fun _ => setC σ h) (hd := 12) (lc := fun i12 s12 => [.ref 1000, .int (nI i12)]) (N := B) (fun i12 s12 hi12 hP12 => ⟨fun _ _ => trivial, fun kk12 kr12 => ?_⟩) B 0 () (by omega) (trivial) (fun sN12 eN12 hP12 => ?_) (fun r12 eN12 => ?_)
    · refine sw_iload_n O (xx_dt dd_X7_isSettlementSound 8 rfl) rfl ?_
      refine sw_aload_n O (xx_dt dd_X7_isSettlementSound 9 rfl) rfl ?_
      refine sw_get (v := .ref 1001) O (xx_dt dd_X7_isSettlementSound 10 rfl) cl_X7 fl_X7_12 (ly_1000 σ h) (by decide) rfl ?_
      refine sw_get (v := .int (nI B)) O (xx_dt dd_X7_isSettlementSound 11 rfl) cl_X6 fl_X7_100 (ly_1001 σ h) (by decide) (congrArg Value.int hB) ?_
      refine sw_icmp_ge (tgt := 47) O (xx_dt dd_X7_isSettlementSound 12 rfl) (by decide) (fun q2 => ?_) (fun q2 => ?_)
      · exact absurd q2 (nI_ge (b := B) hi12 (by omega))
      · refine sw_aload_n O (xx_dt dd_X7_isSettlementSound 13 rfl) rfl ?_
        refine sw_iload_n O (xx_dt dd_X7_isSettlementSound 14 rfl) rfl ?_
        refine sw_callVx (as := [.int (nI i12)]) (st := []) (st2 := [.int (f_paymentOf σ i12 w)]) O (ct_X7_paymentOf hl (σ := σ) (w := w) hw (by omega) (i := i12) (by omega)) ce_X7_paymentOf ml_X7_282 iv_X7_paymentOf cl_X7 rfl (ly_1000 σ h) (xx_dt dd_X7_isSettlementSound 15 rfl) (by first | decide | omega) rfl rfl (Nat.le_of_ble_eq_true rfl) rfl ?_
        refine sw_aload_n O (xx_dt dd_X7_isSettlementSound 16 rfl) rfl ?_
        refine sw_get (v := .ref 1003) O (xx_dt dd_X7_isSettlementSound 17 rfl) cl_X7 fl_X7_29 (ly_1000 σ h) (by decide) rfl ?_
        refine sw_iload_n O (xx_dt dd_X7_isSettlementSound 18 rfl) rfl ?_
        refine sw_callVx (as := [.int (nI i12)]) (st := [.int (f_paymentOf σ i12 w)]) (st2 := [.int (f_amountWon σ i12), .int (f_paymentOf σ i12 w)]) O (ct_X2_amountWon hl (σ := σ) (i := i12) (by omega)) ce_X2_amountWon ml_X7_205 iv_X2_amountWon cl_X2 rfl (ly_1003 σ h) (xx_dt dd_X7_isSettlementSound 19 rfl) (by first | decide | omega) rfl rfl (Nat.le_of_ble_eq_true rfl) rfl ?_
        refine sw_icmp_le (tgt := 41) O (xx_dt dd_X7_isSettlementSound 20 rfl) (by decide) (fun q3 => ?_) (fun q3 => ?_)
        · refine sw_iinc (y := nI (i12 + 1)) (ls2 := [.ref 1000, .int (nI (i12 + 1))]) O (xx_dt dd_X7_isSettlementSound 23 rfl) rfl (nI_1 _) (by decide) rfl ?_
          refine sw_goto (tgt := 12) O (xx_dt dd_X7_isSettlementSound 24 rfl) (by decide) ?_
          exact kk12 () (by simp only [if_pos q3])
        · refine sw_iconst (x := 0) O (xx_dt dd_X7_isSettlementSound 21 rfl) (by decide) ?_
          exact sw_iret O (xx_dt dd_X7_isSettlementSound 22 rfl) rfl rfl (by rw [hQ, kr12 0 (by simp only [if_neg q3])]; exact ⟨rfl, rfl⟩)
    · show SW Y _ _ (setC σ h) 12 [.ref 1000, .int (nI B)] []
      refine sw_iload_n O (xx_dt dd_X7_isSettlementSound 8 rfl) rfl ?_
      refine sw_aload_n O (xx_dt dd_X7_isSettlementSound 9 rfl) rfl ?_
      refine sw_get (v := .ref 1001) O (xx_dt dd_X7_isSettlementSound 10 rfl) cl_X7 fl_X7_12 (ly_1000 σ h) (by decide) rfl ?_
      refine sw_get (v := .int (nI B)) O (xx_dt dd_X7_isSettlementSound 11 rfl) cl_X6 fl_X7_100 (ly_1001 σ h) (by decide) (congrArg Value.int hB) ?_
      refine sw_icmp_ge (tgt := 47) O (xx_dt dd_X7_isSettlementSound 12 rfl) (by decide) (fun q2 => ?_) (fun q2 => ?_)
      · refine sw_aload_n O (xx_dt dd_X7_isSettlementSound 25 rfl) rfl ?_
        refine sw_get (v := .ref 1005) O (xx_dt dd_X7_isSettlementSound 26 rfl) cl_X7 fl_X7_43 (ly_1000 σ h) (by decide) rfl ?_
        refine sw_aload_n O (xx_dt dd_X7_isSettlementSound 27 rfl) rfl ?_
        refine sw_get (v := .ref 1001) O (xx_dt dd_X7_isSettlementSound 28 rfl) cl_X7 fl_X7_12 (ly_1000 σ h) (by decide) rfl ?_
        refine sw_aload_n O (xx_dt dd_X7_isSettlementSound 29 rfl) rfl ?_
        refine sw_get (v := .ref 1003) O (xx_dt dd_X7_isSettlementSound 30 rfl) cl_X7 fl_X7_29 (ly_1000 σ h) (by decide) rfl ?_
        refine sw_callVx (as := [.ref 1001, .ref 1003]) (st := []) (st2 := [.int (f_agreeWith σ R B)]) O (ct_X3_agreeWith hl (σ := σ) (R := R) hR (by omega) (B := B) hB (by omega)) ce_X3_agreeWith ml_X7_441 iv_X3_agreeWith cl_X3 rfl (ly_1005 σ h) (xx_dt dd_X7_isSettlementSound 31 rfl) (by first | decide | omega) rfl rfl (Nat.le_of_ble_eq_true rfl) rfl ?_
        exact sw_iret O (xx_dt dd_X7_isSettlementSound 32 rfl) rfl (xx_bool bo_agreeWith) (by rw [hQ]; exact ⟨by unfold f_isSettlementSound; simp only [if_pos q1, x_isSettlementSound_12, eN12], rfl⟩)
      · exact absurd (Int32.le_refl _) q2
    · unfold f_isSettlementSound; simp only [if_pos q1, x_isSettlementSound_12, eN12]
  · refine sw_iconst (x := 1) O (xx_dt dd_X7_isSettlementSound 4 rfl) (by decide) ?_
    exact sw_iret O (xx_dt dd_X7_isSettlementSound 5 rfl) rfl rfl (by rw [hQ]; exact ⟨by unfold f_isSettlementSound; simp only [if_neg q1], rfl⟩)
theorem fr_runLog {σ : XS9} {x : Int32} {j r : Nat} {y : Int32} {B R K : Nat} (hK60 : K ≤ 60) {q : Nat} (h : q < 3000 ∨ 4000 ≤ q) : g_runLog σ 3000 2000 x j r y B R K q = σ q := by
  have H : ∀ s0, (x_runLog_11 σ 3000 2000 x j r y B R K s0).1 q = s0.1 q := fun s0 => by
    unfold x_runLog_11
    refine xitB_inv (fun s : XS9 × Int32 => s.1 q = s0.1 q) (N := K) (fun i s hi hP => ?_) K 0 s0 (by omega) rfl
    refine ⟨fun s' e => ?_, fun s' e => ?_⟩
    · revert e
      (try dsimp only)
      (repeat' split) <;> intro e <;> first | (have e9 := Sum.inl.inj e; refine (congrFun (congrArg Prod.fst e9.symm) q).trans ?_; refine (fr_closeRound (by omega)).trans ?_; simp (disch := omega) only [u2_ne, uR_ne]; exact hP) | (cases e; done)
    · revert e
      (try dsimp only)
      (repeat' split) <;> intro e <;> first | (have e9 := Sum.inr.inj e; refine (congrFun (congrArg Prod.fst e9.symm) q).trans ?_; exact hP) | (cases e; done)
  unfold g_runLog
  exact (H _).trans (fr_begin (by omega))
def f_isSound (σ : XS9) (R B w K : Nat) : Int32 := (if (f_isReplaySame (g_runLog σ 3000 2000 (-1) 0 0 0 B R K) R B) = 0 then 0 else (if (f_isClockSound (g_runLog σ 3000 2000 (-1) 0 0 0 B R K) R B) = 0 then 0 else (if (f_isSettlementSound (g_runLog σ 3000 2000 (-1) 0 0 0 B R K) R B w) = 0 then 0 else 1)))
def g_isSound (σ : XS9) (R B w K : Nat) : XS9 := g_runLog σ 3000 2000 (-1) 0 0 0 B R K
theorem ct_X7_isSound {l : Launch} {h : XH} (hl : l.stackTraces = false) {σ : XS9} {R : Nat} (hR : σ 1001 4 = nI R) (hR5 : R ≤ 5) {B : Nat} (hB : σ 1001 9 = nI B) (hB6 : B ≤ 6) {w : Nat} (hw : σ 1000 9 = nI w) (hw3 : w < 3) {K : Nat} (hK : σ 2000 9 = nI K) (hK60 : K ≤ 60)  : XEx l m_X7_isSound 6 0 0 [.ref 1000] (setC σ h) (some (.int (f_isSound σ R B w K))) (setC (g_isSound σ R B w K) h) := by
  refine XMet.of hl rfl rfl (Nat.le_of_ble_eq_true rfl) (fun Y O hh hQ => ?_)
  show SW Y 0 0 (setC σ h) 0 [.ref 1000] []
  refine sw_aload_n O (xx_dt dd_X7_isSound 0 rfl) rfl ?_
  refine sw_get (v := .ref 3000) O (xx_dt dd_X7_isSound 1 rfl) cl_X7 fl_X7_23 (ly_1000 σ h) (by decide) rfl ?_
  refine sw_aload_n O (xx_dt dd_X7_isSound 2 rfl) rfl ?_
  refine sw_get (v := .ref 1001) O (xx_dt dd_X7_isSound 3 rfl) cl_X7 fl_X7_12 (ly_1000 σ h) (by decide) rfl ?_
  refine sw_aload_n O (xx_dt dd_X7_isSound 4 rfl) rfl ?_
  refine sw_get (v := .ref 2000) O (xx_dt dd_X7_isSound 5 rfl) cl_X7 fl_X7_19 (ly_1000 σ h) (by decide) rfl ?_
  refine sw_iconst (x := (-1)) O (xx_dt dd_X7_isSound 6 rfl) (by decide) ?_
  refine sw_iconst (x := 0) O (xx_dt dd_X7_isSound 7 rfl) (by decide) ?_
  refine sw_iconst (x := 0) O (xx_dt dd_X7_isSound 8 rfl) (by decide) ?_
  refine sw_iconst (x := 0) O (xx_dt dd_X7_isSound 9 rfl) (by decide) ?_
  refine sw_callVx (as := [.ref 1001, .ref 2000, .int (-1), .int 0, .int 0, .int 0]) (st := []) (st2 := []) O (ct_X1_runLog hl (σ := σ) (b := 3000) (c := 2000) (.inr rfl) (.inl rfl) (by decide) (B := B) hB (by omega) (R := R) hR (by omega) (K := K) hK (by omega) (x := (-1)) (y := 0) (j := 0) (r := 0) (by omega) (by omega)) ce_X1_runLog ml_X7_329 iv_X1_runLog cl_X1 rfl (lk_0 σ h (.inr rfl)) (xx_dt dd_X7_isSound 10 rfl) (by first | decide | omega) rfl rfl (Nat.le_of_ble_eq_true rfl) rfl ?_
  refine sw_aload_n O (xx_dt dd_X7_isSound 11 rfl) rfl ?_
  refine sw_callVx (as := []) (st := []) (st2 := [.int (f_isReplaySame (g_runLog σ 3000 2000 (-1) 0 0 0 B R K) R B)]) O (ct_X7_isReplaySame hl (σ := g_runLog σ 3000 2000 (-1) 0 0 0 B R K) (R := R) ((congrFun (fr_runLog (by omega) (by omega)) 4).trans hR) (by omega) (B := B) ((congrFun (fr_runLog (by omega) (by omega)) 9).trans hB) (by omega)) ce_X7_isReplaySame ml_X7_336 iv_X7_isReplaySame cl_X7 rfl (ly_1000 (g_runLog σ 3000 2000 (-1) 0 0 0 B R K) h) (xx_dt dd_X7_isSound 12 rfl) (by first | decide | omega) rfl rfl (Nat.le_of_ble_eq_true rfl) rfl ?_
  refine sw_if_eq (tgt := 44) O (xx_dt dd_X7_isSound 13 rfl) (by decide) (fun q1 => ?_) (fun q1 => ?_)
  · refine sw_iconst (x := 0) O (xx_dt dd_X7_isSound 22 rfl) (by decide) ?_
    exact sw_iret O (xx_dt dd_X7_isSound 23 rfl) rfl rfl (by rw [hQ]; exact ⟨by unfold f_isSound; simp only [if_pos q1], by unfold g_isSound; simp only [if_pos q1]⟩)
  · refine sw_aload_n O (xx_dt dd_X7_isSound 14 rfl) rfl ?_
    refine sw_callVx (as := []) (st := []) (st2 := [.int (f_isClockSound (g_runLog σ 3000 2000 (-1) 0 0 0 B R K) R B)]) O (ct_X7_isClockSound hl (σ := g_runLog σ 3000 2000 (-1) 0 0 0 B R K) (R := R) ((congrFun (fr_runLog (by omega) (by omega)) 4).trans hR) (by omega) (B := B) ((congrFun (fr_runLog (by omega) (by omega)) 9).trans hB) (by omega)) ce_X7_isClockSound ml_X7_340 iv_X7_isClockSound cl_X7 rfl (ly_1000 (g_runLog σ 3000 2000 (-1) 0 0 0 B R K) h) (xx_dt dd_X7_isSound 15 rfl) (by first | decide | omega) rfl rfl (Nat.le_of_ble_eq_true rfl) rfl ?_
    refine sw_if_eq (tgt := 44) O (xx_dt dd_X7_isSound 16 rfl) (by decide) (fun q2 => ?_) (fun q2 => ?_)
    · refine sw_iconst (x := 0) O (xx_dt dd_X7_isSound 22 rfl) (by decide) ?_
      exact sw_iret O (xx_dt dd_X7_isSound 23 rfl) rfl rfl (by rw [hQ]; exact ⟨by unfold f_isSound; simp only [if_neg q1, if_pos q2], by unfold g_isSound; simp only [if_neg q1, if_pos q2]⟩)
    · refine sw_aload_n O (xx_dt dd_X7_isSound 17 rfl) rfl ?_
      refine sw_callVx (as := []) (st := []) (st2 := [.int (f_isSettlementSound (g_runLog σ 3000 2000 (-1) 0 0 0 B R K) R B w)]) O (ct_X7_isSettlementSound hl (σ := g_runLog σ 3000 2000 (-1) 0 0 0 B R K) (R := R) ((congrFun (fr_runLog (by omega) (by omega)) 4).trans hR) (by omega) (B := B) ((congrFun (fr_runLog (by omega) (by omega)) 9).trans hB) (by omega) (w := w) ((congrFun (fr_runLog (by omega) (by omega)) 9).trans hw) (by omega)) ce_X7_isSettlementSound ml_X7_343 iv_X7_isSettlementSound cl_X7 rfl (ly_1000 (g_runLog σ 3000 2000 (-1) 0 0 0 B R K) h) (xx_dt dd_X7_isSound 18 rfl) (by first | decide | omega) rfl rfl (Nat.le_of_ble_eq_true rfl) rfl ?_
      refine sw_if_eq (tgt := 44) O (xx_dt dd_X7_isSound 19 rfl) (by decide) (fun q3 => ?_) (fun q3 => ?_)
      · refine sw_iconst (x := 0) O (xx_dt dd_X7_isSound 22 rfl) (by decide) ?_
        exact sw_iret O (xx_dt dd_X7_isSound 23 rfl) rfl rfl (by rw [hQ]; exact ⟨by unfold f_isSound; simp only [if_neg q1, if_neg q2, if_pos q3], by unfold g_isSound; simp only [if_neg q1, if_neg q2, if_pos q3]⟩)
      · refine sw_iconst (x := 1) O (xx_dt dd_X7_isSound 20 rfl) (by decide) ?_
        refine sw_goto (tgt := 45) O (xx_dt dd_X7_isSound 21 rfl) (by decide) ?_
        exact sw_iret O (xx_dt dd_X7_isSound 23 rfl) rfl rfl (by rw [hQ]; exact ⟨by unfold f_isSound; simp only [if_neg q1, if_neg q2, if_neg q3], by unfold g_isSound; simp only [if_neg q1, if_neg q2, if_neg q3]⟩)
def f_saleFact14 (σ : XS9) (K B R C w : Nat) (cnt : Nat → Nat) : Int32 := f_signals σ R B cnt
theorem ct_X7_saleFact_14 {l : Launch} {h : XH} (hl : l.stackTraces = false) {σ : XS9} {K : Nat} (hK : σ 2000 9 = nI K) (hK60 : K ≤ 60) {B : Nat} (hB : σ 1001 9 = nI B) (hB6 : B ≤ 6) {R : Nat} (hR : σ 1001 4 = nI R) (hR5 : R ≤ 5) {C : Nat} (hC : σ 1006 1 = nI C) (hC10 : C ≤ 10) {w : Nat} (hw : σ 1000 9 = nI w) (hw3 : w < 3) {cnt : Nat → Nat} (hct : ∀ i, i < 6 → σ 1020 i = nI (cnt i) ∧ cnt i ≤ 6) (ham : ∀ i k, i < 6 → k < 6 → 0 ≤ σ (1031 + i) k)  : XEx l m_X7_saleFact 4 0 0 [.ref 1000, .int 14] (setC σ h) (some (.int (f_saleFact14 σ K B R C w cnt))) (setC σ h) := by
  refine XMet.of hl rfl rfl (Nat.le_of_ble_eq_true rfl) (fun Y O hh hQ => ?_)
  show SW Y 0 0 (setC σ h) 0 [.ref 1000, .int 14] []
  refine sw_iload_n O (xx_dt dd_X7_saleFact 0 rfl) rfl ?_
  refine sw_tableIn (off := 187) (tgt := 188) O (xx_dt dd_X7_saleFact 1 rfl) (by decide) (by decide) rfl (by decide) ?_
  refine sw_aload_n O (xx_dt dd_X7_saleFact 59 rfl) rfl ?_
  refine sw_get (v := .ref 1003) O (xx_dt dd_X7_saleFact 60 rfl) cl_X7 fl_X7_29 (ly_1000 σ h) (by decide) rfl ?_
  refine sw_aload_n O (xx_dt dd_X7_saleFact 61 rfl) rfl ?_
  refine sw_get (v := .ref 1001) O (xx_dt dd_X7_saleFact 62 rfl) cl_X7 fl_X7_12 (ly_1000 σ h) (by decide) rfl ?_
  refine sw_callVx (as := [.ref 1001]) (st := []) (st2 := [.int (f_signals σ R B cnt)]) O (ct_X2_signals hl (σ := σ) (R := R) hR (by omega) (B := B) hB (by omega) (cnt := cnt) hct ham) ce_X2_signals ml_X7_433 iv_X2_signals cl_X2 rfl (ly_1003 σ h) (xx_dt dd_X7_saleFact 63 rfl) (by first | decide | omega) rfl rfl (Nat.le_of_ble_eq_true rfl) rfl ?_
  exact sw_iret O (xx_dt dd_X7_saleFact 64 rfl) rfl rfl (by rw [hQ]; exact ⟨by unfold f_saleFact14; rfl, rfl⟩)
def f_saleFact (σ : XS9) (K B R C w : Nat) (cnt : Nat → Nat) (v : Nat) : Int32 := match v with | 0 => f_saleFact0 σ K B R C w | 1 => f_saleFact1 σ K B R C w | 2 => f_saleFact2 σ K B R C w | 3 => f_saleFact3 σ K B R C w | 4 => f_saleFact4 σ K B R C w | 5 => f_saleFact5 σ K B R C w | 6 => f_saleFact6 σ K B R C w | 7 => f_saleFact7 σ K B R C w | 8 => f_saleFact8 σ K B R C w | 9 => f_saleFact9 σ K B R C w | 10 => f_saleFact10 σ K B R C w | 11 => f_saleFact11 σ K B R C w | 12 => f_saleFact12 σ K B R C w | 13 => f_saleFact13 σ K B R C w | 14 => f_saleFact14 σ K B R C w cnt | 15 => f_saleFact15 σ K B R C w | _ => f_saleFact16 σ K B R C w
theorem ct_X7_saleFact {l : Launch} {h : XH} (hl : l.stackTraces = false) {σ : XS9} {K : Nat} (hK : σ 2000 9 = nI K) (hK60 : K ≤ 60) {B : Nat} (hB : σ 1001 9 = nI B) (hB6 : B ≤ 6) {R : Nat} (hR : σ 1001 4 = nI R) (hR5 : R ≤ 5) {C : Nat} (hC : σ 1006 1 = nI C) (hC10 : C ≤ 10) {w : Nat} (hw : σ 1000 9 = nI w) (hw3 : w < 3) {cnt : Nat → Nat} (hct : ∀ i, i < 6 → σ 1020 i = nI (cnt i) ∧ cnt i ≤ 6) (ham : ∀ i k, i < 6 → k < 6 → 0 ≤ σ (1031 + i) k)  {v : Nat} (hv : v < 17) : XEx l m_X7_saleFact 4 0 0 [.ref 1000, .int (nI v)] (setC σ h) (some (.int (f_saleFact σ K B R C w cnt v))) (setC σ h) := by
  match v, hv with
  | 0, _ => exact ct_X7_saleFact_0 hl hK hK60 hB hB6 hR hR5 hC hC10 hw hw3
  | 1, _ => exact ct_X7_saleFact_1 hl hK hK60 hB hB6 hR hR5 hC hC10 hw hw3
  | 2, _ => exact ct_X7_saleFact_2 hl hK hK60 hB hB6 hR hR5 hC hC10 hw hw3
  | 3, _ => exact ct_X7_saleFact_3 hl hK hK60 hB hB6 hR hR5 hC hC10 hw hw3
  | 4, _ => exact ct_X7_saleFact_4 hl hK hK60 hB hB6 hR hR5 hC hC10 hw hw3
  | 5, _ => exact ct_X7_saleFact_5 hl hK hK60 hB hB6 hR hR5 hC hC10 hw hw3
  | 6, _ => exact ct_X7_saleFact_6 hl hK hK60 hB hB6 hR hR5 hC hC10 hw hw3
  | 7, _ => exact ct_X7_saleFact_7 hl hK hK60 hB hB6 hR hR5 hC hC10 hw hw3
  | 8, _ => exact ct_X7_saleFact_8 hl hK hK60 hB hB6 hR hR5 hC hC10 hw hw3
  | 9, _ => exact ct_X7_saleFact_9 hl hK hK60 hB hB6 hR hR5 hC hC10 hw hw3
  | 10, _ => exact ct_X7_saleFact_10 hl hK hK60 hB hB6 hR hR5 hC hC10 hw hw3
  | 11, _ => exact ct_X7_saleFact_11 hl hK hK60 hB hB6 hR hR5 hC hC10 hw hw3
  | 12, _ => exact ct_X7_saleFact_12 hl hK hK60 hB hB6 hR hR5 hC hC10 hw hw3
  | 13, _ => exact ct_X7_saleFact_13 hl hK hK60 hB hB6 hR hR5 hC hC10 hw hw3
  | 14, _ => exact ct_X7_saleFact_14 hl hK hK60 hB hB6 hR hR5 hC hC10 hw hw3 hct ham
  | 15, _ => exact ct_X7_saleFact_15 hl hK hK60 hB hB6 hR hR5 hC hC10 hw hw3
  | 16, _ => exact ct_X7_saleFact_16 hl hK hK60 hB hB6 hR hR5 hC hC10 hw hw3
  | n + 17, h9 => exact absurd h9 (by omega)
def o_sale (σ : XS9) (x : Int32) (K B R C w : Nat) (cnt : Nat → Nat) : Int32 ⊕ String := (if n_bt x 0 16 then .inl (f_saleFact σ K B R C w cnt (cn x)) else .inr eIAE)
theorem ct_X7_sale {l : Launch} {h : XH} (hl : l.stackTraces = false) {σ : XS9} {K : Nat} (hK : σ 2000 9 = nI K) (hK60 : K ≤ 60) {B : Nat} (hB : σ 1001 9 = nI B) (hB6 : B ≤ 6) {R : Nat} (hR : σ 1001 4 = nI R) (hR5 : R ≤ 5) {C : Nat} (hC : σ 1006 1 = nI C) (hC10 : C ≤ 10) {w : Nat} (hw : σ 1000 9 = nI w) (hw3 : w < 3) {cnt : Nat → Nat} (hct : ∀ i, i < 6 → σ 1020 i = nI (cnt i) ∧ cnt i ≤ 6) (ham : ∀ i k, i < 6 → k < 6 → 0 ≤ σ (1031 + i) k) {x : Int32} : XEo l m_X7_sale 7 1 6 [.ref 1000, .int x] (setC σ h) ((xoi (o_sale σ x K B R C w cnt))) (setC σ h) := by
  refine XMet.of hl rfl rfl (Nat.le_of_ble_eq_true rfl) (fun Y O hh hQ => ?_)
  show SW Y 1 6 (setC σ h) 0 [.ref 1000, .int x] []
  refine sw_iload_n O (xx_dt dd_X7_sale 0 rfl) rfl ?_
  refine sw_iconst (x := 0) O (xx_dt dd_X7_sale 1 rfl) (by decide) ?_
  refine sw_bipush (x := 16) O (xx_dt dd_X7_sale 2 rfl) (by decide) ?_
  by_cases q1 : n_bt x 0 16
  · refine sw_callSx (as := [.int x, .int 0, .int 16]) (st := []) (st2 := []) (k' := 0) (n' := 0) O (ct_X7_needBetween_ok hl  q1) ce_X7_needBetween ml_X7_61 st_X7_needBetween (xx_dt dd_X7_sale 3 rfl) (by decide) rfl rfl (Nat.le_of_ble_eq_true rfl) rfl ?_
    refine sw_lsE (ls2 := [.ref 1000, .int (nI (cn x))]) (by rw [← (bt_nat 16 q1 (by decide) (by decide) (by decide)).1]) ?_
    have hvq1 := (bt_nat 16 q1 (by decide) (by decide) (by decide)).2
    refine sw_aload_n O (xx_dt dd_X7_sale 4 rfl) rfl ?_
    refine sw_iload_n O (xx_dt dd_X7_sale 5 rfl) rfl ?_
    refine sw_callVx (as := [.int (nI (cn x))]) (st := []) (st2 := [.int (f_saleFact σ K B R C w cnt (cn x))]) O (ct_X7_saleFact hl (σ := σ) (K := K) hK (by omega) (B := B) hB (by omega) (R := R) hR (by omega) (C := C) hC (by omega) (w := w) hw (by omega) (cnt := cnt) hct ham (v := cn x) (by omega)) ce_X7_saleFact ml_X7_304 iv_X7_saleFact cl_X7 rfl (ly_1000 σ h) (xx_dt dd_X7_sale 6 rfl) (by first | decide | omega) rfl rfl (Nat.le_of_ble_eq_true rfl) rfl ?_
    exact sw_iret O (xx_dt dd_X7_sale 7 rfl) rfl rfl (by rw [hQ]; exact ⟨by unfold o_sale; simp only [if_pos q1]; rfl, rfl⟩)
  · exact sw_callSt (as := [.int x, .int 0, .int 16]) (st := []) (k := 0) (n := 0) (k' := 1) (n' := 6) O (ct_X7_needBetween_no hl  q1) ce_X7_needBetween ml_X7_61 st_X7_needBetween (xx_dt dd_X7_sale 3 rfl) (by decide) rfl rfl (Nat.le_of_ble_eq_true rfl)  (by rw [hQ]; exact ⟨by unfold o_sale; simp only [if_neg q1]; rfl, rfl⟩)
end
section
/-! ===== more rules: statics, casts, bytes, clones, arrays of references ===== -/
section
variable {Y : XY} {M : XM} {l : Launch} {d k n : Nat} {h : XH} {pc : Nat} {ls st : List Value} {ρ : Nat → Nat} {ow : Nat → Option Nat} {H : Heap} {locs : List Loc} {cells slots : Nat} {lsA : Array Slot}
theorem xx_old {r : Nat} {c : XC} (r9 : xx_R Y k n h ls st ρ ow H locs cells slots lsA) (hc : h r = some c) (h1 : r < 1000) : ρ r = xd_E (xy_D Y) r := by
  rcases (r9.1.2.2.2.1 r c hc).1 with ⟨-, -, e⟩ | ⟨e, -⟩
  · exact e
  · omega
theorem xx_vaS (O : xx_O Y M l d) (r9 : xx_R Y k n h ls st ρ ow H locs cells slots lsA) (hgr : (xt_s Y.1).heap.size ≤ H.size) : va_S (fun q => (xd_H (xy_D Y)).size ≤ q) (xt_s Y.1).heap H locs :=
  ⟨hgr, fun q h1 h2 => by rw [r9.1.2.1 q (Nat.not_le.mp h2), O.2.2.2.2.2.2.2.2.2.2.2.2.2.2.2 q (Nat.not_le.mp h2)], fun z hz => r9.2.2.1 z hz⟩
theorem sw_gets {idx i : Nat} {C nm ds : String} {z : Int32} (O : xx_O Y M l d) (hd : decode M.2.1 pc = .ok (.getstatic idx, 3)) (hq : xx_sts[i]? = some (C, nm, ds, .inl z)) (w : Cond.fieldLink M.2.2.2.2.1 idx C nm ds ∈ xx_gws) (kk : SW Y k n h (pc + 3) ls (.int z :: st)) : SW Y k n h pc ls st := by
  intro ρ ow H locs cells slots lsA r9 T hT Xs
  have hKK := O.2.2.2.2.2.2.2.1
  have hgr : (xt_s Y.1).heap.size ≤ H.size := by rw [← hT]; exact Xs.heapGrown
  have hold := O.2.2.2.2.2.2.2.2.2.2.2.2.2.2.2
  have hZ := (hKK.2.1.2.2.2.2.1 _ (List.mem_of_getElem? hq)).kept (fun a h1 _ => hold a h1)
  exact va_gets O.1 O.2.1 hZ (xx_vaS O r9 hgr) O.2.2.2.2.2.2.1 (O.2.2.2.2.2.1 _ w) (fun x hx => hx) hd (kk ρ ow H locs cells slots lsA (r9.to (xx_hc (a := .int z) trivial r9.stk))) T hT Xs
theorem sw_getsR {idx i r : Nat} {C nm ds : String} {c : XC} (O : xx_O Y M l d) (hd : decode M.2.1 pc = .ok (.getstatic idx, 3)) (hq : xx_sts[i]? = some (C, nm, ds, .inr r)) (w : Cond.fieldLink M.2.2.2.2.1 idx C nm ds ∈ xx_gws) (hc : h r = some c) (h1 : r < 1000) (kk : SW Y k n h (pc + 3) ls (.ref r :: st)) : SW Y k n h pc ls st := by
  intro ρ ow H locs cells slots lsA r9 T hT Xs
  have hKK := O.2.2.2.2.2.2.2.1
  have hgr : (xt_s Y.1).heap.size ≤ H.size := by rw [← hT]; exact Xs.heapGrown
  have hold := O.2.2.2.2.2.2.2.2.2.2.2.2.2.2.2
  have hZ := (hKK.2.1.2.2.2.2.1 _ (List.mem_of_getElem? hq)).kept (fun a h1 _ => hold a h1)
  have k1 := kk ρ ow H locs cells slots lsA (r9.to (xx_hc (a := .ref r) (by show (h r).isSome = true; rw [hc]; rfl) r9.stk))
  rw [show (Value.ref r :: st).map (xx_v ρ) = Value.ref (xd_E (xy_D Y) r) :: st.map (xx_v ρ) by rw [List.map_cons, ← xx_old r9 hc h1]; rfl] at k1
  exact va_gets O.1 O.2.1 hZ (xx_vaS O r9 hgr) O.2.2.2.2.2.2.1 (O.2.2.2.2.2.1 _ w) (fun x hx => hx) hd k1 T hT Xs
theorem xx_castR {X : String} {c : ClassId} {s : State} (hfc : s.vm.findClass X = some c) : va_Nw (.castable X X) s := by
  unfold va_Nw
  simp only [Cond.before, Cond.holds, Cond.value, hfc]
  rw [va_asg]
  rfl
theorem sw_castO {idx ci N r : Nat} {f : Nat → Value} {C : String} {T : u_T} {ty : Nat → FieldType} (O : xx_O Y M l d) (hd : decode M.2.1 pc = .ok (.checkcast idx, 3)) (K : xx_cl ci C T N ty) (hc : h r = some (ci, N, f)) (w : Cond.classLink M.2.2.2.2.1 idx C ∈ xx_gws) (kk : SW Y k n h (pc + 3) ls (.ref r :: st)) : SW Y k n h pc ls (.ref r :: st) := by
  intro ρ ow H locs cells slots lsA r9
  obtain ⟨⟨cell, q1, q2, q3, q4⟩, hS, hfc, kC, hkC, hkind⟩ := r9.obj O K hc
  exact va_castY O.1 O.2.1 O.2.2.2.2.2.2.1 (O.2.2.2.2.2.1 _ w) (xx_castR hfc) ⟨cell, q1, q3.1, by rw [q2]; exact hfc⟩ hd (kk ρ ow H locs cells slots lsA (r9.to r9.stk))
theorem xx_arrC (O : xx_O Y M l d) {t : Nat} (ht : t = 100 ∨ t = 101 ∨ t = 102) : (xt_s Y.1).vm.findClass (if t = 100 then "[I" else if t = 101 then "[Z" else "[B") = some (xd_A (xy_D Y) t) := by
  have h1 := (O.2.2.2.2.2.2.2.1.2.2 t (by omega) (by omega)).2 (by omega)
  rcases ht with rfl | rfl | rfl <;> exact h1
theorem sw_castA {idx t N r : Nat} {f : Nat → Value} (O : xx_O Y M l d) (hd : decode M.2.1 pc = .ok (.checkcast idx, 3)) (ht : t = 100 ∨ t = 101 ∨ t = 102) (hc : h r = some (t, N, f)) (w : Cond.classLink M.2.2.2.2.1 idx (if t = 100 then "[I" else if t = 101 then "[Z" else "[B") ∈ xx_gws) (kk : SW Y k n h (pc + 3) ls (.ref r :: st)) (hs0 : 1000 ≤ r := by omega) : SW Y k n h pc ls (.ref r :: st) := by
  intro ρ ow H locs cells slots lsA r9
  obtain ⟨q1, q2⟩ := r9.arr O (by omega) (by omega) hc hs0
  have hfc := xx_arrC O ht
  exact va_castY O.1 O.2.1 O.2.2.2.2.2.2.1 (O.2.2.2.2.2.1 _ w) (xx_castR hfc) ⟨_, q1, rfl, hfc⟩ hd (kk ρ ow H locs cells slots lsA (r9.to r9.stk))
theorem sw_baload {N r : Nat} {f : Nat → Value} {i : Int32} (O : xx_O Y M l d) (hd : decode M.2.1 pc = .ok (.baload, 1)) (hc : h r = some (102, N, f)) (hin : vp_in i N) {v : Value} (hv : f i.toNatClampNeg = v) (kk : SW Y k n h (pc + 1) ls (v :: st)) : SW Y k n h pc ls (.int i :: .ref r :: st) := by
  subst hv
  intro ρ ow H locs cells slots lsA r9
  obtain ⟨cell, q1, q2, q3, q4, q5, q6⟩ := r9.arrW O (by omega) (by omega) hc
  obtain ⟨i1, i2⟩ := xx_vpin2 hin q4
  exact W.bald O.1 O.2.1 q1 q2 q3 i1 (q6 _ i2) rfl rfl hd (kk ρ ow H locs cells slots lsA (r9.to (xx_hc (r9.1.2.2.2.2 r _ _ hc i2) (xx_ht (xx_ht r9.stk)))))
theorem sw_bastore {N r : Nat} {f : Nat → Value} {i x : Int32} (O : xx_O Y M l d) (hd : decode M.2.1 pc = .ok (.bastore, 1)) (hc : h r = some (102, N, f)) (hin : vp_in i N) (h1 : 1000 ≤ r) (hx : narrow .byte (.int x) = .int x) {h2 : XH} (he : xx_up h r (102, N, updV f i.toNatClampNeg (.int x)) = h2) (kk : SW Y k n h2 (pc + 1) ls st) : SW Y k n h pc ls (.int x :: .int i :: .ref r :: st) := by
  subst he
  intro ρ ow H locs cells slots lsA r9
  obtain ⟨q1, q2⟩ := r9.arr O (by omega) (by omega) hc h1
  obtain ⟨i1, i2⟩ := xx_vpin (cA := xd_A (xy_D Y) 102) (f := fun k => xx_v ρ (f k)) hin
  refine W.bast O.1 O.2.1 q1 q2 (fun q => by cases q) i1 rfl rfl hd (fun H' e1 e2 e3 => kk ρ ow H' _ cells slots lsA (r9.put hc h1 e2 e3 ?_ (fun j hj => ?_) (xx_ht (xx_ht (xx_ht r9.stk)))))
  · refine xx_cell.mk h1 ?_
    unfold xx_newc
    rw [if_neg (by show ¬ 102 < 100; omega), if_pos (by show 102 < 200; omega)]
    rw [hx] at e1
    rw [e1, arrV_store]
    refine congrArg some (xx_arr_eq fun j _ => ?_)
    show updV _ _ _ j = xx_v ρ (updV f _ _ j)
    unfold updV
    split <;> rfl
  · show xx_in h (updV f _ _ j)
    unfold updV
    split
    · exact trivial
    · exact r9.1.2.2.2.2 r _ j hc hj
theorem sw_i2b {x : Int32} (O : xx_O Y M l d) (hd : decode M.2.1 pc = .ok (.i2b, 1)) (kk : SW Y k n h (pc + 1) ls (.int x.toInt8.toInt32 :: st)) : SW Y k n h pc ls (.int x :: st) := fun ρ ow H locs cells slots lsA r => lv_i2b O.1 O.2.1 hd rfl (kk ρ ow H locs cells slots lsA (r.to (xx_hc (a := .int x.toInt8.toInt32) trivial (xx_ht r.stk))))
theorem sw_i2c {x : Int32} (O : xx_O Y M l d) (hd : decode M.2.1 pc = .ok (.i2c, 1)) (kk : SW Y k n h (pc + 1) ls (.int (x.toUInt32 % 65536).toInt32 :: st)) : SW Y k n h pc ls (.int x :: st) := fun ρ ow H locs cells slots lsA r => lv_i2c O.1 O.2.1 hd rfl (kk ρ ow H locs cells slots lsA (r.to (xx_hc (a := .int (x.toUInt32 % 65536).toInt32) trivial (xx_ht r.stk))))
theorem sw_pop2l {x : Int64} (O : xx_O Y M l d) (hd : decode M.2.1 pc = .ok (.pop2, 1)) (kk : SW Y k n h (pc + 1) ls st) : SW Y k n h pc ls (.long x :: st) := fun ρ ow H locs cells slots lsA r => lv_pop2_2 O.1 O.2.1 hd rfl (kk ρ ow H locs cells slots lsA (r.to (xx_ht r.stk)))
/-- what may lie in a row of objects -/
def xx_obO (h : XH) (x : Nat) : Prop := (∃ ci N f C T ty, xx_cl ci C T N ty ∧ h x = some (ci, N, f) ∧ Cond.castable C "java/lang/Object" ∈ xx_nws) ∨ ∃ N f, h x = some (100, N, f) ∧ Cond.castable "[I" "java/lang/Object" ∈ xx_nws ∧ 1000 ≤ x
theorem xx_any (O : xx_O Y M l d) (r9 : xx_R Y k n h ls st ρ ow H locs cells slots lsA) {x : Nat} (hx : xx_obO h x) : va_Any "java/lang/Object" (xt_s Y.1) H (ρ x) := by
  rcases hx with ⟨ci, N, f, C, T, ty, K, hc, hw⟩ | ⟨N, f, hc, hw, hs0⟩
  · obtain ⟨⟨cell, q1, q2, q3, q4⟩, hS, hfc, kC, hkC, hkind⟩ := r9.obj O K hc
    refine ⟨cell, q1, q3.1, ⟨kC, by rw [q2]; exact hkC⟩, fun comp h9 => ?_⟩
    obtain ⟨c0, t0, f1, f2, f3⟩ := Cond.castable_spec (O.2.2.2.2.2.2.2.2.1.use (args := #[]) hw)
    cases hfc.symm.trans f1
    cases h9.symm.trans f2
    rw [q2]
    exact f3
  · obtain ⟨q1, q2⟩ := r9.arr O (by omega) (by omega) hc hs0
    have hfc := xx_arrC O (t := 100) (.inl rfl)
    obtain ⟨kC, hkC, -⟩ := Vm.findClass_spec hfc
    refine ⟨_, q1, rfl, ⟨kC, hkC⟩, fun comp h9 => ?_⟩
    obtain ⟨c0, t0, f1, f2, f3⟩ := Cond.castable_spec (O.2.2.2.2.2.2.2.2.1.use (args := #[]) hw)
    cases hfc.symm.trans f1
    cases h9.symm.trans f2
    exact f3
theorem sw_aastore {N r x : Nat} {f : Nat → Value} {i : Int32} (O : xx_O Y M l d) (hd : decode M.2.1 pc = .ok (.aastore, 1)) (hc : h r = some (104, N, f)) (hin : vp_in i N) (h1 : 1000 ≤ r) (hx : xx_obO h x) {h2 : XH} (he : xx_up h r (104, N, updV f i.toNatClampNeg (.ref x)) = h2) (kk : SW Y k n h2 (pc + 1) ls st) : SW Y k n h pc ls (.ref x :: .int i :: .ref r :: st) := by
  subst he
  intro ρ ow H locs cells slots lsA r9
  obtain ⟨q1, q2⟩ := r9.arr O (by omega) (by omega) hc h1
  obtain ⟨i1, i2⟩ := xx_vpin (cA := xd_A (xy_D Y) 104) (f := fun k => xx_v ρ (f k)) hin
  obtain ⟨cellV, g1, g3, ⟨kC, hkC⟩, hasg⟩ := xx_any O r9 hx
  have hRA : va_RA (xt_s Y.1) (xd_A (xy_D Y) 104) (.object "java/lang/Object") := (O.2.2.2.2.2.2.2.1.2.2 104 (by omega) (by omega)).2 (by omega)
  obtain ⟨kA, comp, k1, k2, k3, -⟩ := hRA
  obtain ⟨kE, hkE, -⟩ := Vm.findClass_spec k3
  refine W.aast O.1 O.2.1 q1 (fun q h => by cases h) (fun h => by cases h) k1 k2 rfl hkE ⟨fun q => i1 (.inl q), Nat.not_le.mp fun q => i1 (.inr q)⟩ g1 (fun q h => by rw [h] at g3; cases g3) hkC (hasg _ k3) rfl rfl hd (fun H' e1 e2 e3 => kk ρ ow H' _ cells slots lsA (r9.put hc h1 e2 e3 ?_ (fun j hj => ?_) (xx_ht (xx_ht (xx_ht r9.stk)))))
  · refine xx_cell.mk h1 ?_
    unfold xx_newc
    rw [if_neg (by show ¬ 104 < 100; omega), if_pos (by show 104 < 200; omega)]
    rw [e1, arrV_store]
    refine congrArg some (xx_arr_eq fun j _ => ?_)
    show updV _ _ _ j = xx_v ρ (updV f _ _ j)
    unfold updV
    split <;> rfl
  · show xx_in h (updV f _ _ j)
    unfold updV
    split
    · exact xx_h0 r9.stk
    · exact r9.1.2.2.2.2 r _ j hc hj
theorem sw_anew {idx N r : Nat} {i : Int32} (O : xx_O Y M l d) (hd : decode M.2.1 pc = .ok (.anewarray idx, 3)) (w : Cond.classLink M.2.2.2.2.1 idx "java/lang/Object" ∈ xx_gws) (hn : ¬ i < 0) (hN : i.toNatClampNeg = N) (hb : N * 4 ≤ 536870912) (hr : h r = none) (h1 : 1000 ≤ r)
    (kk : SW Y k n (xx_blk h r 1 (fun _ => (104, N, fun _ => .null))) (pc + 3) ls (.ref r :: st)) : SW Y (k + 1) (n + N) h pc ls (.int i :: st) := by
  intro ρ ow H locs cells slots lsA r9
  have hKK := O.2.2.2.2.2.2.2.1
  have hw := O.2.2.2.2.2.1
  subst hN
  have hf : ∀ i, i < 1 → h (r + i) = none := fun i hi => by rw [show r + i = r by omega]; exact hr
  refine W.anew O.1 O.2.1 O.2.2.2.2.2.2.1 (hw _ w) (va_AO.use hKK.2.1.2.2.2.2.2.2.1) rfl hd rfl hn hb (by have := r9.2.2.2.1; omega) (by have := r9.2.2.2.2.1; omega) (fun cA kA comp f1 f2 f3 f4 => ?_)
  have hcA : cA = xd_A (xy_D Y) 104 := by
    obtain ⟨-, -, -, -, -, h4⟩ := (hKK.2.2 104 (by omega) (by omega)).2 (by omega)
    exact Option.some.inj (f1.symm.trans h4)
  have hρ : ∀ a, (h a).isSome = true → xx_ρn ρ r 1 H.size a = ρ a := fun a ha => if_neg (xx_blk_some (c := fun _ => (104, i.toNatClampNeg, fun _ => .null)) hf ha)
  have e5 : xx_ρn ρ r 1 H.size r = H.size := by
    unfold xx_ρn
    rw [if_pos ⟨by omega, by omega⟩]
    omega
  have R1 := r9.news (k := k) (n := n) (a := 1) (b := i.toNatClampNeg) (r0 := r) (N := 1) (c := fun _ => (104, i.toNatClampNeg, fun _ => .null)) (st' := .ref r :: st) (H1 := H.push { cls := cA, slots := Array.replicate i.toNatClampNeg .null, vm := .none }) (by omega) (by omega) hf h1 (by simp) (fun a ha => by rw [Array.getElem?_push, if_neg (Nat.ne_of_lt ha)]) (fun j hj => by
    obtain rfl : j = 0 := by omega
    refine xx_cell.mk (by omega) ?_
    unfold xx_newc
    rw [if_neg (show ¬ 104 < 100 by omega), if_pos (show 104 < 200 by omega)]
    show _[xx_ρn ρ r 1 H.size r]? = _
    rw [e5, arrV_new, hcA]
    simp only [Array.getElem?_push_size]
    exact congrArg some (xx_arr_eq fun j _ => rfl)) (fun i j _ _ => trivial) (xx_hc (by show (xx_blk h r 1 _ r).isSome = true; rw [xx_blk_0 (by omega)]; rfl) (fun v hv => xx_in_blk hf (xx_ht r9.stk v hv)))
  have k1 := kk _ _ _ locs _ _ lsA R1
  rw [show (Value.ref r :: st).map (xx_v (xx_ρn ρ r 1 H.size)) = Value.ref H.size :: st.map (xx_v ρ) by rw [List.map_cons, xx_map_eq hρ (xx_ht r9.stk)]; show Value.ref (xx_ρn ρ r 1 H.size r) :: _ = _; rw [e5]] at k1
  exact k1
end
end
section
/-! ===== a list seen as its object and its row, and back ===== -/
theorem sw_cls {Y : XY} {k n pc : Nat} {h : XH} {ls st : List Value} (kk : xx_cls h → SW Y k n h pc ls st) : SW Y k n h pc ls st := fun ρ ow H locs cells slots lsA r9 => kk r9.1.2.2.2.2 ρ ow H locs cells slots lsA r9
abbrev xx_lo (n : Nat) (e : Nat) : Nat → Value := vp_V [.int (nI n), .ref e, .int (nI n)]
theorem xx_lo_v {ρ : Nat → Nat} {n e ea : Nat} (he : ρ e = ea) : ∀ k, k < 3 → xx_v ρ (xx_lo n e k) = vp_V [.int (nI n), .ref ea, .int (nI n)] k := by
  intro k hk
  subst he
  match k, hk with
  | 0, _ => rfl
  | 1, _ => rfl
  | 2, _ => rfl
theorem xx_lo_in {h : XH} {n e : Nat} (he : (h e).isSome = true) : ∀ j, xx_in h (xx_lo n e j) := by
  intro j
  match j with
  | 0 => exact trivial
  | 1 => exact he
  | 2 => exact trivial
  | j + 3 => exact trivial
theorem xx_S.explode {D : XD} {ρ : Nat → Nat} {ow : Nat → Option Nat} {h : XH} {H : Heap} (S : xx_S D ρ ow h H) {r e n ci : Nat} {f f0 : Nat → Value} (hci : ci < 100) (hc : h r = some (200 + ci, n, f)) (hr : 1000 ≤ r) (he : h e = none) (h9 : 1000 ≤ e) (h0 : h 0 = some (104, 0, f0)) :
    (∃ cap ρ' ow', (n ≤ cap ∧ cap ≤ n + n / 2 + 10 ∧ n < 1048576 ∧ 0 < cap) ∧ (∀ a, (h a).isSome = true → ρ' a = ρ a) ∧ xx_S D ρ' ow' (xx_up (xx_up h r (ci, 3, xx_lo n e)) e (104, cap, fun j => if j < n then f j else .null)) H) ∨
    (n = 0 ∧ xx_S D ρ ow (xx_up h r (ci, 3, xx_lo n 0)) H) := by
  obtain ⟨s1, s2, s3, s4, s5⟩ := S
  obtain ⟨a1, a2⟩ := s4 r _ hc
  have a2 := a2.2 hr
  unfold xx_newc at a2
  rw [if_neg (by show ¬ 200 + ci < 100; omega), if_neg (by show ¬ 200 + ci < 200; omega)] at a2
  obtain ⟨q, ea, cap, e1, e2, e3, e4, e5, e6, e7, e8, e9⟩ := a2 (by show 200 + ci < 300; omega)
  have eci : 200 + ci - 200 = ci := by omega
  have e1 : (xd_cl D)[ci]? = some q := by rw [← eci]; exact e1
  have e3 : t_OB (ρ r) ((xd_G D).1 ci) 3 ((xd_G D).2 ci) H (vp_V [.int (nI n), .ref ea, .int (nI n)]) := by rw [← eci]; exact e3
  have e4 : n ≤ cap := e4
  have e5 : cap ≤ n + n / 2 + 10 := e5
  have e6 : n < 1048576 := e6
  have ho : ow (ρ r) = some r := by
    rcases a1 with ⟨h1, -⟩ | ⟨-, h1⟩
    · omega
    · exact h1
  have hre : r ≠ e := fun q => by rw [q, he] at hc; cases hc
  rcases e8 with ⟨c0, c1, c2⟩ | ⟨c0, c1⟩
  · right
    have hn : n = 0 := by omega
    have hr0 : r ≠ 0 := by omega
    have ρ0 : ρ 0 = ea := by
      rcases (s4 0 _ h0).1 with ⟨-, -, z⟩ | ⟨z, -⟩
      · rw [z, c1]
      · omega
    refine ⟨hn, s1, s2, s3, fun x c hx => ?_, fun x c j hx hj => ?_⟩
    · by_cases ex : x = r
      · subst ex
        rw [xx_up_eq] at hx
        cases hx
        refine ⟨.inr ⟨hr, ho⟩, ?_⟩
        refine xx_cell.mk hr ?_
        unfold xx_newc
        rw [if_pos hci]
        exact ⟨q, e1, e2.symm, by rw [e2]; exact e3.to (fun k hk => (xx_lo_v ρ0 k hk).symm)⟩
      · rw [xx_up_ne ex] at hx
        exact s4 x c hx
    · by_cases ex : x = r
      · subst ex
        rw [xx_up_eq] at hx
        cases hx
        refine xx_in_up (xx_lo_in (by rw [h0]; rfl) j)
      · rw [xx_up_ne ex] at hx
        exact xx_in_up (s5 x c j hx hj)
  · left
    have hae : ∀ a, (h a).isSome = true → va_up ρ e ea a = ρ a := fun a ha => by
      by_cases q : a = e
      · rw [q, he] at ha; cases ha
      · simp [va_up, q]
    have hee : va_up ρ e ea e = ea := by simp [va_up]
    refine ⟨cap, va_up ρ e ea, va_up ow ea (some e), ⟨e4, e5, e6, c0⟩, hae, s1, s2, fun a x hx => ?_, fun x c hx => ?_, fun x c j hx hj => ?_⟩
    · by_cases q : a = ea
      · exact s3 a r (by rw [q]; exact c1)
      · exact s3 a x (by simpa [va_up, q] using hx)
    · by_cases ex : x = e
      · subst ex
        rw [xx_up_eq] at hx
        cases hx
        refine ⟨.inr ⟨h9, by rw [hee]; simp [va_up]⟩, ?_⟩
        refine xx_cell.mk h9 ?_
        unfold xx_newc
        rw [if_neg (by show ¬ 104 < 100; omega), if_pos (by show 104 < 200; omega), hee, e9 c0]
        refine congrArg some (xx_arr_eq fun j hj => ?_)
        show _ = xx_v _ (if j < n then f j else .null)
        split
        · rename_i hjn
          exact (xx_v_eq hae (s5 r _ j hc hjn)).symm
        · rfl
      · rw [xx_up_ne ex] at hx
        by_cases er : x = r
        · subst er
          rw [xx_up_eq] at hx
          cases hx
          have hρr : va_up ρ e ea x = ρ x := hae x (by rw [hc]; rfl)
          refine ⟨.inr ⟨hr, by rw [hρr]; simp [va_up, Ne.symm e7, ho]⟩, ?_⟩
          refine xx_cell.mk hr ?_
          unfold xx_newc
          rw [if_pos hci]
          exact ⟨q, e1, e2.symm, by rw [e2, hρr]; exact e3.to (fun k hk => (xx_lo_v hee k hk).symm)⟩
        · rw [xx_up_ne er] at hx
          obtain ⟨b1, b2⟩ := s4 x c hx
          have hρx : va_up ρ e ea x = ρ x := hae x (by rw [hx]; rfl)
          have how : ∀ a, ow a = some x → va_up ow ea (some e) a = some x := fun a ha => by
            have : a ≠ ea := fun q => by rw [q, c1] at ha; exact er (Option.some.inj ha).symm
            simp [va_up, this, ha]
          refine ⟨?_, b2.names hρx how (fun j hj => xx_v_eq hae (s5 x c j hx hj))⟩
          rw [hρx]
          rcases b1 with b1 | ⟨b0, b1⟩
          · exact .inl b1
          · exact .inr ⟨b0, how _ b1⟩
    · by_cases ex : x = e
      · subst ex
        rw [xx_up_eq] at hx
        cases hx
        show xx_in _ (if j < n then f j else .null)
        split
        · rename_i hjn
          exact xx_in_up (xx_in_up (s5 r _ j hc hjn))
        · exact trivial
      · rw [xx_up_ne ex] at hx
        by_cases er : x = r
        · subst er
          rw [xx_up_eq] at hx
          cases hx
          exact xx_lo_in (by rw [xx_up_eq]; rfl) j
        · rw [xx_up_ne er] at hx
          exact xx_in_up (xx_in_up (s5 x c j hx hj))
/-- back: the row e goes under; nothing else names it -/
theorem xx_S.implode {D : XD} {ρ : Nat → Nat} {ow : Nat → Option Nat} {hb : XH} {H : Heap} {r e n cap ci : Nat} {f g : Nat → Value} (hci : ci < 100) (hcl : xx_cls hb) (he : hb e = none) (hr : 1000 ≤ r) (h9 : 1000 ≤ e) (hre : r ≠ e) (hrb : (hb r).isSome = true)
    (hg : ∀ j, j < cap → g j = if j < n then f j else .null) (hf : ∀ j, j < n → xx_in hb (f j)) (hcap : n ≤ cap ∧ cap ≤ n + n / 2 + 10 ∧ n < 1048576 ∧ 0 < cap)
    (S : xx_S D ρ ow (xx_up (xx_up hb r (ci, 3, xx_lo n e)) e (104, cap, g)) H) : xx_S D ρ (va_up ow (ρ e) (some r)) (xx_up hb r (200 + ci, n, f)) H := by
  obtain ⟨s1, s2, s3, s4, s5⟩ := S
  have hE := s4 e (104, cap, g) (xx_up_eq _ _ _)
  have hR := s4 r (ci, 3, xx_lo n e) (by rw [xx_up_ne hre, xx_up_eq])
  have oe : ow (ρ e) = some e := by
    rcases hE.1 with ⟨z, -⟩ | ⟨-, z⟩
    · omega
    · exact z
  have orr : ow (ρ r) = some r := by
    rcases hR.1 with ⟨z, -⟩ | ⟨-, z⟩
    · omega
    · exact z
  have hne : ρ e ≠ ρ r := fun q => by rw [q, orr] at oe; exact hre (Option.some.inj oe)
  have hup : ∀ v, xx_in hb v → xx_in (xx_up hb r (200 + ci, n, f)) v := fun v hv => xx_in_up hv
  refine ⟨s1, s2, fun a x hx => ?_, fun x c hx => ?_, fun x c j hx hj => ?_⟩
  · by_cases q : a = ρ e
    · exact s3 a e (by rw [q]; exact oe)
    · exact s3 a x (by simpa [va_up, q] using hx)
  · by_cases er : x = r
    · subst er
      rw [xx_up_eq] at hx
      cases hx
      refine ⟨.inr ⟨hr, by simp [va_up, Ne.symm hne, orr]⟩, ?_⟩
      refine xx_cell.mk hr ?_
      unfold xx_newc
      rw [if_neg (by show ¬ 200 + ci < 100; omega), if_neg (by show ¬ 200 + ci < 200; omega)]
      intro _
      have hR2 := hR.2.2 hr
      unfold xx_newc at hR2
      rw [if_pos hci] at hR2
      obtain ⟨q, q1, q2, q3⟩ := hR2
      have hE2 := hE.2.2 h9
      unfold xx_newc at hE2
      rw [if_neg (by show ¬ 104 < 100; omega), if_pos (by show 104 < 200; omega)] at hE2
      have q2 : q.2.2 = 3 := q2.symm
      refine ⟨q, ρ e, cap, by rw [show 200 + ci - 200 = ci by omega]; exact q1, q2, ?_, hcap.1, hcap.2.1, hcap.2.2.1, hne, .inr ⟨hcap.2.2.2, by simp [va_up]⟩, ?_⟩
      · rw [show 200 + ci - 200 = ci by omega]
        rw [q2] at q3
        exact q3.to (fun k hk => xx_lo_v rfl k hk)
      · intro _
        rw [hE2]
        refine congrArg some (xx_arr_eq fun j hj => ?_)
        show xx_v ρ (g j) = _
        rw [hg j hj]
        split <;> rfl
    · rw [xx_up_ne er] at hx
      have ex : x ≠ e := fun q => by rw [q, he] at hx; cases hx
      obtain ⟨b1, b2⟩ := s4 x c (by rw [xx_up_ne ex, xx_up_ne er]; exact hx)
      have how : ∀ a, ow a = some x → va_up ow (ρ e) (some r) a = some x := fun a ha => by
        have : a ≠ ρ e := fun q => by rw [q, oe] at ha; exact ex (Option.some.inj ha).symm
        simp [va_up, this, ha]
      refine ⟨?_, b2.names rfl how (fun j hj => rfl)⟩
      rcases b1 with b1 | ⟨b0, b1⟩
      · exact .inl b1
      · exact .inr ⟨b0, how _ b1⟩
  · by_cases er : x = r
    · subst er
      rw [xx_up_eq] at hx
      cases hx
      exact hup _ (hf j hj)
    · rw [xx_up_ne er] at hx
      exact hup _ (hcl x c j hx hj)
/-- the list of nothing, which has the empty row -/
theorem xx_S.implode0 {D : XD} {ρ : Nat → Nat} {ow : Nat → Option Nat} {hb : XH} {H : Heap} {r ci : Nat} {f f0 : Nat → Value} (hci : ci < 100) (hcl : xx_cls hb) (hr : 1000 ≤ r) (h0 : hb 0 = some (104, 0, f0))
    (S : xx_S D ρ ow (xx_up hb r (ci, 3, xx_lo 0 0)) H) : xx_S D ρ ow (xx_up hb r (200 + ci, 0, f)) H := by
  obtain ⟨s1, s2, s3, s4, s5⟩ := S
  have hR := s4 r (ci, 3, xx_lo 0 0) (by rw [xx_up_eq])
  have hZ := s4 0 (104, 0, f0) (by rw [xx_up_ne (by omega)]; exact h0)
  have orr : ow (ρ r) = some r := by
    rcases hR.1 with ⟨z, -⟩ | ⟨-, z⟩
    · omega
    · exact z
  obtain ⟨z1, z2⟩ : ρ 0 < (xd_H D).size ∧ ρ 0 = xd_E D 0 := by
    rcases hZ.1 with ⟨-, z⟩ | ⟨z, -⟩
    · exact ⟨z.1 (by show 104 < 300; omega), z.2⟩
    · omega
  refine ⟨s1, s2, s3, fun x c hx => ?_, fun x c j hx hj => ?_⟩
  · by_cases er : x = r
    · subst er
      rw [xx_up_eq] at hx
      cases hx
      refine ⟨.inr ⟨hr, orr⟩, ?_⟩
      refine xx_cell.mk hr ?_
      unfold xx_newc
      rw [if_neg (by show ¬ 200 + ci < 100; omega), if_neg (by show ¬ 200 + ci < 200; omega)]
      intro _
      have hR2 := hR.2.2 hr
      unfold xx_newc at hR2
      rw [if_pos hci] at hR2
      obtain ⟨q, q1, q2, q3⟩ := hR2
      have q2 : q.2.2 = 3 := q2.symm
      have hne : ρ 0 ≠ ρ x := fun q => by have := (s3 _ _ orr).1; omega
      refine ⟨q, ρ 0, 0, by rw [show 200 + ci - 200 = ci by omega]; exact q1, q2, ?_, Nat.le_refl _, Nat.zero_le _, (Nat.le_of_ble_eq_true rfl), hne, .inl ⟨rfl, z2, z1⟩, ?_⟩
      · rw [show 200 + ci - 200 = ci by omega]
        rw [q2] at q3
        exact q3.to (fun k hk => xx_lo_v rfl k hk)
      · exact fun q => absurd q (Nat.lt_irrefl 0)
    · rw [xx_up_ne er] at hx
      exact s4 x c (by rw [xx_up_ne er]; exact hx)
  · by_cases er : x = r
    · subst er
      rw [xx_up_eq] at hx
      cases hx
      have hj : j < 0 := hj
      omega
    · rw [xx_up_ne er] at hx
      exact xx_in_up (hcl x c j hx hj)
section
variable {Y : XY} {M : XM} {l : Launch} {d k n : Nat} {h : XH} {pc : Nat} {ls st : List Value} {ρ : Nat → Nat} {ow : Nat → Option Nat} {H : Heap} {locs : List Loc} {cells slots : Nat} {lsA : Array Slot}
/-- the same machine's heap, seen otherwise; the names keep what they name -/
theorem xx_R.view {h2 : XH} {ρ2 : Nat → Nat} {ow2 : Nat → Option Nat} (r9 : xx_R Y k n h ls st ρ ow H locs cells slots lsA) (S : xx_S (xy_D Y) ρ2 ow2 h2 H) (hρ : ∀ a, (h a).isSome = true → ρ2 a = ρ a) (hY : ∀ a, (xy_h Y a).isSome = true → (h2 a).isSome = true) (hl : ∀ v ∈ ls, xx_in h2 v) (hs : ∀ v ∈ st, xx_in h2 v) : xx_R Y k n h2 ls st ρ2 ow2 H locs cells slots lsA :=
  ⟨S, fun q hq => ⟨hY q hq, by rw [hρ q (r9.2.1 q hq).1]; exact (r9.2.1 q hq).2⟩, r9.2.2.1, r9.2.2.2.1, r9.2.2.2.2.1, r9.L.names hρ r9.lcl, hl, hs⟩
theorem xx_in_of {h2 : XH} (hd : ∀ a, (h a).isSome = true → (h2 a).isSome = true) {v : Value} (hv : xx_in h v) : xx_in h2 v := by
  cases v with
  | ref a => exact hd a hv
  | _ => exact trivial
theorem sw_explode {r e n9 ci : Nat} {f f0 : Nat → Value} (hci : ci < 100) (hc : h r = some (200 + ci, n9, f)) (hr : 1000 ≤ r) (he : h e = none) (h9 : 1000 ≤ e) (h0 : h 0 = some (104, 0, f0))
    (kk : ∀ cap, (n9 ≤ cap ∧ cap ≤ n9 + n9 / 2 + 10 ∧ n9 < 1048576 ∧ 0 < cap) → SW Y k n (xx_up (xx_up h r (ci, 3, xx_lo n9 e)) e (104, cap, fun j => if j < n9 then f j else .null)) pc ls st)
    (k0 : n9 = 0 → SW Y k n (xx_up h r (ci, 3, xx_lo n9 0)) pc ls st) : SW Y k n h pc ls st := by
  intro ρ ow H locs cells slots lsA r9
  have up1 : ∀ c a, (h a).isSome = true → (xx_up h r c a).isSome = true := fun c a ha => by
    unfold xx_up
    split
    · rfl
    · exact ha
  have up2 : ∀ c c2 a, (h a).isSome = true → (xx_up (xx_up h r c) e c2 a).isSome = true := fun c c2 a ha => by
    show (if a = e then some c2 else xx_up h r c a).isSome = true
    split
    · rfl
    · exact up1 c a ha
  rcases r9.1.explode hci hc hr he h9 h0 with ⟨cap, ρ', ow', hcap, hρ, S⟩ | ⟨hn, S⟩
  · have := kk cap hcap ρ' ow' H locs cells slots lsA (r9.view S hρ (fun a ha => up2 _ _ a (r9.2.1 a ha).1) (fun v hv => xx_in_of (up2 _ _) (r9.lcl v hv)) (fun v hv => xx_in_of (up2 _ _) (r9.stk v hv)))
    rw [xx_map_eq hρ r9.stk] at this
    exact this
  · exact k0 hn ρ ow H locs cells slots lsA (r9.view S (fun a _ => rfl) (fun a ha => up1 _ a (r9.2.1 a ha).1) (fun v hv => xx_in_of (up1 _) (r9.lcl v hv)) (fun v hv => xx_in_of (up1 _) (r9.stk v hv)))
theorem sw_implode {hb : XH} {r e n9 cap ci : Nat} {f g : Nat → Value} (hci : ci < 100) (hcl : xx_cls hb) (he : hb e = none) (hr : 1000 ≤ r) (h9 : 1000 ≤ e) (hre : r ≠ e) (hrb : (hb r).isSome = true)
    (hg : ∀ j, j < cap → g j = if j < n9 then f j else .null) (hf : ∀ j, j < n9 → xx_in hb (f j)) (hcap : n9 ≤ cap ∧ cap ≤ n9 + n9 / 2 + 10 ∧ n9 < 1048576 ∧ 0 < cap)
    (hY : (xy_h Y e).isSome = false) (hl : ∀ v ∈ ls, xx_in hb v) (hs : ∀ v ∈ st, xx_in hb v)
    (kk : SW Y k n (xx_up hb r (200 + ci, n9, f)) pc ls st) : SW Y k n (xx_up (xx_up hb r (ci, 3, xx_lo n9 e)) e (104, cap, g)) pc ls st := by
  intro ρ ow H locs cells slots lsA r9
  have up1 : ∀ c a, (hb a).isSome = true → (xx_up hb r c a).isSome = true := fun c a ha => by
    unfold xx_up
    split
    · rfl
    · exact ha
  refine kk ρ _ H locs cells slots lsA (r9.view (xx_S.implode hci hcl he hr h9 hre hrb hg hf hcap r9.1) (fun a _ => rfl) (fun a ha => ?_) (fun v hv => xx_in_of (up1 _) (hl v hv)) (fun v hv => xx_in_of (up1 _) (hs v hv)))
  have h1 := (r9.2.1 a ha).1
  have hae : a ≠ e := fun q => by rw [q, hY] at ha; cases ha
  rw [xx_up_ne hae] at h1
  by_cases q : a = r
  · rw [q, xx_up_eq]; rfl
  · rw [xx_up_ne q] at h1 ⊢
    exact h1
theorem sw_implode0 {hb : XH} {r ci : Nat} {f f0 : Nat → Value} (hci : ci < 100) (hcl : xx_cls hb) (hr : 1000 ≤ r) (h0 : hb 0 = some (104, 0, f0)) (kk : SW Y k n (xx_up hb r (200 + ci, 0, f)) pc ls st) : SW Y k n (xx_up hb r (ci, 3, xx_lo 0 0)) pc ls st := by
  intro ρ ow H locs cells slots lsA r9
  have up1 : ∀ a, (xx_up hb r (ci, 3, xx_lo 0 0) a).isSome = true → (xx_up hb r (200 + ci, 0, f) a).isSome = true := fun a ha => by
    unfold xx_up at ha ⊢
    split
    · rfl
    · rename_i q
      rw [if_neg q] at ha
      exact ha
  exact kk ρ _ H locs cells slots lsA (r9.view (xx_S.implode0 hci hcl hr h0 r9.1) (fun a _ => rfl) (fun a ha => up1 a (r9.2.1 a ha).1) (fun v hv => xx_in_of up1 (r9.lcl v hv)) (fun v hv => xx_in_of up1 (r9.stk v hv)))
/-- cells that nothing names are dropped -/
theorem sw_drop {h2 : XH} (hs : xx_sub h2 h) (hcl : xx_cls h2) (hY : ∀ a, (xy_h Y a).isSome = true → (h2 a).isSome = true) (hl : ∀ v ∈ ls, xx_in h2 v) (hst : ∀ v ∈ st, xx_in h2 v) (kk : SW Y k n h2 pc ls st) : SW Y k n h pc ls st := fun ρ ow H locs cells slots lsA r9 =>
  kk ρ ow H locs cells slots lsA (r9.view (r9.1.drop hs hcl) (fun a _ => rfl) hY hl hst)
end
end
