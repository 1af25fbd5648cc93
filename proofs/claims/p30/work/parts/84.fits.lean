/-! ===== the reference: isFits ===== -/
def f_MisFits (σ : XS9) (x : Int32) (j c C : Nat) (rg : Nat → Nat) (qa ch : Nat) : Int32 := (if (f_MisFree σ (σ qa c) j rg) = 0 then 0 else f_Mcp (u2 σ qa c ((σ qa c) ||| (1 <<< ((nI j) &&& 31)))) x (j + 1) C rg qa ch)
def g_MisFits (σ : XS9) (x : Int32) (j c C : Nat) (rg : Nat → Nat) (qa ch : Nat) : XS9 := (if (f_MisFree σ (σ qa c) j rg) = 0 then σ else u2 (g_Mcp (u2 σ qa c ((σ qa c) ||| (1 <<< ((nI j) &&& 31)))) x (j + 1) C rg qa ch) qa c (((g_Mcp (u2 σ qa c ((σ qa c) ||| (1 <<< ((nI j) &&& 31)))) x (j + 1) C rg qa ch) qa c) &&& ((1 <<< ((nI j) &&& 31)) ^^^ (-1))))
theorem ct_X14_isFits {l : Launch} {h : XH} (hl : l.stackTraces = false) {z : Int64} {σ : XS9} (hbs : xx_bs h) {R : Nat} (hR : σ 5001 900 = nI R) (hR5 : R ≤ 5) {C : Nat} (hS : σ 5004 900 = nI (2 * C)) (hC10 : C ≤ 10) {rg : Nat → Nat} (hrg : ∀ q, q < C → σ 5004 (2 * q) = nI (rg q) ∧ rg q < R) {qa ch : Nat} (hqa : 20000 ≤ qa ∧ qa < 20010) (hqf : σ qa 20 = nI 1) (hqn : σ qa 21 = nI ch) (hch : ch ≤ 6) {x : Int32} {j : Nat} (hj : j < C) {c : Nat} (hc : c < ch)  : XEx l m_X14_isFits (C + 8) 0 0 [.ref 5000, .int x, .int (nI j), .int (nI c), .ref qa] (setM z σ h) (some (.int (f_MisFits σ x j c C rg qa ch))) (setM z (g_MisFits σ x j c C rg qa ch) h) := by
  refine XMet.of hl rfl rfl (Nat.le_of_ble_eq_true rfl) (fun Y O hh hQ => ?_)
  show SW Y 0 0 (setM z σ h) 0 [.ref 5000, .int x, .int (nI j), .int (nI c), .ref qa, xx_d] []
  refine sw_aload_n O (xx_dt dd_X14_isFits 0 rfl) rfl ?_
  refine sw_aload O (xx_dt dd_X14_isFits 1 rfl) rfl ?_
  refine sw_iload_n O (xx_dt dd_X14_isFits 2 rfl) rfl ?_
  refine sw_iaload (v := .int (σ qa c)) O (xx_dt dd_X14_isFits 3 rfl) ((lm_tmp (z := z) (σ := σ) (h := h) (q := qa) (by omega) (fl1 hqf) hqn (by omega)).get _) (pk_in c _ (by omega)) (by rw [nI_clamp (by omega)]; try exact rfl) ?_
  refine sw_iload_n O (xx_dt dd_X14_isFits 4 rfl) rfl ?_
  refine sw_callVx (as := [.int (σ qa c), .int (nI j)]) (st := []) (st2 := [.int (f_MisFree σ (σ qa c) j rg)]) O (ct_X14_isFree hl (z := z) (σ := σ) hbs (R := R) hR (by omega) (C := C) hS (by omega) (rg := rg) hrg (x := σ qa c) (j := j) (by omega)) ce_X14_isFree ml_X14_268 iv_X14_isFree cl_X14 rfl (lm_mod (σ := σ)) (xx_dt dd_X14_isFits 5 rfl) (by omega) rfl rfl (Nat.le_of_ble_eq_true rfl) rfl ?_
  refine sw_if_ne (tgt := 14) O (xx_dt dd_X14_isFits 6 rfl) (by decide) (fun q1 => ?_) (fun q1 => ?_)
  · refine sw_aload O (xx_dt dd_X14_isFits 9 rfl) rfl ?_
    refine sw_iload_n O (xx_dt dd_X14_isFits 10 rfl) rfl ?_
    refine sw_dup2 O (xx_dt dd_X14_isFits 11 rfl) rfl rfl ?_
    refine sw_iaload (v := .int (σ qa c)) O (xx_dt dd_X14_isFits 12 rfl) ((lm_tmp (z := z) (σ := σ) (h := h) (q := qa) (by omega) (fl1 hqf) hqn (by omega)).get _) (pk_in c _ (by omega)) (by rw [nI_clamp (by omega)]; try exact rfl) ?_
    refine sw_iconst (x := 1) O (xx_dt dd_X14_isFits 13 rfl) (by decide) ?_
    refine sw_iload_n O (xx_dt dd_X14_isFits 14 rfl) rfl ?_
    refine sw_ishl O (xx_dt dd_X14_isFits 15 rfl) ?_
    refine sw_ior O (xx_dt dd_X14_isFits 16 rfl) ?_
    refine sw_iastore (h2 := setM z (u2 σ qa c ((σ qa c) ||| (1 <<< ((nI j) &&& 31)))) h) O (xx_dt dd_X14_isFits 17 rfl) ((lm_tmp (z := z) (σ := σ) (h := h) (q := qa) (by omega) (fl1 hqf) hqn (by omega)).get _) (pk_in c _ (by omega)) (by omega) (by rw [nI_clamp (by omega)]; exact ((lm_tmp (z := z) (σ := σ) (h := h) (q := qa) (by omega) (fl1 hqf) hqn (by omega)).put (by omega))) ?_
    refine sw_aload_n O (xx_dt dd_X14_isFits 18 rfl) rfl ?_
    refine sw_iload_n O (xx_dt dd_X14_isFits 19 rfl) rfl ?_
    refine sw_iload_n O (xx_dt dd_X14_isFits 20 rfl) rfl ?_
    refine sw_iconst (x := 1) O (xx_dt dd_X14_isFits 21 rfl) (by decide) ?_
    refine sw_iadd O (xx_dt dd_X14_isFits 22 rfl) ?_
    rw [nI_a1 j]
    refine sw_aload O (xx_dt dd_X14_isFits 23 rfl) rfl ?_
    refine sw_callVx (as := [.int x, .int (nI (j + 1)), .ref qa]) (st := []) (st2 := [.int (f_Mcp (u2 σ qa c ((σ qa c) ||| (1 <<< ((nI j) &&& 31)))) x (j + 1) C rg qa ch)]) O (ct_X14_canPack hl (z := z) (σ := u2 σ qa c ((σ qa c) ||| (1 <<< ((nI j) &&& 31)))) hbs (R := R) ((congrFun (u2_ne (by omega)) 900).trans hR) (by omega) (C := C) ((congrFun (u2_ne (by omega)) 900).trans hS) (by omega) (rg := rg) (fun j9 hj9 => by rw [show (u2 σ qa c ((σ qa c) ||| (1 <<< ((nI j) &&& 31)))) 5004 = σ 5004 from (u2_ne (by omega))]; exact hrg j9 hj9) (qa := qa) (ch := ch) (by omega) ((u2_oi (by omega)).trans hqf) ((u2_oi (by omega)).trans hqn) (by omega) (x := x) (fr := j + 1) (by omega)) ce_X14_canPack ml_X14_272 iv_X14_canPack cl_X14 rfl (lm_mod (σ := u2 σ qa c ((σ qa c) ||| (1 <<< ((nI j) &&& 31))))) (xx_dt dd_X14_isFits 24 rfl) (by omega) rfl rfl (Nat.le_of_ble_eq_true rfl) rfl ?_
    refine sw_istore (ls2 := [.ref 5000, .int x, .int (nI j), .int (nI c), .ref qa, .int (f_Mcp (u2 σ qa c ((σ qa c) ||| (1 <<< ((nI j) &&& 31)))) x (j + 1) C rg qa ch)]) O (xx_dt dd_X14_isFits 25 rfl) (by decide) rfl ?_
    refine sw_aload O (xx_dt dd_X14_isFits 26 rfl) rfl ?_
    refine sw_iload_n O (xx_dt dd_X14_isFits 27 rfl) rfl ?_
    refine sw_dup2 O (xx_dt dd_X14_isFits 28 rfl) rfl rfl ?_
    refine sw_iaload (v := .int ((g_Mcp (u2 σ qa c ((σ qa c) ||| (1 <<< ((nI j) &&& 31)))) x (j + 1) C rg qa ch) qa c)) O (xx_dt dd_X14_isFits 29 rfl) ((lm_tmp (z := z) (σ := g_Mcp (u2 σ qa c ((σ qa c) ||| (1 <<< ((nI j) &&& 31)))) x (j + 1) C rg qa ch) (h := h) (q := qa) (by omega) (fl1 ((((fl_Mcp (by omega)).1).trans (u2_oi (by omega))).trans hqf)) ((((fl_Mcp (by omega)).2).trans (u2_oi (by omega))).trans hqn) (by omega)).get _) (pk_in c _ (by omega)) (by rw [nI_clamp (by omega)]; try exact rfl) ?_
    refine sw_iconst (x := 1) O (xx_dt dd_X14_isFits 30 rfl) (by decide) ?_
    refine sw_iload_n O (xx_dt dd_X14_isFits 31 rfl) rfl ?_
    refine sw_ishl O (xx_dt dd_X14_isFits 32 rfl) ?_
    refine sw_iconst (x := (-1)) O (xx_dt dd_X14_isFits 33 rfl) (by decide) ?_
    refine sw_ixor O (xx_dt dd_X14_isFits 34 rfl) ?_
    refine sw_iand O (xx_dt dd_X14_isFits 35 rfl) ?_
    refine sw_iastore (h2 := setM z (u2 (g_Mcp (u2 σ qa c ((σ qa c) ||| (1 <<< ((nI j) &&& 31)))) x (j + 1) C rg qa ch) qa c (((g_Mcp (u2 σ qa c ((σ qa c) ||| (1 <<< ((nI j) &&& 31)))) x (j + 1) C rg qa ch) qa c) &&& ((1 <<< ((nI j) &&& 31)) ^^^ (-1)))) h) O (xx_dt dd_X14_isFits 36 rfl) ((lm_tmp (z := z) (σ := g_Mcp (u2 σ qa c ((σ qa c) ||| (1 <<< ((nI j) &&& 31)))) x (j + 1) C rg qa ch) (h := h) (q := qa) (by omega) (fl1 ((((fl_Mcp (by omega)).1).trans (u2_oi (by omega))).trans hqf)) ((((fl_Mcp (by omega)).2).trans (u2_oi (by omega))).trans hqn) (by omega)).get _) (pk_in c _ (by omega)) (by omega) (by rw [nI_clamp (by omega)]; exact ((lm_tmp (z := z) (σ := g_Mcp (u2 σ qa c ((σ qa c) ||| (1 <<< ((nI j) &&& 31)))) x (j + 1) C rg qa ch) (h := h) (q := qa) (by omega) (fl1 ((((fl_Mcp (by omega)).1).trans (u2_oi (by omega))).trans hqf)) ((((fl_Mcp (by omega)).2).trans (u2_oi (by omega))).trans hqn) (by omega)).put (by omega))) ?_
    refine sw_iload O (xx_dt dd_X14_isFits 37 rfl) rfl ?_
    exact sw_iret O (xx_dt dd_X14_isFits 38 rfl) rfl (xx_bool (bo_Mpk _ _ _)) (by rw [hQ]; exact ⟨by unfold f_MisFits; simp only [if_neg q1], by unfold g_MisFits; simp only [if_neg q1]⟩)
  · refine sw_iconst (x := 0) O (xx_dt dd_X14_isFits 7 rfl) (by decide) ?_
    exact sw_iret O (xx_dt dd_X14_isFits 8 rfl) rfl rfl (by rw [hQ]; exact ⟨by unfold f_MisFits; simp only [if_pos q1], by unfold g_MisFits; simp only [if_pos q1]⟩)
